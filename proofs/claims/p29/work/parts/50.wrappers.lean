/-! the law's own methods that catch -/
theorem mc_L_abortsWith : Cond.codeWith yL_abortsWith cL_abortsWith 4 (some .int) [(0, 6, 7, 15)] ∈ wsL_law := (List.mem_of_getElem? (i := 510) (by decide +kernel))
theorem mt_L_abortsWith : Cond.static yL_abortsWith ∈ wsL_law := (List.mem_of_getElem? (i := 509) (by decide +kernel))
theorem md_L_abortsWith : yL_abortsWith.cls = RL ∧ yL_abortsWith.cls ≠ "java/lang/invoke/MethodHandle" ∧ yL_abortsWith.cls ≠ "java/lang/invoke/VarHandle" ∧ (parseMethodDescriptor yL_abortsWith.desc).map (fun d => d.parameters.length) = some 3 := by decide +kernel
theorem mc_L_again : Cond.codeWith yL_again cL_again 3 (some .int) [(0, 5, 6, 34), (0, 5, 10, 28)] ∈ wsL_law := (List.mem_of_getElem? (i := 374) (by decide +kernel))
theorem mt_L_again : Cond.static yL_again ∈ wsL_law := (List.mem_of_getElem? (i := 373) (by decide +kernel))
theorem md_L_again : yL_again.cls = RL ∧ yL_again.cls ≠ "java/lang/invoke/MethodHandle" ∧ yL_again.cls ≠ "java/lang/invoke/VarHandle" ∧ (parseMethodDescriptor yL_again.desc).map (fun d => d.parameters.length) = some 2 := by decide +kernel
theorem mc_L_append : Cond.codeWith yL_append cL_append 3 (some .int) [(0, 5, 6, 15), (0, 5, 10, 28)] ∈ wsL_law := (List.mem_of_getElem? (i := 524) (by decide +kernel))
theorem mt_L_append : Cond.static yL_append ∈ wsL_law := (List.mem_of_getElem? (i := 523) (by decide +kernel))
theorem md_L_append : yL_append.cls = RL ∧ yL_append.cls ≠ "java/lang/invoke/MethodHandle" ∧ yL_append.cls ≠ "java/lang/invoke/VarHandle" ∧ (parseMethodDescriptor yL_append.desc).map (fun d => d.parameters.length) = some 2 := by decide +kernel
theorem mc_L_begin : Cond.codeWith yL_begin cL_begin 5 (some .int) [(0, 7, 8, 15)] ∈ wsL_law := (List.mem_of_getElem? (i := 232) (by decide +kernel))
theorem mt_L_begin : Cond.static yL_begin ∈ wsL_law := (List.mem_of_getElem? (i := 231) (by decide +kernel))
theorem md_L_begin : yL_begin.cls = RL ∧ yL_begin.cls ≠ "java/lang/invoke/MethodHandle" ∧ yL_begin.cls ≠ "java/lang/invoke/VarHandle" ∧ (parseMethodDescriptor yL_begin.desc).map (fun d => d.parameters.length) = some 4 := by decide +kernel
theorem mc_L_cached : Cond.codeWith yL_cached cL_cached 4 (some .int) [(0, 6, 7, 34)] ∈ wsL_law := (List.mem_of_getElem? (i := 156) (by decide +kernel))
theorem mt_L_cached : Cond.static yL_cached ∈ wsL_law := (List.mem_of_getElem? (i := 155) (by decide +kernel))
theorem md_L_cached : yL_cached.cls = RL ∧ yL_cached.cls ≠ "java/lang/invoke/MethodHandle" ∧ yL_cached.cls ≠ "java/lang/invoke/VarHandle" ∧ (parseMethodDescriptor yL_cached.desc).map (fun d => d.parameters.length) = some 3 := by decide +kernel
theorem mc_L_cell : Cond.code yL_cell cL_cell 2 (some .int) ∈ wsL_law := (List.mem_of_getElem? (i := 87) (by decide +kernel))
theorem mt_L_cell : Cond.static yL_cell ∈ wsL_law := (List.mem_of_getElem? (i := 85) (by decide +kernel))
theorem md_L_cell : yL_cell.cls = RL ∧ yL_cell.cls ≠ "java/lang/invoke/MethodHandle" ∧ yL_cell.cls ≠ "java/lang/invoke/VarHandle" ∧ (parseMethodDescriptor yL_cell.desc).map (fun d => d.parameters.length) = some 2 := by decide +kernel
theorem mc_L_commit : Cond.codeWith yL_commit cL_commit 4 (some .int) [(0, 6, 7, 34), (0, 6, 11, 15)] ∈ wsL_law := (List.mem_of_getElem? (i := 193) (by decide +kernel))
theorem mt_L_commit : Cond.static yL_commit ∈ wsL_law := (List.mem_of_getElem? (i := 192) (by decide +kernel))
theorem md_L_commit : yL_commit.cls = RL ∧ yL_commit.cls ≠ "java/lang/invoke/MethodHandle" ∧ yL_commit.cls ≠ "java/lang/invoke/VarHandle" ∧ (parseMethodDescriptor yL_commit.desc).map (fun d => d.parameters.length) = some 3 := by decide +kernel
theorem mc_L_commitValue : Cond.codeWith yL_commitValue cL_commitValue 5 (some .int) [(0, 7, 8, 34)] ∈ wsL_law := (List.mem_of_getElem? (i := 206) (by decide +kernel))
theorem mt_L_commitValue : Cond.static yL_commitValue ∈ wsL_law := (List.mem_of_getElem? (i := 205) (by decide +kernel))
theorem md_L_commitValue : yL_commitValue.cls = RL ∧ yL_commitValue.cls ≠ "java/lang/invoke/MethodHandle" ∧ yL_commitValue.cls ≠ "java/lang/invoke/VarHandle" ∧ (parseMethodDescriptor yL_commitValue.desc).map (fun d => d.parameters.length) = some 4 := by decide +kernel
theorem mc_L_commits : Cond.code yL_commits cL_commits 1 (some .int) ∈ wsL_law := (List.mem_of_getElem? (i := 541) (by decide +kernel))
theorem mt_L_commits : Cond.static yL_commits ∈ wsL_law := (List.mem_of_getElem? (i := 540) (by decide +kernel))
theorem md_L_commits : yL_commits.cls = RL ∧ yL_commits.cls ≠ "java/lang/invoke/MethodHandle" ∧ yL_commits.cls ≠ "java/lang/invoke/VarHandle" ∧ (parseMethodDescriptor yL_commits.desc).map (fun d => d.parameters.length) = some 1 := by decide +kernel
theorem mc_L_core : Cond.codeWith yL_core cL_core 4 (some .int) [(0, 6, 7, 34), (0, 6, 11, 15)] ∈ wsL_law := (List.mem_of_getElem? (i := 163) (by decide +kernel))
theorem mt_L_core : Cond.static yL_core ∈ wsL_law := (List.mem_of_getElem? (i := 162) (by decide +kernel))
theorem md_L_core : yL_core.cls = RL ∧ yL_core.cls ≠ "java/lang/invoke/MethodHandle" ∧ yL_core.cls ≠ "java/lang/invoke/VarHandle" ∧ (parseMethodDescriptor yL_core.desc).map (fun d => d.parameters.length) = some 3 := by decide +kernel
theorem mc_L_counter : Cond.codeWith yL_counter cL_counter 3 (some .int) [(0, 5, 6, 15)] ∈ wsL_law := (List.mem_of_getElem? (i := 179) (by decide +kernel))
theorem mt_L_counter : Cond.static yL_counter ∈ wsL_law := (List.mem_of_getElem? (i := 178) (by decide +kernel))
theorem md_L_counter : yL_counter.cls = RL ∧ yL_counter.cls ≠ "java/lang/invoke/MethodHandle" ∧ yL_counter.cls ≠ "java/lang/invoke/VarHandle" ∧ (parseMethodDescriptor yL_counter.desc).map (fun d => d.parameters.length) = some 2 := by decide +kernel
theorem mc_L_finish : Cond.codeWith yL_finish cL_finish 3 (some .int) [(0, 5, 6, 15)] ∈ wsL_law := (List.mem_of_getElem? (i := 496) (by decide +kernel))
theorem mt_L_finish : Cond.static yL_finish ∈ wsL_law := (List.mem_of_getElem? (i := 495) (by decide +kernel))
theorem md_L_finish : yL_finish.cls = RL ∧ yL_finish.cls ≠ "java/lang/invoke/MethodHandle" ∧ yL_finish.cls ≠ "java/lang/invoke/VarHandle" ∧ (parseMethodDescriptor yL_finish.desc).map (fun d => d.parameters.length) = some 2 := by decide +kernel
theorem mc_L_lines : Cond.code yL_lines cL_lines 12 (some .boolean) ∈ wsL_law := (List.mem_of_getElem? (i := 95) (by decide +kernel))
theorem mt_L_lines : Cond.static yL_lines ∈ wsL_law := (List.mem_of_getElem? (i := 94) (by decide +kernel))
theorem md_L_lines : yL_lines.cls = RL ∧ yL_lines.cls ≠ "java/lang/invoke/MethodHandle" ∧ yL_lines.cls ≠ "java/lang/invoke/VarHandle" ∧ (parseMethodDescriptor yL_lines.desc).map (fun d => d.parameters.length) = some 1 := by decide +kernel
theorem mc_L_load : Cond.codeWith yL_load cL_load 3 (some .int) [(0, 5, 6, 34), (0, 5, 10, 28)] ∈ wsL_law := (List.mem_of_getElem? (i := 320) (by decide +kernel))
theorem mt_L_load : Cond.static yL_load ∈ wsL_law := (List.mem_of_getElem? (i := 319) (by decide +kernel))
theorem md_L_load : yL_load.cls = RL ∧ yL_load.cls ≠ "java/lang/invoke/MethodHandle" ∧ yL_load.cls ≠ "java/lang/invoke/VarHandle" ∧ (parseMethodDescriptor yL_load.desc).map (fun d => d.parameters.length) = some 2 := by decide +kernel
theorem mc_L_logs : Cond.code yL_logs cL_logs 12 (some .int) ∈ wsL_law := (List.mem_of_getElem? (i := 186) (by decide +kernel))
theorem mt_L_logs : Cond.static yL_logs ∈ wsL_law := (List.mem_of_getElem? (i := 185) (by decide +kernel))
theorem md_L_logs : yL_logs.cls = RL ∧ yL_logs.cls ≠ "java/lang/invoke/MethodHandle" ∧ yL_logs.cls ≠ "java/lang/invoke/VarHandle" ∧ (parseMethodDescriptor yL_logs.desc).map (fun d => d.parameters.length) = some 1 := by decide +kernel
theorem mc_L_low : Cond.code yL_low cL_low 2 (some .int) ∈ wsL_law := (List.mem_of_getElem? (i := 91) (by decide +kernel))
theorem mt_L_low : Cond.static yL_low ∈ wsL_law := (List.mem_of_getElem? (i := 90) (by decide +kernel))
theorem md_L_low : yL_low.cls = RL ∧ yL_low.cls ≠ "java/lang/invoke/MethodHandle" ∧ yL_low.cls ≠ "java/lang/invoke/VarHandle" ∧ (parseMethodDescriptor yL_low.desc).map (fun d => d.parameters.length) = some 2 := by decide +kernel
theorem mc_L_memory : Cond.codeWith yL_memory cL_memory 4 (some .int) [(0, 6, 7, 34)] ∈ wsL_law := (List.mem_of_getElem? (i := 120) (by decide +kernel))
theorem mt_L_memory : Cond.static yL_memory ∈ wsL_law := (List.mem_of_getElem? (i := 119) (by decide +kernel))
theorem md_L_memory : yL_memory.cls = RL ∧ yL_memory.cls ≠ "java/lang/invoke/MethodHandle" ∧ yL_memory.cls ≠ "java/lang/invoke/VarHandle" ∧ (parseMethodDescriptor yL_memory.desc).map (fun d => d.parameters.length) = some 3 := by decide +kernel
theorem mc_L_poke : Cond.codeWith yL_poke cL_poke 4 (some .int) [(0, 6, 7, 34)] ∈ wsL_law := (List.mem_of_getElem? (i := 486) (by decide +kernel))
theorem mt_L_poke : Cond.static yL_poke ∈ wsL_law := (List.mem_of_getElem? (i := 485) (by decide +kernel))
theorem md_L_poke : yL_poke.cls = RL ∧ yL_poke.cls ≠ "java/lang/invoke/MethodHandle" ∧ yL_poke.cls ≠ "java/lang/invoke/VarHandle" ∧ (parseMethodDescriptor yL_poke.desc).map (fun d => d.parameters.length) = some 3 := by decide +kernel
theorem mc_L_refuses : Cond.code yL_refuses cL_refuses 4 (some .boolean) ∈ wsL_law := (List.mem_of_getElem? (i := 292) (by decide +kernel))
theorem mt_L_refuses : Cond.static yL_refuses ∈ wsL_law := (List.mem_of_getElem? (i := 291) (by decide +kernel))
theorem md_L_refuses : yL_refuses.cls = RL ∧ yL_refuses.cls ≠ "java/lang/invoke/MethodHandle" ∧ yL_refuses.cls ≠ "java/lang/invoke/VarHandle" ∧ (parseMethodDescriptor yL_refuses.desc).map (fun d => d.parameters.length) = some 1 := by decide +kernel
theorem mc_L_run : Cond.codeWith yL_run cL_run 3 (some .int) [(0, 5, 6, 15)] ∈ wsL_law := (List.mem_of_getElem? (i := 464) (by decide +kernel))
theorem mt_L_run : Cond.static yL_run ∈ wsL_law := (List.mem_of_getElem? (i := 463) (by decide +kernel))
theorem md_L_run : yL_run.cls = RL ∧ yL_run.cls ≠ "java/lang/invoke/MethodHandle" ∧ yL_run.cls ≠ "java/lang/invoke/VarHandle" ∧ (parseMethodDescriptor yL_run.desc).map (fun d => d.parameters.length) = some 2 := by decide +kernel
theorem mc_L_runs : Cond.code yL_runs cL_runs 11 (some .boolean) ∈ wsL_law := (List.mem_of_getElem? (i := 531) (by decide +kernel))
theorem mt_L_runs : Cond.static yL_runs ∈ wsL_law := (List.mem_of_getElem? (i := 530) (by decide +kernel))
theorem md_L_runs : yL_runs.cls = RL ∧ yL_runs.cls ≠ "java/lang/invoke/MethodHandle" ∧ yL_runs.cls ≠ "java/lang/invoke/VarHandle" ∧ (parseMethodDescriptor yL_runs.desc).map (fun d => d.parameters.length) = some 2 := by decide +kernel
theorem mc_L_seed : Cond.codeWith yL_seed cL_seed 3 (some .int) [(0, 5, 6, 15)] ∈ wsL_law := (List.mem_of_getElem? (i := 284) (by decide +kernel))
theorem mt_L_seed : Cond.static yL_seed ∈ wsL_law := (List.mem_of_getElem? (i := 283) (by decide +kernel))
theorem md_L_seed : yL_seed.cls = RL ∧ yL_seed.cls ≠ "java/lang/invoke/MethodHandle" ∧ yL_seed.cls ≠ "java/lang/invoke/VarHandle" ∧ (parseMethodDescriptor yL_seed.desc).map (fun d => d.parameters.length) = some 2 := by decide +kernel
theorem mc_L_set : Cond.codeWith yL_set cL_set 4 (some .int) [(0, 6, 7, 34)] ∈ wsL_law := (List.mem_of_getElem? (i := 149) (by decide +kernel))
theorem mt_L_set : Cond.static yL_set ∈ wsL_law := (List.mem_of_getElem? (i := 148) (by decide +kernel))
theorem md_L_set : yL_set.cls = RL ∧ yL_set.cls ≠ "java/lang/invoke/MethodHandle" ∧ yL_set.cls ≠ "java/lang/invoke/VarHandle" ∧ (parseMethodDescriptor yL_set.desc).map (fun d => d.parameters.length) = some 3 := by decide +kernel
theorem mc_L_setPolicy : Cond.codeWith yL_setPolicy cL_setPolicy 3 (some .int) [(0, 5, 6, 15)] ∈ wsL_law := (List.mem_of_getElem? (i := 313) (by decide +kernel))
theorem mt_L_setPolicy : Cond.static yL_setPolicy ∈ wsL_law := (List.mem_of_getElem? (i := 312) (by decide +kernel))
theorem md_L_setPolicy : yL_setPolicy.cls = RL ∧ yL_setPolicy.cls ≠ "java/lang/invoke/MethodHandle" ∧ yL_setPolicy.cls ≠ "java/lang/invoke/VarHandle" ∧ (parseMethodDescriptor yL_setPolicy.desc).map (fun d => d.parameters.length) = some 2 := by decide +kernel
theorem mc_L_size : Cond.code yL_size cL_size 3 (some .int) ∈ wsL_law := (List.mem_of_getElem? (i := 176) (by decide +kernel))
theorem mt_L_size : Cond.static yL_size ∈ wsL_law := (List.mem_of_getElem? (i := 175) (by decide +kernel))
theorem md_L_size : yL_size.cls = RL ∧ yL_size.cls ≠ "java/lang/invoke/MethodHandle" ∧ yL_size.cls ≠ "java/lang/invoke/VarHandle" ∧ (parseMethodDescriptor yL_size.desc).map (fun d => d.parameters.length) = some 1 := by decide +kernel
theorem mc_L_state : Cond.codeWith yL_state cL_state 4 (some .int) [(0, 6, 7, 34)] ∈ wsL_law := (List.mem_of_getElem? (i := 139) (by decide +kernel))
theorem mt_L_state : Cond.static yL_state ∈ wsL_law := (List.mem_of_getElem? (i := 138) (by decide +kernel))
theorem md_L_state : yL_state.cls = RL ∧ yL_state.cls ≠ "java/lang/invoke/MethodHandle" ∧ yL_state.cls ≠ "java/lang/invoke/VarHandle" ∧ (parseMethodDescriptor yL_state.desc).map (fun d => d.parameters.length) = some 3 := by decide +kernel
theorem mc_L_step : Cond.codeWith yL_step cL_step 3 (some .int) [(0, 5, 6, 34), (0, 5, 10, 28)] ∈ wsL_law := (List.mem_of_getElem? (i := 381) (by decide +kernel))
theorem mt_L_step : Cond.static yL_step ∈ wsL_law := (List.mem_of_getElem? (i := 380) (by decide +kernel))
theorem md_L_step : yL_step.cls = RL ∧ yL_step.cls ≠ "java/lang/invoke/MethodHandle" ∧ yL_step.cls ≠ "java/lang/invoke/VarHandle" ∧ (parseMethodDescriptor yL_step.desc).map (fun d => d.parameters.length) = some 2 := by decide +kernel
theorem mc_L_types : Cond.code yL_types cL_types 7 (some .int) ∈ wsL_law := (List.mem_of_getElem? (i := 521) (by decide +kernel))
theorem mt_L_types : Cond.static yL_types ∈ wsL_law := (List.mem_of_getElem? (i := 520) (by decide +kernel))
theorem md_L_types : yL_types.cls = RL ∧ yL_types.cls ≠ "java/lang/invoke/MethodHandle" ∧ yL_types.cls ≠ "java/lang/invoke/VarHandle" ∧ (parseMethodDescriptor yL_types.desc).map (fun d => d.parameters.length) = some 3 := by decide +kernel
theorem mc_L_undo : Cond.codeWith yL_undo cL_undo 2 (some .int) [(0, 4, 5, 28)] ∈ wsL_law := (List.mem_of_getElem? (i := 534) (by decide +kernel))
theorem mt_L_undo : Cond.static yL_undo ∈ wsL_law := (List.mem_of_getElem? (i := 533) (by decide +kernel))
theorem md_L_undo : yL_undo.cls = RL ∧ yL_undo.cls ≠ "java/lang/invoke/MethodHandle" ∧ yL_undo.cls ≠ "java/lang/invoke/VarHandle" ∧ (parseMethodDescriptor yL_undo.desc).map (fun d => d.parameters.length) = some 1 := by decide +kernel
theorem mc_L_value : Cond.codeWith yL_value cL_value 3 (some .int) [(0, 5, 6, 15)] ∈ wsL_law := (List.mem_of_getElem? (i := 98) (by decide +kernel))
theorem mt_L_value : Cond.static yL_value ∈ wsL_law := (List.mem_of_getElem? (i := 97) (by decide +kernel))
theorem md_L_value : yL_value.cls = RL ∧ yL_value.cls ≠ "java/lang/invoke/MethodHandle" ∧ yL_value.cls ≠ "java/lang/invoke/VarHandle" ∧ (parseMethodDescriptor yL_value.desc).map (fun d => d.parameters.length) = some 2 := by decide +kernel
set_option maxRecDepth 100000 in
set_option maxHeartbeats 4000000 in
theorem w_value (l : Launch) (Z : wZ) (S S1 : St) (h : Hl) (x : Int32) (v : Int32) (hC : Ci l yX5_value cX5_value 2 .int 3 63 Z [.ref (zA Z (6) (0) (0)), .int (x)] S h v S1 h) : Cq l yL_value (.codeWith yL_value cL_value 3 (some .int) [(0, 5, 6, 15)]) 0 0 4 84 Z [.ref (zA Z (6) (0) (0)), .int (x)] S h v S1 h := by
  refine Cq.ofW rfl rfl rfl (Nat.le_of_ble_eq_true rfl) (fun p e s mi args below meth c A0 Q X hSt hZ htab K => ?_)
  refine j_at rfl rfl (Ls3 := [(0, .ref (zA Z (6) (0) (0))), (1, .int (x))]) rfl rfl ?_
  refine j_aload_n X dL_value_0 rfl rfl (q := 0) rfl ?_
  refine j_iload_n X dL_value_1 rfl rfl (q := 1) rfl ?_
  refine j_calli X hC (wm_top (by decide)) ((fun _ => rfl) _) rfl lk_RL_66 mi_X5_value ms_X5_value ini_RX5 mc_X5_value md_X5_value ⟨Nat.le_of_ble_eq_true rfl, Nat.le_of_ble_eq_true rfl⟩ ⟨Nat.le_of_ble_eq_true rfl, Nat.le_of_ble_eq_true rfl⟩ rfl (Nat.le_of_ble_eq_true rfl) (as := [.int (x)]) (rest := []) rfl dL_value_2 rfl ?_
  exact K _ _ dL_value_5
set_option maxRecDepth 100000 in
set_option maxHeartbeats 4000000 in
theorem wt_value (l : Launch) (Z : wZ) (S : St) (h : Hl) (x : Int32) (hC : Ct l yX5_value cX5_value 2 .int 6 82 Z [.ref (zA Z (6) (0) (0)), .int (x)] S h "java/lang/IllegalArgumentException") : Cq l yL_value (.codeWith yL_value cL_value 3 (some .int) [(0, 5, 6, 15)]) 1 6 7 103 Z [.ref (zA Z (6) (0) (0)), .int (x)] S h (-1000000901) S h := by
  refine Cq.ofW rfl rfl rfl (Nat.le_of_ble_eq_true rfl) (fun p e s mi args below meth c A0 Q X hSt hZ htab K => ?_)
  refine j_at rfl rfl (Ls3 := [(0, .ref (zA Z (6) (0) (0))), (1, .int (x))]) rfl rfl ?_
  refine j_aload_n X dL_value_0 rfl rfl (q := 0) rfl ?_
  refine j_iload_n X dL_value_1 rfl rfl (q := 1) rfl ?_
  refine j_callT X hSt hZ (E := "java/lang/IllegalArgumentException") hC (wm_top (by decide)) ((fun _ => rfl) _) rfl lk_RL_66 mi_X5_value ms_X5_value ini_RX5 mc_X5_value md_X5_value ⟨Nat.le_of_ble_eq_true rfl, Nat.le_of_ble_eq_true rfl⟩ ⟨Nat.le_of_ble_eq_true rfl, Nat.le_of_ble_eq_true rfl⟩ rfl (Nat.le_of_ble_eq_true rfl) (as := [.int (x)]) (rest := []) rfl dL_value_2 htab [] ⟨0, 5, 6, 15⟩ [] rfl (fun z hz => absurd hz List.not_mem_nil) rfl (by decide) (List.mem_of_getElem? (i := 99) (by decide +kernel)) (List.mem_of_getElem? (i := 0) rfl) (fun q9 => ?_)
  refine j_astore_n X dL_value_6 rfl rfl (by decide) (Ls2 := [(2, .ref (q9)), (0, .ref (zA Z (6) (0) (0))), (1, .int (x))]) rfl ?_
  refine j_ldc X (v := -1000000901) dL_value_7 rfl (List.mem_of_getElem? (i := 100) (by decide +kernel)) ?_
  exact K _ _ dL_value_9
set_option maxRecDepth 100000 in
set_option maxHeartbeats 4000000 in
theorem w_memory (l : Launch) (Z : wZ) (S S1 : St) (h : Hl) (x : Int32) (w : Bool) (v : Int32) (hC : Ci l yX5_memory cX5_memory 3 .int 2 44 Z [.ref (zA Z (6) (0) (0)), .int (x), .int (bI (w))] S h v S1 h) : Cq l yL_memory (.codeWith yL_memory cL_memory 4 (some .int) [(0, 6, 7, 34)]) 0 0 3 66 Z [.ref (zA Z (6) (0) (0)), .int (x), .int (bI (w))] S h v S1 h := by
  refine Cq.ofW rfl rfl rfl (Nat.le_of_ble_eq_true rfl) (fun p e s mi args below meth c A0 Q X hSt hZ htab K => ?_)
  refine j_at rfl rfl (Ls3 := [(0, .ref (zA Z (6) (0) (0))), (1, .int (x)), (2, .int (bI (w)))]) rfl rfl ?_
  refine j_aload_n X dL_memory_0 rfl rfl (q := 0) rfl ?_
  refine j_iload_n X dL_memory_1 rfl rfl (q := 1) rfl ?_
  refine j_iload_n X dL_memory_2 rfl rfl (q := 2) rfl ?_
  refine j_calli X hC (wm_top (by decide)) ((fun _ => rfl) _) rfl lk_RL_56 mi_X5_memory ms_X5_memory ini_RX5 mc_X5_memory md_X5_memory ⟨Nat.le_of_ble_eq_true rfl, Nat.le_of_ble_eq_true rfl⟩ ⟨Nat.le_of_ble_eq_true rfl, Nat.le_of_ble_eq_true rfl⟩ rfl (Nat.le_of_ble_eq_true rfl) (as := [.int (x), .int (bI (w))]) (rest := []) rfl dL_memory_3 rfl ?_
  exact K _ _ dL_memory_6
set_option maxRecDepth 100000 in
set_option maxHeartbeats 4000000 in
theorem wt_memory (l : Launch) (Z : wZ) (S : St) (h : Hl) (x : Int32) (w : Bool) (hC : Ct l yX5_memory cX5_memory 3 .int 6 82 Z [.ref (zA Z (6) (0) (0)), .int (x), .int (bI (w))] S h "java/lang/IndexOutOfBoundsException") : Cq l yL_memory (.codeWith yL_memory cL_memory 4 (some .int) [(0, 6, 7, 34)]) 1 6 7 104 Z [.ref (zA Z (6) (0) (0)), .int (x), .int (bI (w))] S h (-1000000903) S h := by
  refine Cq.ofW rfl rfl rfl (Nat.le_of_ble_eq_true rfl) (fun p e s mi args below meth c A0 Q X hSt hZ htab K => ?_)
  refine j_at rfl rfl (Ls3 := [(0, .ref (zA Z (6) (0) (0))), (1, .int (x)), (2, .int (bI (w)))]) rfl rfl ?_
  refine j_aload_n X dL_memory_0 rfl rfl (q := 0) rfl ?_
  refine j_iload_n X dL_memory_1 rfl rfl (q := 1) rfl ?_
  refine j_iload_n X dL_memory_2 rfl rfl (q := 2) rfl ?_
  refine j_callT X hSt hZ (E := "java/lang/IndexOutOfBoundsException") hC (wm_top (by decide)) ((fun _ => rfl) _) rfl lk_RL_56 mi_X5_memory ms_X5_memory ini_RX5 mc_X5_memory md_X5_memory ⟨Nat.le_of_ble_eq_true rfl, Nat.le_of_ble_eq_true rfl⟩ ⟨Nat.le_of_ble_eq_true rfl, Nat.le_of_ble_eq_true rfl⟩ rfl (Nat.le_of_ble_eq_true rfl) (as := [.int (x), .int (bI (w))]) (rest := []) rfl dL_memory_3 htab [] ⟨0, 6, 7, 34⟩ [] rfl (fun z hz => absurd hz List.not_mem_nil) rfl (by decide) (List.mem_of_getElem? (i := 121) (by decide +kernel)) (List.mem_of_getElem? (i := 2) rfl) (fun q9 => ?_)
  refine j_astore_n X dL_memory_7 rfl rfl (by decide) (Ls2 := [(3, .ref (q9)), (0, .ref (zA Z (6) (0) (0))), (1, .int (x)), (2, .int (bI (w)))]) rfl ?_
  refine j_ldc X (v := -1000000903) dL_memory_8 rfl (List.mem_of_getElem? (i := 122) (by decide +kernel)) ?_
  exact K _ _ dL_memory_10
set_option maxRecDepth 100000 in
set_option maxHeartbeats 4000000 in
theorem w_state (l : Launch) (Z : wZ) (S S1 : St) (h : Hl) (x : Int32) (y : Int32) (v : Int32) (hC : Ci l yX5_state cX5_state 3 .int 1 21 Z [.ref (zA Z (6) (0) (0)), .int (x), .int (y)] S h v S1 h) : Cq l yL_state (.codeWith yL_state cL_state 4 (some .int) [(0, 6, 7, 34)]) 0 0 2 43 Z [.ref (zA Z (6) (0) (0)), .int (x), .int (y)] S h v S1 h := by
  refine Cq.ofW rfl rfl rfl (Nat.le_of_ble_eq_true rfl) (fun p e s mi args below meth c A0 Q X hSt hZ htab K => ?_)
  refine j_at rfl rfl (Ls3 := [(0, .ref (zA Z (6) (0) (0))), (1, .int (x)), (2, .int (y))]) rfl rfl ?_
  refine j_aload_n X dL_state_0 rfl rfl (q := 0) rfl ?_
  refine j_iload_n X dL_state_1 rfl rfl (q := 1) rfl ?_
  refine j_iload_n X dL_state_2 rfl rfl (q := 2) rfl ?_
  refine j_calli X hC (wm_top (by decide)) ((fun _ => rfl) _) rfl lk_RL_50 mi_X5_state ms_X5_state ini_RX5 mc_X5_state md_X5_state ⟨Nat.le_of_ble_eq_true rfl, Nat.le_of_ble_eq_true rfl⟩ ⟨Nat.le_of_ble_eq_true rfl, Nat.le_of_ble_eq_true rfl⟩ rfl (Nat.le_of_ble_eq_true rfl) (as := [.int (x), .int (y)]) (rest := []) rfl dL_state_3 rfl ?_
  exact K _ _ dL_state_6
set_option maxRecDepth 100000 in
set_option maxHeartbeats 4000000 in
theorem wt_state (l : Launch) (Z : wZ) (S : St) (h : Hl) (x : Int32) (y : Int32) (hC : Ct l yX5_state cX5_state 3 .int 6 82 Z [.ref (zA Z (6) (0) (0)), .int (x), .int (y)] S h "java/lang/IndexOutOfBoundsException") : Cq l yL_state (.codeWith yL_state cL_state 4 (some .int) [(0, 6, 7, 34)]) 1 6 7 104 Z [.ref (zA Z (6) (0) (0)), .int (x), .int (y)] S h (-1000000903) S h := by
  refine Cq.ofW rfl rfl rfl (Nat.le_of_ble_eq_true rfl) (fun p e s mi args below meth c A0 Q X hSt hZ htab K => ?_)
  refine j_at rfl rfl (Ls3 := [(0, .ref (zA Z (6) (0) (0))), (1, .int (x)), (2, .int (y))]) rfl rfl ?_
  refine j_aload_n X dL_state_0 rfl rfl (q := 0) rfl ?_
  refine j_iload_n X dL_state_1 rfl rfl (q := 1) rfl ?_
  refine j_iload_n X dL_state_2 rfl rfl (q := 2) rfl ?_
  refine j_callT X hSt hZ (E := "java/lang/IndexOutOfBoundsException") hC (wm_top (by decide)) ((fun _ => rfl) _) rfl lk_RL_50 mi_X5_state ms_X5_state ini_RX5 mc_X5_state md_X5_state ⟨Nat.le_of_ble_eq_true rfl, Nat.le_of_ble_eq_true rfl⟩ ⟨Nat.le_of_ble_eq_true rfl, Nat.le_of_ble_eq_true rfl⟩ rfl (Nat.le_of_ble_eq_true rfl) (as := [.int (x), .int (y)]) (rest := []) rfl dL_state_3 htab [] ⟨0, 6, 7, 34⟩ [] rfl (fun z hz => absurd hz List.not_mem_nil) rfl (by decide) (List.mem_of_getElem? (i := 121) (by decide +kernel)) (List.mem_of_getElem? (i := 2) rfl) (fun q9 => ?_)
  refine j_astore_n X dL_state_7 rfl rfl (by decide) (Ls2 := [(3, .ref (q9)), (0, .ref (zA Z (6) (0) (0))), (1, .int (x)), (2, .int (y))]) rfl ?_
  refine j_ldc X (v := -1000000903) dL_state_8 rfl (List.mem_of_getElem? (i := 122) (by decide +kernel)) ?_
  exact K _ _ dL_state_10
set_option maxRecDepth 100000 in
set_option maxHeartbeats 4000000 in
theorem w_set (l : Launch) (Z : wZ) (S S1 : St) (h : Hl) (x : Int32) (w : Bool) (v : Int32) (hC : Ci l yX5_set cX5_set 3 .int 1 21 Z [.ref (zA Z (6) (0) (0)), .int (x), .int (bI (w))] S h v S1 h) : Cq l yL_set (.codeWith yL_set cL_set 4 (some .int) [(0, 6, 7, 34)]) 0 0 2 43 Z [.ref (zA Z (6) (0) (0)), .int (x), .int (bI (w))] S h v S1 h := by
  refine Cq.ofW rfl rfl rfl (Nat.le_of_ble_eq_true rfl) (fun p e s mi args below meth c A0 Q X hSt hZ htab K => ?_)
  refine j_at rfl rfl (Ls3 := [(0, .ref (zA Z (6) (0) (0))), (1, .int (x)), (2, .int (bI (w)))]) rfl rfl ?_
  refine j_aload_n X dL_set_0 rfl rfl (q := 0) rfl ?_
  refine j_iload_n X dL_set_1 rfl rfl (q := 1) rfl ?_
  refine j_iload_n X dL_set_2 rfl rfl (q := 2) rfl ?_
  refine j_calli X hC (wm_top (by decide)) ((fun _ => rfl) _) rfl lk_RL_60 mi_X5_set ms_X5_set ini_RX5 mc_X5_set md_X5_set ⟨Nat.le_of_ble_eq_true rfl, Nat.le_of_ble_eq_true rfl⟩ ⟨Nat.le_of_ble_eq_true rfl, Nat.le_of_ble_eq_true rfl⟩ rfl (Nat.le_of_ble_eq_true rfl) (as := [.int (x), .int (bI (w))]) (rest := []) rfl dL_set_3 rfl ?_
  exact K _ _ dL_set_6
set_option maxRecDepth 100000 in
set_option maxHeartbeats 4000000 in
theorem wt_set (l : Launch) (Z : wZ) (S : St) (h : Hl) (x : Int32) (w : Bool) (hC : Ct l yX5_set cX5_set 3 .int 6 82 Z [.ref (zA Z (6) (0) (0)), .int (x), .int (bI (w))] S h "java/lang/IndexOutOfBoundsException") : Cq l yL_set (.codeWith yL_set cL_set 4 (some .int) [(0, 6, 7, 34)]) 1 6 7 104 Z [.ref (zA Z (6) (0) (0)), .int (x), .int (bI (w))] S h (-1000000903) S h := by
  refine Cq.ofW rfl rfl rfl (Nat.le_of_ble_eq_true rfl) (fun p e s mi args below meth c A0 Q X hSt hZ htab K => ?_)
  refine j_at rfl rfl (Ls3 := [(0, .ref (zA Z (6) (0) (0))), (1, .int (x)), (2, .int (bI (w)))]) rfl rfl ?_
  refine j_aload_n X dL_set_0 rfl rfl (q := 0) rfl ?_
  refine j_iload_n X dL_set_1 rfl rfl (q := 1) rfl ?_
  refine j_iload_n X dL_set_2 rfl rfl (q := 2) rfl ?_
  refine j_callT X hSt hZ (E := "java/lang/IndexOutOfBoundsException") hC (wm_top (by decide)) ((fun _ => rfl) _) rfl lk_RL_60 mi_X5_set ms_X5_set ini_RX5 mc_X5_set md_X5_set ⟨Nat.le_of_ble_eq_true rfl, Nat.le_of_ble_eq_true rfl⟩ ⟨Nat.le_of_ble_eq_true rfl, Nat.le_of_ble_eq_true rfl⟩ rfl (Nat.le_of_ble_eq_true rfl) (as := [.int (x), .int (bI (w))]) (rest := []) rfl dL_set_3 htab [] ⟨0, 6, 7, 34⟩ [] rfl (fun z hz => absurd hz List.not_mem_nil) rfl (by decide) (List.mem_of_getElem? (i := 121) (by decide +kernel)) (List.mem_of_getElem? (i := 2) rfl) (fun q9 => ?_)
  refine j_astore_n X dL_set_7 rfl rfl (by decide) (Ls2 := [(3, .ref (q9)), (0, .ref (zA Z (6) (0) (0))), (1, .int (x)), (2, .int (bI (w)))]) rfl ?_
  refine j_ldc X (v := -1000000903) dL_set_8 rfl (List.mem_of_getElem? (i := 122) (by decide +kernel)) ?_
  exact K _ _ dL_set_10
set_option maxRecDepth 100000 in
set_option maxHeartbeats 4000000 in
theorem w_cached (l : Launch) (Z : wZ) (S S1 : St) (h : Hl) (x : Int32) (y : Int32) (v : Int32) (hC : Ci l yX5_cached cX5_cached 4 .int 1 21 Z [.ref (zA Z (6) (0) (0)), .int (x), .int (y)] S h v S1 h) : Cq l yL_cached (.codeWith yL_cached cL_cached 4 (some .int) [(0, 6, 7, 34)]) 0 0 2 44 Z [.ref (zA Z (6) (0) (0)), .int (x), .int (y)] S h v S1 h := by
  refine Cq.ofW rfl rfl rfl (Nat.le_of_ble_eq_true rfl) (fun p e s mi args below meth c A0 Q X hSt hZ htab K => ?_)
  refine j_at rfl rfl (Ls3 := [(0, .ref (zA Z (6) (0) (0))), (1, .int (x)), (2, .int (y))]) rfl rfl ?_
  refine j_aload_n X dL_cached_0 rfl rfl (q := 0) rfl ?_
  refine j_iload_n X dL_cached_1 rfl rfl (q := 1) rfl ?_
  refine j_iload_n X dL_cached_2 rfl rfl (q := 2) rfl ?_
  refine j_calli X hC (wm_top (by decide)) ((fun _ => rfl) _) rfl lk_RL_53 mi_X5_cached ms_X5_cached ini_RX5 mc_X5_cached md_X5_cached ⟨Nat.le_of_ble_eq_true rfl, Nat.le_of_ble_eq_true rfl⟩ ⟨Nat.le_of_ble_eq_true rfl, Nat.le_of_ble_eq_true rfl⟩ rfl (Nat.le_of_ble_eq_true rfl) (as := [.int (x), .int (y)]) (rest := []) rfl dL_cached_3 rfl ?_
  exact K _ _ dL_cached_6
set_option maxRecDepth 100000 in
set_option maxHeartbeats 4000000 in
theorem wt_cached (l : Launch) (Z : wZ) (S : St) (h : Hl) (x : Int32) (y : Int32) (hC : Ct l yX5_cached cX5_cached 4 .int 6 82 Z [.ref (zA Z (6) (0) (0)), .int (x), .int (y)] S h "java/lang/IndexOutOfBoundsException") : Cq l yL_cached (.codeWith yL_cached cL_cached 4 (some .int) [(0, 6, 7, 34)]) 1 6 7 105 Z [.ref (zA Z (6) (0) (0)), .int (x), .int (y)] S h (-1000000903) S h := by
  refine Cq.ofW rfl rfl rfl (Nat.le_of_ble_eq_true rfl) (fun p e s mi args below meth c A0 Q X hSt hZ htab K => ?_)
  refine j_at rfl rfl (Ls3 := [(0, .ref (zA Z (6) (0) (0))), (1, .int (x)), (2, .int (y))]) rfl rfl ?_
  refine j_aload_n X dL_cached_0 rfl rfl (q := 0) rfl ?_
  refine j_iload_n X dL_cached_1 rfl rfl (q := 1) rfl ?_
  refine j_iload_n X dL_cached_2 rfl rfl (q := 2) rfl ?_
  refine j_callT X hSt hZ (E := "java/lang/IndexOutOfBoundsException") hC (wm_top (by decide)) ((fun _ => rfl) _) rfl lk_RL_53 mi_X5_cached ms_X5_cached ini_RX5 mc_X5_cached md_X5_cached ⟨Nat.le_of_ble_eq_true rfl, Nat.le_of_ble_eq_true rfl⟩ ⟨Nat.le_of_ble_eq_true rfl, Nat.le_of_ble_eq_true rfl⟩ rfl (Nat.le_of_ble_eq_true rfl) (as := [.int (x), .int (y)]) (rest := []) rfl dL_cached_3 htab [] ⟨0, 6, 7, 34⟩ [] rfl (fun z hz => absurd hz List.not_mem_nil) rfl (by decide) (List.mem_of_getElem? (i := 121) (by decide +kernel)) (List.mem_of_getElem? (i := 2) rfl) (fun q9 => ?_)
  refine j_astore_n X dL_cached_7 rfl rfl (by decide) (Ls2 := [(3, .ref (q9)), (0, .ref (zA Z (6) (0) (0))), (1, .int (x)), (2, .int (y))]) rfl ?_
  refine j_ldc X (v := -1000000903) dL_cached_8 rfl (List.mem_of_getElem? (i := 122) (by decide +kernel)) ?_
  exact K _ _ dL_cached_10
set_option maxRecDepth 100000 in
set_option maxHeartbeats 4000000 in
theorem w_core (l : Launch) (Z : wZ) (S S1 : St) (h : Hl) (x : Int32) (y : Int32) (v : Int32) (hC : Ci l yX5_core cX5_core 3 .int 1 21 Z [.ref (zA Z (6) (0) (0)), .int (x), .int (y)] S h v S1 h) : Cq l yL_core (.codeWith yL_core cL_core 4 (some .int) [(0, 6, 7, 34), (0, 6, 11, 15)]) 0 0 2 43 Z [.ref (zA Z (6) (0) (0)), .int (x), .int (y)] S h v S1 h := by
  refine Cq.ofW rfl rfl rfl (Nat.le_of_ble_eq_true rfl) (fun p e s mi args below meth c A0 Q X hSt hZ htab K => ?_)
  refine j_at rfl rfl (Ls3 := [(0, .ref (zA Z (6) (0) (0))), (1, .int (x)), (2, .int (y))]) rfl rfl ?_
  refine j_aload_n X dL_core_0 rfl rfl (q := 0) rfl ?_
  refine j_iload_n X dL_core_1 rfl rfl (q := 1) rfl ?_
  refine j_iload_n X dL_core_2 rfl rfl (q := 2) rfl ?_
  refine j_calli X hC (wm_top (by decide)) ((fun _ => rfl) _) rfl lk_RL_63 mi_X5_core ms_X5_core ini_RX5 mc_X5_core md_X5_core ⟨Nat.le_of_ble_eq_true rfl, Nat.le_of_ble_eq_true rfl⟩ ⟨Nat.le_of_ble_eq_true rfl, Nat.le_of_ble_eq_true rfl⟩ rfl (Nat.le_of_ble_eq_true rfl) (as := [.int (x), .int (y)]) (rest := []) rfl dL_core_3 rfl ?_
  exact K _ _ dL_core_6
set_option maxRecDepth 100000 in
set_option maxHeartbeats 4000000 in
theorem wt_core (l : Launch) (Z : wZ) (S : St) (h : Hl) (x : Int32) (y : Int32) (hC : Ct l yX5_core cX5_core 3 .int 6 82 Z [.ref (zA Z (6) (0) (0)), .int (x), .int (y)] S h "java/lang/IndexOutOfBoundsException") : Cq l yL_core (.codeWith yL_core cL_core 4 (some .int) [(0, 6, 7, 34), (0, 6, 11, 15)]) 1 6 7 104 Z [.ref (zA Z (6) (0) (0)), .int (x), .int (y)] S h (-1000000903) S h := by
  refine Cq.ofW rfl rfl rfl (Nat.le_of_ble_eq_true rfl) (fun p e s mi args below meth c A0 Q X hSt hZ htab K => ?_)
  refine j_at rfl rfl (Ls3 := [(0, .ref (zA Z (6) (0) (0))), (1, .int (x)), (2, .int (y))]) rfl rfl ?_
  refine j_aload_n X dL_core_0 rfl rfl (q := 0) rfl ?_
  refine j_iload_n X dL_core_1 rfl rfl (q := 1) rfl ?_
  refine j_iload_n X dL_core_2 rfl rfl (q := 2) rfl ?_
  refine j_callT X hSt hZ (E := "java/lang/IndexOutOfBoundsException") hC (wm_top (by decide)) ((fun _ => rfl) _) rfl lk_RL_63 mi_X5_core ms_X5_core ini_RX5 mc_X5_core md_X5_core ⟨Nat.le_of_ble_eq_true rfl, Nat.le_of_ble_eq_true rfl⟩ ⟨Nat.le_of_ble_eq_true rfl, Nat.le_of_ble_eq_true rfl⟩ rfl (Nat.le_of_ble_eq_true rfl) (as := [.int (x), .int (y)]) (rest := []) rfl dL_core_3 htab [] ⟨0, 6, 7, 34⟩ [⟨0, 6, 11, 15⟩] rfl (fun z hz => absurd hz List.not_mem_nil) rfl (by decide) (List.mem_of_getElem? (i := 121) (by decide +kernel)) (List.mem_of_getElem? (i := 2) rfl) (fun q9 => ?_)
  refine j_astore_n X dL_core_7 rfl rfl (by decide) (Ls2 := [(3, .ref (q9)), (0, .ref (zA Z (6) (0) (0))), (1, .int (x)), (2, .int (y))]) rfl ?_
  refine j_ldc X (v := -1000000903) dL_core_8 rfl (List.mem_of_getElem? (i := 122) (by decide +kernel)) ?_
  exact K _ _ dL_core_10
set_option maxRecDepth 100000 in
set_option maxHeartbeats 4000000 in
theorem wt_core_what (l : Launch) (Z : wZ) (S : St) (h : Hl) (x : Int32) (y : Int32) (hC : Ct l yX5_core cX5_core 3 .int 6 82 Z [.ref (zA Z (6) (0) (0)), .int (x), .int (y)] S h "java/lang/IllegalArgumentException") : Cq l yL_core (.codeWith yL_core cL_core 4 (some .int) [(0, 6, 7, 34), (0, 6, 11, 15)]) 1 6 7 104 Z [.ref (zA Z (6) (0) (0)), .int (x), .int (y)] S h (-1000000901) S h := by
  refine Cq.ofW rfl rfl rfl (Nat.le_of_ble_eq_true rfl) (fun p e s mi args below meth c A0 Q X hSt hZ htab K => ?_)
  refine j_at rfl rfl (Ls3 := [(0, .ref (zA Z (6) (0) (0))), (1, .int (x)), (2, .int (y))]) rfl rfl ?_
  refine j_aload_n X dL_core_0 rfl rfl (q := 0) rfl ?_
  refine j_iload_n X dL_core_1 rfl rfl (q := 1) rfl ?_
  refine j_iload_n X dL_core_2 rfl rfl (q := 2) rfl ?_
  refine j_callT X hSt hZ (E := "java/lang/IllegalArgumentException") hC (wm_top (by decide)) ((fun _ => rfl) _) rfl lk_RL_63 mi_X5_core ms_X5_core ini_RX5 mc_X5_core md_X5_core ⟨Nat.le_of_ble_eq_true rfl, Nat.le_of_ble_eq_true rfl⟩ ⟨Nat.le_of_ble_eq_true rfl, Nat.le_of_ble_eq_true rfl⟩ rfl (Nat.le_of_ble_eq_true rfl) (as := [.int (x), .int (y)]) (rest := []) rfl dL_core_3 htab [⟨0, 6, 7, 34⟩] ⟨0, 6, 11, 15⟩ [] rfl (fun z hz => by rw [List.mem_singleton.mp hz]; exact ⟨by decide, "java/lang/IndexOutOfBoundsException", (List.mem_of_getElem? (i := 121) (by decide +kernel)), hSt.2.2.2.2⟩) rfl (by decide) (List.mem_of_getElem? (i := 99) (by decide +kernel)) (List.mem_of_getElem? (i := 0) rfl) (fun q9 => ?_)
  refine j_astore_n X dL_core_11 rfl rfl (by decide) (Ls2 := [(3, .ref (q9)), (0, .ref (zA Z (6) (0) (0))), (1, .int (x)), (2, .int (y))]) rfl ?_
  refine j_ldc X (v := -1000000901) dL_core_12 rfl (List.mem_of_getElem? (i := 100) (by decide +kernel)) ?_
  exact K _ _ dL_core_14
set_option maxRecDepth 100000 in
set_option maxHeartbeats 4000000 in
theorem w_counter (l : Launch) (Z : wZ) (S S1 : St) (h : Hl) (x : Int32) (v : Int32) (hC : Ci l yX5_counter cX5_counter 2 .int 0 0 Z [.ref (zA Z (6) (0) (0)), .int (x)] S h v S1 h) : Cq l yL_counter (.codeWith yL_counter cL_counter 3 (some .int) [(0, 5, 6, 15)]) 0 0 1 21 Z [.ref (zA Z (6) (0) (0)), .int (x)] S h v S1 h := by
  refine Cq.ofW rfl rfl rfl (Nat.le_of_ble_eq_true rfl) (fun p e s mi args below meth c A0 Q X hSt hZ htab K => ?_)
  refine j_at rfl rfl (Ls3 := [(0, .ref (zA Z (6) (0) (0))), (1, .int (x))]) rfl rfl ?_
  refine j_aload_n X dL_counter_0 rfl rfl (q := 0) rfl ?_
  refine j_iload_n X dL_counter_1 rfl rfl (q := 1) rfl ?_
  refine j_calli X hC (wm_top (by decide)) ((fun _ => rfl) _) rfl lk_RL_69 mi_X5_counter ms_X5_counter ini_RX5 mc_X5_counter md_X5_counter ⟨Nat.le_of_ble_eq_true rfl, Nat.le_of_ble_eq_true rfl⟩ ⟨Nat.le_of_ble_eq_true rfl, Nat.le_of_ble_eq_true rfl⟩ rfl (Nat.le_of_ble_eq_true rfl) (as := [.int (x)]) (rest := []) rfl dL_counter_2 rfl ?_
  exact K _ _ dL_counter_5
set_option maxRecDepth 100000 in
set_option maxHeartbeats 4000000 in
theorem wt_counter (l : Launch) (Z : wZ) (S : St) (h : Hl) (x : Int32) (hC : Ct l yX5_counter cX5_counter 2 .int 6 82 Z [.ref (zA Z (6) (0) (0)), .int (x)] S h "java/lang/IllegalArgumentException") : Cq l yL_counter (.codeWith yL_counter cL_counter 3 (some .int) [(0, 5, 6, 15)]) 1 6 7 103 Z [.ref (zA Z (6) (0) (0)), .int (x)] S h (-1000000901) S h := by
  refine Cq.ofW rfl rfl rfl (Nat.le_of_ble_eq_true rfl) (fun p e s mi args below meth c A0 Q X hSt hZ htab K => ?_)
  refine j_at rfl rfl (Ls3 := [(0, .ref (zA Z (6) (0) (0))), (1, .int (x))]) rfl rfl ?_
  refine j_aload_n X dL_counter_0 rfl rfl (q := 0) rfl ?_
  refine j_iload_n X dL_counter_1 rfl rfl (q := 1) rfl ?_
  refine j_callT X hSt hZ (E := "java/lang/IllegalArgumentException") hC (wm_top (by decide)) ((fun _ => rfl) _) rfl lk_RL_69 mi_X5_counter ms_X5_counter ini_RX5 mc_X5_counter md_X5_counter ⟨Nat.le_of_ble_eq_true rfl, Nat.le_of_ble_eq_true rfl⟩ ⟨Nat.le_of_ble_eq_true rfl, Nat.le_of_ble_eq_true rfl⟩ rfl (Nat.le_of_ble_eq_true rfl) (as := [.int (x)]) (rest := []) rfl dL_counter_2 htab [] ⟨0, 5, 6, 15⟩ [] rfl (fun z hz => absurd hz List.not_mem_nil) rfl (by decide) (List.mem_of_getElem? (i := 99) (by decide +kernel)) (List.mem_of_getElem? (i := 0) rfl) (fun q9 => ?_)
  refine j_astore_n X dL_counter_6 rfl rfl (by decide) (Ls2 := [(2, .ref (q9)), (0, .ref (zA Z (6) (0) (0))), (1, .int (x))]) rfl ?_
  refine j_ldc X (v := -1000000901) dL_counter_7 rfl (List.mem_of_getElem? (i := 100) (by decide +kernel)) ?_
  exact K _ _ dL_counter_9
set_option maxRecDepth 100000 in
set_option maxHeartbeats 4000000 in
theorem w_commit (l : Launch) (Z : wZ) (S S1 : St) (h : Hl) (x : Int32) (y : Int32) (v : Int32) (hC : Ci l yX5_commit cX5_commit 3 .int 1 22 Z [.ref (zA Z (6) (0) (0)), .int (x), .int (y)] S h v S1 h) : Cq l yL_commit (.codeWith yL_commit cL_commit 4 (some .int) [(0, 6, 7, 34), (0, 6, 11, 15)]) 0 0 2 44 Z [.ref (zA Z (6) (0) (0)), .int (x), .int (y)] S h v S1 h := by
  refine Cq.ofW rfl rfl rfl (Nat.le_of_ble_eq_true rfl) (fun p e s mi args below meth c A0 Q X hSt hZ htab K => ?_)
  refine j_at rfl rfl (Ls3 := [(0, .ref (zA Z (6) (0) (0))), (1, .int (x)), (2, .int (y))]) rfl rfl ?_
  refine j_aload_n X dL_commit_0 rfl rfl (q := 0) rfl ?_
  refine j_iload_n X dL_commit_1 rfl rfl (q := 1) rfl ?_
  refine j_iload_n X dL_commit_2 rfl rfl (q := 2) rfl ?_
  refine j_calli X hC (wm_top (by decide)) ((fun _ => rfl) _) rfl lk_RL_72 mi_X5_commit ms_X5_commit ini_RX5 mc_X5_commit md_X5_commit ⟨Nat.le_of_ble_eq_true rfl, Nat.le_of_ble_eq_true rfl⟩ ⟨Nat.le_of_ble_eq_true rfl, Nat.le_of_ble_eq_true rfl⟩ rfl (Nat.le_of_ble_eq_true rfl) (as := [.int (x), .int (y)]) (rest := []) rfl dL_commit_3 rfl ?_
  exact K _ _ dL_commit_6
set_option maxRecDepth 100000 in
set_option maxHeartbeats 4000000 in
theorem wt_commit (l : Launch) (Z : wZ) (S : St) (h : Hl) (x : Int32) (y : Int32) (hC : Ct l yX5_commit cX5_commit 3 .int 6 82 Z [.ref (zA Z (6) (0) (0)), .int (x), .int (y)] S h "java/lang/IndexOutOfBoundsException") : Cq l yL_commit (.codeWith yL_commit cL_commit 4 (some .int) [(0, 6, 7, 34), (0, 6, 11, 15)]) 1 6 7 104 Z [.ref (zA Z (6) (0) (0)), .int (x), .int (y)] S h (-1000000903) S h := by
  refine Cq.ofW rfl rfl rfl (Nat.le_of_ble_eq_true rfl) (fun p e s mi args below meth c A0 Q X hSt hZ htab K => ?_)
  refine j_at rfl rfl (Ls3 := [(0, .ref (zA Z (6) (0) (0))), (1, .int (x)), (2, .int (y))]) rfl rfl ?_
  refine j_aload_n X dL_commit_0 rfl rfl (q := 0) rfl ?_
  refine j_iload_n X dL_commit_1 rfl rfl (q := 1) rfl ?_
  refine j_iload_n X dL_commit_2 rfl rfl (q := 2) rfl ?_
  refine j_callT X hSt hZ (E := "java/lang/IndexOutOfBoundsException") hC (wm_top (by decide)) ((fun _ => rfl) _) rfl lk_RL_72 mi_X5_commit ms_X5_commit ini_RX5 mc_X5_commit md_X5_commit ⟨Nat.le_of_ble_eq_true rfl, Nat.le_of_ble_eq_true rfl⟩ ⟨Nat.le_of_ble_eq_true rfl, Nat.le_of_ble_eq_true rfl⟩ rfl (Nat.le_of_ble_eq_true rfl) (as := [.int (x), .int (y)]) (rest := []) rfl dL_commit_3 htab [] ⟨0, 6, 7, 34⟩ [⟨0, 6, 11, 15⟩] rfl (fun z hz => absurd hz List.not_mem_nil) rfl (by decide) (List.mem_of_getElem? (i := 121) (by decide +kernel)) (List.mem_of_getElem? (i := 2) rfl) (fun q9 => ?_)
  refine j_astore_n X dL_commit_7 rfl rfl (by decide) (Ls2 := [(3, .ref (q9)), (0, .ref (zA Z (6) (0) (0))), (1, .int (x)), (2, .int (y))]) rfl ?_
  refine j_ldc X (v := -1000000903) dL_commit_8 rfl (List.mem_of_getElem? (i := 122) (by decide +kernel)) ?_
  exact K _ _ dL_commit_10
set_option maxRecDepth 100000 in
set_option maxHeartbeats 4000000 in
theorem wt_commit_what (l : Launch) (Z : wZ) (S : St) (h : Hl) (x : Int32) (y : Int32) (hC : Ct l yX5_commit cX5_commit 3 .int 6 82 Z [.ref (zA Z (6) (0) (0)), .int (x), .int (y)] S h "java/lang/IllegalArgumentException") : Cq l yL_commit (.codeWith yL_commit cL_commit 4 (some .int) [(0, 6, 7, 34), (0, 6, 11, 15)]) 1 6 7 104 Z [.ref (zA Z (6) (0) (0)), .int (x), .int (y)] S h (-1000000901) S h := by
  refine Cq.ofW rfl rfl rfl (Nat.le_of_ble_eq_true rfl) (fun p e s mi args below meth c A0 Q X hSt hZ htab K => ?_)
  refine j_at rfl rfl (Ls3 := [(0, .ref (zA Z (6) (0) (0))), (1, .int (x)), (2, .int (y))]) rfl rfl ?_
  refine j_aload_n X dL_commit_0 rfl rfl (q := 0) rfl ?_
  refine j_iload_n X dL_commit_1 rfl rfl (q := 1) rfl ?_
  refine j_iload_n X dL_commit_2 rfl rfl (q := 2) rfl ?_
  refine j_callT X hSt hZ (E := "java/lang/IllegalArgumentException") hC (wm_top (by decide)) ((fun _ => rfl) _) rfl lk_RL_72 mi_X5_commit ms_X5_commit ini_RX5 mc_X5_commit md_X5_commit ⟨Nat.le_of_ble_eq_true rfl, Nat.le_of_ble_eq_true rfl⟩ ⟨Nat.le_of_ble_eq_true rfl, Nat.le_of_ble_eq_true rfl⟩ rfl (Nat.le_of_ble_eq_true rfl) (as := [.int (x), .int (y)]) (rest := []) rfl dL_commit_3 htab [⟨0, 6, 7, 34⟩] ⟨0, 6, 11, 15⟩ [] rfl (fun z hz => by rw [List.mem_singleton.mp hz]; exact ⟨by decide, "java/lang/IndexOutOfBoundsException", (List.mem_of_getElem? (i := 121) (by decide +kernel)), hSt.2.2.2.2⟩) rfl (by decide) (List.mem_of_getElem? (i := 99) (by decide +kernel)) (List.mem_of_getElem? (i := 0) rfl) (fun q9 => ?_)
  refine j_astore_n X dL_commit_11 rfl rfl (by decide) (Ls2 := [(3, .ref (q9)), (0, .ref (zA Z (6) (0) (0))), (1, .int (x)), (2, .int (y))]) rfl ?_
  refine j_ldc X (v := -1000000901) dL_commit_12 rfl (List.mem_of_getElem? (i := 100) (by decide +kernel)) ?_
  exact K _ _ dL_commit_14
set_option maxRecDepth 100000 in
set_option maxHeartbeats 4000000 in
theorem w_commitValue (l : Launch) (Z : wZ) (S S1 : St) (h : Hl) (x : Int32) (y : Int32) (w : Bool) (v : Int32) (hC : Ci l yX5_commitValue cX5_commitValue 4 .int 1 23 Z [.ref (zA Z (6) (0) (0)), .int (x), .int (y), .int (bI (w))] S h v S1 h) : Cq l yL_commitValue (.codeWith yL_commitValue cL_commitValue 5 (some .int) [(0, 7, 8, 34)]) 0 0 2 46 Z [.ref (zA Z (6) (0) (0)), .int (x), .int (y), .int (bI (w))] S h v S1 h := by
  refine Cq.ofW rfl rfl rfl (Nat.le_of_ble_eq_true rfl) (fun p e s mi args below meth c A0 Q X hSt hZ htab K => ?_)
  refine j_at rfl rfl (Ls3 := [(0, .ref (zA Z (6) (0) (0))), (1, .int (x)), (2, .int (y)), (3, .int (bI (w)))]) rfl rfl ?_
  refine j_aload_n X dL_commitValue_0 rfl rfl (q := 0) rfl ?_
  refine j_iload_n X dL_commitValue_1 rfl rfl (q := 1) rfl ?_
  refine j_iload_n X dL_commitValue_2 rfl rfl (q := 2) rfl ?_
  refine j_iload_n X dL_commitValue_3 rfl rfl (q := 3) rfl ?_
  refine j_calli X hC (wm_top (by decide)) ((fun _ => rfl) _) rfl lk_RL_75 mi_X5_commitValue ms_X5_commitValue ini_RX5 mc_X5_commitValue md_X5_commitValue ⟨Nat.le_of_ble_eq_true rfl, Nat.le_of_ble_eq_true rfl⟩ ⟨Nat.le_of_ble_eq_true rfl, Nat.le_of_ble_eq_true rfl⟩ rfl (Nat.le_of_ble_eq_true rfl) (as := [.int (x), .int (y), .int (bI (w))]) (rest := []) rfl dL_commitValue_4 rfl ?_
  exact K _ _ dL_commitValue_7
set_option maxRecDepth 100000 in
set_option maxHeartbeats 4000000 in
theorem wt_commitValue (l : Launch) (Z : wZ) (S : St) (h : Hl) (x : Int32) (y : Int32) (w : Bool) (hC : Ct l yX5_commitValue cX5_commitValue 4 .int 6 82 Z [.ref (zA Z (6) (0) (0)), .int (x), .int (y), .int (bI (w))] S h "java/lang/IndexOutOfBoundsException") : Cq l yL_commitValue (.codeWith yL_commitValue cL_commitValue 5 (some .int) [(0, 7, 8, 34)]) 1 6 7 105 Z [.ref (zA Z (6) (0) (0)), .int (x), .int (y), .int (bI (w))] S h (-1000000903) S h := by
  refine Cq.ofW rfl rfl rfl (Nat.le_of_ble_eq_true rfl) (fun p e s mi args below meth c A0 Q X hSt hZ htab K => ?_)
  refine j_at rfl rfl (Ls3 := [(0, .ref (zA Z (6) (0) (0))), (1, .int (x)), (2, .int (y)), (3, .int (bI (w)))]) rfl rfl ?_
  refine j_aload_n X dL_commitValue_0 rfl rfl (q := 0) rfl ?_
  refine j_iload_n X dL_commitValue_1 rfl rfl (q := 1) rfl ?_
  refine j_iload_n X dL_commitValue_2 rfl rfl (q := 2) rfl ?_
  refine j_iload_n X dL_commitValue_3 rfl rfl (q := 3) rfl ?_
  refine j_callT X hSt hZ (E := "java/lang/IndexOutOfBoundsException") hC (wm_top (by decide)) ((fun _ => rfl) _) rfl lk_RL_75 mi_X5_commitValue ms_X5_commitValue ini_RX5 mc_X5_commitValue md_X5_commitValue ⟨Nat.le_of_ble_eq_true rfl, Nat.le_of_ble_eq_true rfl⟩ ⟨Nat.le_of_ble_eq_true rfl, Nat.le_of_ble_eq_true rfl⟩ rfl (Nat.le_of_ble_eq_true rfl) (as := [.int (x), .int (y), .int (bI (w))]) (rest := []) rfl dL_commitValue_4 htab [] ⟨0, 7, 8, 34⟩ [] rfl (fun z hz => absurd hz List.not_mem_nil) rfl (by decide) (List.mem_of_getElem? (i := 121) (by decide +kernel)) (List.mem_of_getElem? (i := 2) rfl) (fun q9 => ?_)
  refine j_astore X dL_commitValue_8 rfl (by decide) (Ls2 := [(4, .ref (q9)), (0, .ref (zA Z (6) (0) (0))), (1, .int (x)), (2, .int (y)), (3, .int (bI (w)))]) rfl ?_
  refine j_ldc X (v := -1000000903) dL_commitValue_10 rfl (List.mem_of_getElem? (i := 122) (by decide +kernel)) ?_
  exact K _ _ dL_commitValue_12
set_option maxRecDepth 100000 in
set_option maxHeartbeats 4000000 in
theorem w_begin (l : Launch) (Z : wZ) (S S1 : St) (h : Hl) (x : Int32) (y : Int32) (z : Int32) (v : Int32) (hC : Ci l yX5_begin cX5_begin 5 .int 5 102 Z [.ref (zA Z (6) (0) (0)), .int (x), .int (y), .int (z)] S h v S1 h) : Cq l yL_begin (.codeWith yL_begin cL_begin 5 (some .int) [(0, 7, 8, 15)]) 0 0 6 126 Z [.ref (zA Z (6) (0) (0)), .int (x), .int (y), .int (z)] S h v S1 h := by
  refine Cq.ofW rfl rfl rfl (Nat.le_of_ble_eq_true rfl) (fun p e s mi args below meth c A0 Q X hSt hZ htab K => ?_)
  refine j_at rfl rfl (Ls3 := [(0, .ref (zA Z (6) (0) (0))), (1, .int (x)), (2, .int (y)), (3, .int (z))]) rfl rfl ?_
  refine j_aload_n X dL_begin_0 rfl rfl (q := 0) rfl ?_
  refine j_iload_n X dL_begin_1 rfl rfl (q := 1) rfl ?_
  refine j_iload_n X dL_begin_2 rfl rfl (q := 2) rfl ?_
  refine j_iload_n X dL_begin_3 rfl rfl (q := 3) rfl ?_
  refine j_calli X hC (wm_top (by decide)) ((fun _ => rfl) _) rfl lk_RL_9 mi_X5_begin ms_X5_begin ini_RX5 mc_X5_begin md_X5_begin ⟨Nat.le_of_ble_eq_true rfl, Nat.le_of_ble_eq_true rfl⟩ ⟨Nat.le_of_ble_eq_true rfl, Nat.le_of_ble_eq_true rfl⟩ rfl (Nat.le_of_ble_eq_true rfl) (as := [.int (x), .int (y), .int (z)]) (rest := []) rfl dL_begin_4 rfl ?_
  exact K _ _ dL_begin_7
set_option maxRecDepth 100000 in
set_option maxHeartbeats 4000000 in
theorem wt_begin (l : Launch) (Z : wZ) (S : St) (h : Hl) (x : Int32) (y : Int32) (z : Int32) (hC : Ct l yX5_begin cX5_begin 5 .int 6 82 Z [.ref (zA Z (6) (0) (0)), .int (x), .int (y), .int (z)] S h "java/lang/IllegalArgumentException") : Cq l yL_begin (.codeWith yL_begin cL_begin 5 (some .int) [(0, 7, 8, 15)]) 1 6 7 106 Z [.ref (zA Z (6) (0) (0)), .int (x), .int (y), .int (z)] S h (-1000000901) S h := by
  refine Cq.ofW rfl rfl rfl (Nat.le_of_ble_eq_true rfl) (fun p e s mi args below meth c A0 Q X hSt hZ htab K => ?_)
  refine j_at rfl rfl (Ls3 := [(0, .ref (zA Z (6) (0) (0))), (1, .int (x)), (2, .int (y)), (3, .int (z))]) rfl rfl ?_
  refine j_aload_n X dL_begin_0 rfl rfl (q := 0) rfl ?_
  refine j_iload_n X dL_begin_1 rfl rfl (q := 1) rfl ?_
  refine j_iload_n X dL_begin_2 rfl rfl (q := 2) rfl ?_
  refine j_iload_n X dL_begin_3 rfl rfl (q := 3) rfl ?_
  refine j_callT X hSt hZ (E := "java/lang/IllegalArgumentException") hC (wm_top (by decide)) ((fun _ => rfl) _) rfl lk_RL_9 mi_X5_begin ms_X5_begin ini_RX5 mc_X5_begin md_X5_begin ⟨Nat.le_of_ble_eq_true rfl, Nat.le_of_ble_eq_true rfl⟩ ⟨Nat.le_of_ble_eq_true rfl, Nat.le_of_ble_eq_true rfl⟩ rfl (Nat.le_of_ble_eq_true rfl) (as := [.int (x), .int (y), .int (z)]) (rest := []) rfl dL_begin_4 htab [] ⟨0, 7, 8, 15⟩ [] rfl (fun z hz => absurd hz List.not_mem_nil) rfl (by decide) (List.mem_of_getElem? (i := 99) (by decide +kernel)) (List.mem_of_getElem? (i := 0) rfl) (fun q9 => ?_)
  refine j_astore X dL_begin_8 rfl (by decide) (Ls2 := [(4, .ref (q9)), (0, .ref (zA Z (6) (0) (0))), (1, .int (x)), (2, .int (y)), (3, .int (z))]) rfl ?_
  refine j_ldc X (v := -1000000901) dL_begin_10 rfl (List.mem_of_getElem? (i := 100) (by decide +kernel)) ?_
  exact K _ _ dL_begin_12
set_option maxRecDepth 100000 in
set_option maxHeartbeats 4000000 in
theorem w_seed (l : Launch) (Z : wZ) (S S1 : St) (h : Hl) (x : Int32) (v : Int32) (hC : Ci l yX5_seed cX5_seed 3 .int 5 102 Z [.ref (zA Z (6) (0) (0)), .int (x)] S h v S1 h) : Cq l yL_seed (.codeWith yL_seed cL_seed 3 (some .int) [(0, 5, 6, 15)]) 0 0 6 124 Z [.ref (zA Z (6) (0) (0)), .int (x)] S h v S1 h := by
  refine Cq.ofW rfl rfl rfl (Nat.le_of_ble_eq_true rfl) (fun p e s mi args below meth c A0 Q X hSt hZ htab K => ?_)
  refine j_at rfl rfl (Ls3 := [(0, .ref (zA Z (6) (0) (0))), (1, .int (x))]) rfl rfl ?_
  refine j_aload_n X dL_seed_0 rfl rfl (q := 0) rfl ?_
  refine j_iload_n X dL_seed_1 rfl rfl (q := 1) rfl ?_
  refine j_calli X hC (wm_top (by decide)) ((fun _ => rfl) _) rfl lk_RL_22 mi_X5_seed ms_X5_seed ini_RX5 mc_X5_seed md_X5_seed ⟨Nat.le_of_ble_eq_true rfl, Nat.le_of_ble_eq_true rfl⟩ ⟨Nat.le_of_ble_eq_true rfl, Nat.le_of_ble_eq_true rfl⟩ rfl (Nat.le_of_ble_eq_true rfl) (as := [.int (x)]) (rest := []) rfl dL_seed_2 rfl ?_
  exact K _ _ dL_seed_5
set_option maxRecDepth 100000 in
set_option maxHeartbeats 4000000 in
theorem wt_seed (l : Launch) (Z : wZ) (S : St) (h : Hl) (x : Int32) (hC : Ct l yX5_seed cX5_seed 3 .int 6 82 Z [.ref (zA Z (6) (0) (0)), .int (x)] S h "java/lang/IllegalArgumentException") : Cq l yL_seed (.codeWith yL_seed cL_seed 3 (some .int) [(0, 5, 6, 15)]) 1 6 7 104 Z [.ref (zA Z (6) (0) (0)), .int (x)] S h (-1000000901) S h := by
  refine Cq.ofW rfl rfl rfl (Nat.le_of_ble_eq_true rfl) (fun p e s mi args below meth c A0 Q X hSt hZ htab K => ?_)
  refine j_at rfl rfl (Ls3 := [(0, .ref (zA Z (6) (0) (0))), (1, .int (x))]) rfl rfl ?_
  refine j_aload_n X dL_seed_0 rfl rfl (q := 0) rfl ?_
  refine j_iload_n X dL_seed_1 rfl rfl (q := 1) rfl ?_
  refine j_callT X hSt hZ (E := "java/lang/IllegalArgumentException") hC (wm_top (by decide)) ((fun _ => rfl) _) rfl lk_RL_22 mi_X5_seed ms_X5_seed ini_RX5 mc_X5_seed md_X5_seed ⟨Nat.le_of_ble_eq_true rfl, Nat.le_of_ble_eq_true rfl⟩ ⟨Nat.le_of_ble_eq_true rfl, Nat.le_of_ble_eq_true rfl⟩ rfl (Nat.le_of_ble_eq_true rfl) (as := [.int (x)]) (rest := []) rfl dL_seed_2 htab [] ⟨0, 5, 6, 15⟩ [] rfl (fun z hz => absurd hz List.not_mem_nil) rfl (by decide) (List.mem_of_getElem? (i := 99) (by decide +kernel)) (List.mem_of_getElem? (i := 0) rfl) (fun q9 => ?_)
  refine j_astore_n X dL_seed_6 rfl rfl (by decide) (Ls2 := [(2, .ref (q9)), (0, .ref (zA Z (6) (0) (0))), (1, .int (x))]) rfl ?_
  refine j_ldc X (v := -1000000901) dL_seed_7 rfl (List.mem_of_getElem? (i := 100) (by decide +kernel)) ?_
  exact K _ _ dL_seed_9
set_option maxRecDepth 100000 in
set_option maxHeartbeats 4000000 in
theorem w_setPolicy (l : Launch) (Z : wZ) (S S1 : St) (h : Hl) (x : Int32) (v : Int32) (hC : Ci l yX5_setPolicy cX5_setPolicy 3 .int 5 102 Z [.ref (zA Z (6) (0) (0)), .int (x)] S h v S1 h) : Cq l yL_setPolicy (.codeWith yL_setPolicy cL_setPolicy 3 (some .int) [(0, 5, 6, 15)]) 0 0 6 124 Z [.ref (zA Z (6) (0) (0)), .int (x)] S h v S1 h := by
  refine Cq.ofW rfl rfl rfl (Nat.le_of_ble_eq_true rfl) (fun p e s mi args below meth c A0 Q X hSt hZ htab K => ?_)
  refine j_at rfl rfl (Ls3 := [(0, .ref (zA Z (6) (0) (0))), (1, .int (x))]) rfl rfl ?_
  refine j_aload_n X dL_setPolicy_0 rfl rfl (q := 0) rfl ?_
  refine j_iload_n X dL_setPolicy_1 rfl rfl (q := 1) rfl ?_
  refine j_calli X hC (wm_top (by decide)) ((fun _ => rfl) _) rfl lk_RL_18 mi_X5_setPolicy ms_X5_setPolicy ini_RX5 mc_X5_setPolicy md_X5_setPolicy ⟨Nat.le_of_ble_eq_true rfl, Nat.le_of_ble_eq_true rfl⟩ ⟨Nat.le_of_ble_eq_true rfl, Nat.le_of_ble_eq_true rfl⟩ rfl (Nat.le_of_ble_eq_true rfl) (as := [.int (x)]) (rest := []) rfl dL_setPolicy_2 rfl ?_
  exact K _ _ dL_setPolicy_5
set_option maxRecDepth 100000 in
set_option maxHeartbeats 4000000 in
theorem wt_setPolicy (l : Launch) (Z : wZ) (S : St) (h : Hl) (x : Int32) (hC : Ct l yX5_setPolicy cX5_setPolicy 3 .int 6 82 Z [.ref (zA Z (6) (0) (0)), .int (x)] S h "java/lang/IllegalArgumentException") : Cq l yL_setPolicy (.codeWith yL_setPolicy cL_setPolicy 3 (some .int) [(0, 5, 6, 15)]) 1 6 7 104 Z [.ref (zA Z (6) (0) (0)), .int (x)] S h (-1000000901) S h := by
  refine Cq.ofW rfl rfl rfl (Nat.le_of_ble_eq_true rfl) (fun p e s mi args below meth c A0 Q X hSt hZ htab K => ?_)
  refine j_at rfl rfl (Ls3 := [(0, .ref (zA Z (6) (0) (0))), (1, .int (x))]) rfl rfl ?_
  refine j_aload_n X dL_setPolicy_0 rfl rfl (q := 0) rfl ?_
  refine j_iload_n X dL_setPolicy_1 rfl rfl (q := 1) rfl ?_
  refine j_callT X hSt hZ (E := "java/lang/IllegalArgumentException") hC (wm_top (by decide)) ((fun _ => rfl) _) rfl lk_RL_18 mi_X5_setPolicy ms_X5_setPolicy ini_RX5 mc_X5_setPolicy md_X5_setPolicy ⟨Nat.le_of_ble_eq_true rfl, Nat.le_of_ble_eq_true rfl⟩ ⟨Nat.le_of_ble_eq_true rfl, Nat.le_of_ble_eq_true rfl⟩ rfl (Nat.le_of_ble_eq_true rfl) (as := [.int (x)]) (rest := []) rfl dL_setPolicy_2 htab [] ⟨0, 5, 6, 15⟩ [] rfl (fun z hz => absurd hz List.not_mem_nil) rfl (by decide) (List.mem_of_getElem? (i := 99) (by decide +kernel)) (List.mem_of_getElem? (i := 0) rfl) (fun q9 => ?_)
  refine j_astore_n X dL_setPolicy_6 rfl rfl (by decide) (Ls2 := [(2, .ref (q9)), (0, .ref (zA Z (6) (0) (0))), (1, .int (x))]) rfl ?_
  refine j_ldc X (v := -1000000901) dL_setPolicy_7 rfl (List.mem_of_getElem? (i := 100) (by decide +kernel)) ?_
  exact K _ _ dL_setPolicy_9
set_option maxRecDepth 100000 in
set_option maxHeartbeats 4000000 in
theorem w_load (l : Launch) (Z : wZ) (S S1 : St) (h : Hl) (x : Int32) (v : Int32) (hC : Ci l yX5_load cX5_load 3 .int 5 107 Z [.ref (zA Z (6) (0) (0)), .int (x)] S h v S1 h) : Cq l yL_load (.codeWith yL_load cL_load 3 (some .int) [(0, 5, 6, 34), (0, 5, 10, 28)]) 0 0 6 129 Z [.ref (zA Z (6) (0) (0)), .int (x)] S h v S1 h := by
  refine Cq.ofW rfl rfl rfl (Nat.le_of_ble_eq_true rfl) (fun p e s mi args below meth c A0 Q X hSt hZ htab K => ?_)
  refine j_at rfl rfl (Ls3 := [(0, .ref (zA Z (6) (0) (0))), (1, .int (x))]) rfl rfl ?_
  refine j_aload_n X dL_load_0 rfl rfl (q := 0) rfl ?_
  refine j_iload_n X dL_load_1 rfl rfl (q := 1) rfl ?_
  refine j_calli X hC (wm_top (by decide)) ((fun _ => rfl) _) rfl lk_RL_31 mi_X5_load ms_X5_load ini_RX5 mc_X5_load md_X5_load ⟨Nat.le_of_ble_eq_true rfl, Nat.le_of_ble_eq_true rfl⟩ ⟨Nat.le_of_ble_eq_true rfl, Nat.le_of_ble_eq_true rfl⟩ rfl (Nat.le_of_ble_eq_true rfl) (as := [.int (x)]) (rest := []) rfl dL_load_2 rfl ?_
  exact K _ _ dL_load_5
set_option maxRecDepth 100000 in
set_option maxHeartbeats 4000000 in
theorem wt_load (l : Launch) (Z : wZ) (S : St) (h : Hl) (x : Int32) (hC : Ct l yX5_load cX5_load 3 .int 6 82 Z [.ref (zA Z (6) (0) (0)), .int (x)] S h "java/lang/IndexOutOfBoundsException") : Cq l yL_load (.codeWith yL_load cL_load 3 (some .int) [(0, 5, 6, 34), (0, 5, 10, 28)]) 1 6 7 104 Z [.ref (zA Z (6) (0) (0)), .int (x)] S h (-1000000903) S h := by
  refine Cq.ofW rfl rfl rfl (Nat.le_of_ble_eq_true rfl) (fun p e s mi args below meth c A0 Q X hSt hZ htab K => ?_)
  refine j_at rfl rfl (Ls3 := [(0, .ref (zA Z (6) (0) (0))), (1, .int (x))]) rfl rfl ?_
  refine j_aload_n X dL_load_0 rfl rfl (q := 0) rfl ?_
  refine j_iload_n X dL_load_1 rfl rfl (q := 1) rfl ?_
  refine j_callT X hSt hZ (E := "java/lang/IndexOutOfBoundsException") hC (wm_top (by decide)) ((fun _ => rfl) _) rfl lk_RL_31 mi_X5_load ms_X5_load ini_RX5 mc_X5_load md_X5_load ⟨Nat.le_of_ble_eq_true rfl, Nat.le_of_ble_eq_true rfl⟩ ⟨Nat.le_of_ble_eq_true rfl, Nat.le_of_ble_eq_true rfl⟩ rfl (Nat.le_of_ble_eq_true rfl) (as := [.int (x)]) (rest := []) rfl dL_load_2 htab [] ⟨0, 5, 6, 34⟩ [⟨0, 5, 10, 28⟩] rfl (fun z hz => absurd hz List.not_mem_nil) rfl (by decide) (List.mem_of_getElem? (i := 121) (by decide +kernel)) (List.mem_of_getElem? (i := 2) rfl) (fun q9 => ?_)
  refine j_astore_n X dL_load_6 rfl rfl (by decide) (Ls2 := [(2, .ref (q9)), (0, .ref (zA Z (6) (0) (0))), (1, .int (x))]) rfl ?_
  refine j_ldc X (v := -1000000903) dL_load_7 rfl (List.mem_of_getElem? (i := 122) (by decide +kernel)) ?_
  exact K _ _ dL_load_9
set_option maxRecDepth 100000 in
set_option maxHeartbeats 4000000 in
theorem wt_load_tr (l : Launch) (Z : wZ) (S : St) (h : Hl) (x : Int32) (hC : Ct l yX5_load cX5_load 3 .int 6 82 Z [.ref (zA Z (6) (0) (0)), .int (x)] S h "java/lang/IllegalStateException") : Cq l yL_load (.codeWith yL_load cL_load 3 (some .int) [(0, 5, 6, 34), (0, 5, 10, 28)]) 1 6 7 104 Z [.ref (zA Z (6) (0) (0)), .int (x)] S h (-1000000902) S h := by
  refine Cq.ofW rfl rfl rfl (Nat.le_of_ble_eq_true rfl) (fun p e s mi args below meth c A0 Q X hSt hZ htab K => ?_)
  refine j_at rfl rfl (Ls3 := [(0, .ref (zA Z (6) (0) (0))), (1, .int (x))]) rfl rfl ?_
  refine j_aload_n X dL_load_0 rfl rfl (q := 0) rfl ?_
  refine j_iload_n X dL_load_1 rfl rfl (q := 1) rfl ?_
  refine j_callT X hSt hZ (E := "java/lang/IllegalStateException") hC (wm_top (by decide)) ((fun _ => rfl) _) rfl lk_RL_31 mi_X5_load ms_X5_load ini_RX5 mc_X5_load md_X5_load ⟨Nat.le_of_ble_eq_true rfl, Nat.le_of_ble_eq_true rfl⟩ ⟨Nat.le_of_ble_eq_true rfl, Nat.le_of_ble_eq_true rfl⟩ rfl (Nat.le_of_ble_eq_true rfl) (as := [.int (x)]) (rest := []) rfl dL_load_2 htab [⟨0, 5, 6, 34⟩] ⟨0, 5, 10, 28⟩ [] rfl (fun z hz => by rw [List.mem_singleton.mp hz]; exact ⟨by decide, "java/lang/IndexOutOfBoundsException", (List.mem_of_getElem? (i := 121) (by decide +kernel)), hSt.2.2.2.1⟩) rfl (by decide) (List.mem_of_getElem? (i := 321) (by decide +kernel)) (List.mem_of_getElem? (i := 1) rfl) (fun q9 => ?_)
  refine j_astore_n X dL_load_10 rfl rfl (by decide) (Ls2 := [(2, .ref (q9)), (0, .ref (zA Z (6) (0) (0))), (1, .int (x))]) rfl ?_
  refine j_ldc X (v := -1000000902) dL_load_11 rfl (List.mem_of_getElem? (i := 4) (by decide +kernel)) ?_
  exact K _ _ dL_load_13
set_option maxRecDepth 100000 in
set_option maxHeartbeats 4000000 in
theorem w_again (l : Launch) (Z : wZ) (S S1 : St) (h : Hl) (x : Int32) (v : Int32) (hC : Ci l yX5_again cX5_again 2 .int 5 102 Z [.ref (zA Z (6) (0) (0)), .int (x)] S h v S1 h) : Cq l yL_again (.codeWith yL_again cL_again 3 (some .int) [(0, 5, 6, 34), (0, 5, 10, 28)]) 0 0 6 123 Z [.ref (zA Z (6) (0) (0)), .int (x)] S h v S1 h := by
  refine Cq.ofW rfl rfl rfl (Nat.le_of_ble_eq_true rfl) (fun p e s mi args below meth c A0 Q X hSt hZ htab K => ?_)
  refine j_at rfl rfl (Ls3 := [(0, .ref (zA Z (6) (0) (0))), (1, .int (x))]) rfl rfl ?_
  refine j_aload_n X dL_again_0 rfl rfl (q := 0) rfl ?_
  refine j_iload_n X dL_again_1 rfl rfl (q := 1) rfl ?_
  refine j_calli X hC (wm_top (by decide)) ((fun _ => rfl) _) rfl lk_RL_37 mi_X5_again ms_X5_again ini_RX5 mc_X5_again md_X5_again ⟨Nat.le_of_ble_eq_true rfl, Nat.le_of_ble_eq_true rfl⟩ ⟨Nat.le_of_ble_eq_true rfl, Nat.le_of_ble_eq_true rfl⟩ rfl (Nat.le_of_ble_eq_true rfl) (as := [.int (x)]) (rest := []) rfl dL_again_2 rfl ?_
  exact K _ _ dL_again_5
set_option maxRecDepth 100000 in
set_option maxHeartbeats 4000000 in
theorem wt_again (l : Launch) (Z : wZ) (S : St) (h : Hl) (x : Int32) (hC : Ct l yX5_again cX5_again 2 .int 6 82 Z [.ref (zA Z (6) (0) (0)), .int (x)] S h "java/lang/IndexOutOfBoundsException") : Cq l yL_again (.codeWith yL_again cL_again 3 (some .int) [(0, 5, 6, 34), (0, 5, 10, 28)]) 1 6 7 103 Z [.ref (zA Z (6) (0) (0)), .int (x)] S h (-1000000903) S h := by
  refine Cq.ofW rfl rfl rfl (Nat.le_of_ble_eq_true rfl) (fun p e s mi args below meth c A0 Q X hSt hZ htab K => ?_)
  refine j_at rfl rfl (Ls3 := [(0, .ref (zA Z (6) (0) (0))), (1, .int (x))]) rfl rfl ?_
  refine j_aload_n X dL_again_0 rfl rfl (q := 0) rfl ?_
  refine j_iload_n X dL_again_1 rfl rfl (q := 1) rfl ?_
  refine j_callT X hSt hZ (E := "java/lang/IndexOutOfBoundsException") hC (wm_top (by decide)) ((fun _ => rfl) _) rfl lk_RL_37 mi_X5_again ms_X5_again ini_RX5 mc_X5_again md_X5_again ⟨Nat.le_of_ble_eq_true rfl, Nat.le_of_ble_eq_true rfl⟩ ⟨Nat.le_of_ble_eq_true rfl, Nat.le_of_ble_eq_true rfl⟩ rfl (Nat.le_of_ble_eq_true rfl) (as := [.int (x)]) (rest := []) rfl dL_again_2 htab [] ⟨0, 5, 6, 34⟩ [⟨0, 5, 10, 28⟩] rfl (fun z hz => absurd hz List.not_mem_nil) rfl (by decide) (List.mem_of_getElem? (i := 121) (by decide +kernel)) (List.mem_of_getElem? (i := 2) rfl) (fun q9 => ?_)
  refine j_astore_n X dL_again_6 rfl rfl (by decide) (Ls2 := [(2, .ref (q9)), (0, .ref (zA Z (6) (0) (0))), (1, .int (x))]) rfl ?_
  refine j_ldc X (v := -1000000903) dL_again_7 rfl (List.mem_of_getElem? (i := 122) (by decide +kernel)) ?_
  exact K _ _ dL_again_9
set_option maxRecDepth 100000 in
set_option maxHeartbeats 4000000 in
theorem wt_again_st (l : Launch) (Z : wZ) (S : St) (h : Hl) (x : Int32) (hC : Ct l yX5_again cX5_again 2 .int 6 82 Z [.ref (zA Z (6) (0) (0)), .int (x)] S h "java/lang/IllegalStateException") : Cq l yL_again (.codeWith yL_again cL_again 3 (some .int) [(0, 5, 6, 34), (0, 5, 10, 28)]) 1 6 7 103 Z [.ref (zA Z (6) (0) (0)), .int (x)] S h (-1000000902) S h := by
  refine Cq.ofW rfl rfl rfl (Nat.le_of_ble_eq_true rfl) (fun p e s mi args below meth c A0 Q X hSt hZ htab K => ?_)
  refine j_at rfl rfl (Ls3 := [(0, .ref (zA Z (6) (0) (0))), (1, .int (x))]) rfl rfl ?_
  refine j_aload_n X dL_again_0 rfl rfl (q := 0) rfl ?_
  refine j_iload_n X dL_again_1 rfl rfl (q := 1) rfl ?_
  refine j_callT X hSt hZ (E := "java/lang/IllegalStateException") hC (wm_top (by decide)) ((fun _ => rfl) _) rfl lk_RL_37 mi_X5_again ms_X5_again ini_RX5 mc_X5_again md_X5_again ⟨Nat.le_of_ble_eq_true rfl, Nat.le_of_ble_eq_true rfl⟩ ⟨Nat.le_of_ble_eq_true rfl, Nat.le_of_ble_eq_true rfl⟩ rfl (Nat.le_of_ble_eq_true rfl) (as := [.int (x)]) (rest := []) rfl dL_again_2 htab [⟨0, 5, 6, 34⟩] ⟨0, 5, 10, 28⟩ [] rfl (fun z hz => by rw [List.mem_singleton.mp hz]; exact ⟨by decide, "java/lang/IndexOutOfBoundsException", (List.mem_of_getElem? (i := 121) (by decide +kernel)), hSt.2.2.2.1⟩) rfl (by decide) (List.mem_of_getElem? (i := 321) (by decide +kernel)) (List.mem_of_getElem? (i := 1) rfl) (fun q9 => ?_)
  refine j_astore_n X dL_again_10 rfl rfl (by decide) (Ls2 := [(2, .ref (q9)), (0, .ref (zA Z (6) (0) (0))), (1, .int (x))]) rfl ?_
  refine j_ldc X (v := -1000000902) dL_again_11 rfl (List.mem_of_getElem? (i := 4) (by decide +kernel)) ?_
  exact K _ _ dL_again_13
set_option maxRecDepth 100000 in
set_option maxHeartbeats 4000000 in
theorem w_step (l : Launch) (Z : wZ) (S S1 : St) (h : Hl) (x : Int32) (v : Int32) (hC : Ci l yX5_step cX5_step 2 .int 5 120 Z [.ref (zA Z (6) (0) (0)), .int (x)] S h v S1 h) : Cq l yL_step (.codeWith yL_step cL_step 3 (some .int) [(0, 5, 6, 34), (0, 5, 10, 28)]) 0 0 6 141 Z [.ref (zA Z (6) (0) (0)), .int (x)] S h v S1 h := by
  refine Cq.ofW rfl rfl rfl (Nat.le_of_ble_eq_true rfl) (fun p e s mi args below meth c A0 Q X hSt hZ htab K => ?_)
  refine j_at rfl rfl (Ls3 := [(0, .ref (zA Z (6) (0) (0))), (1, .int (x))]) rfl rfl ?_
  refine j_aload_n X dL_step_0 rfl rfl (q := 0) rfl ?_
  refine j_iload_n X dL_step_1 rfl rfl (q := 1) rfl ?_
  refine j_calli X hC (wm_top (by decide)) ((fun _ => rfl) _) rfl lk_RL_40 mi_X5_step ms_X5_step ini_RX5 mc_X5_step md_X5_step ⟨Nat.le_of_ble_eq_true rfl, Nat.le_of_ble_eq_true rfl⟩ ⟨Nat.le_of_ble_eq_true rfl, Nat.le_of_ble_eq_true rfl⟩ rfl (Nat.le_of_ble_eq_true rfl) (as := [.int (x)]) (rest := []) rfl dL_step_2 rfl ?_
  exact K _ _ dL_step_5
set_option maxRecDepth 100000 in
set_option maxHeartbeats 4000000 in
theorem wt_step (l : Launch) (Z : wZ) (S : St) (h : Hl) (x : Int32) (hC : Ct l yX5_step cX5_step 2 .int 6 82 Z [.ref (zA Z (6) (0) (0)), .int (x)] S h "java/lang/IndexOutOfBoundsException") : Cq l yL_step (.codeWith yL_step cL_step 3 (some .int) [(0, 5, 6, 34), (0, 5, 10, 28)]) 1 6 7 103 Z [.ref (zA Z (6) (0) (0)), .int (x)] S h (-1000000903) S h := by
  refine Cq.ofW rfl rfl rfl (Nat.le_of_ble_eq_true rfl) (fun p e s mi args below meth c A0 Q X hSt hZ htab K => ?_)
  refine j_at rfl rfl (Ls3 := [(0, .ref (zA Z (6) (0) (0))), (1, .int (x))]) rfl rfl ?_
  refine j_aload_n X dL_step_0 rfl rfl (q := 0) rfl ?_
  refine j_iload_n X dL_step_1 rfl rfl (q := 1) rfl ?_
  refine j_callT X hSt hZ (E := "java/lang/IndexOutOfBoundsException") hC (wm_top (by decide)) ((fun _ => rfl) _) rfl lk_RL_40 mi_X5_step ms_X5_step ini_RX5 mc_X5_step md_X5_step ⟨Nat.le_of_ble_eq_true rfl, Nat.le_of_ble_eq_true rfl⟩ ⟨Nat.le_of_ble_eq_true rfl, Nat.le_of_ble_eq_true rfl⟩ rfl (Nat.le_of_ble_eq_true rfl) (as := [.int (x)]) (rest := []) rfl dL_step_2 htab [] ⟨0, 5, 6, 34⟩ [⟨0, 5, 10, 28⟩] rfl (fun z hz => absurd hz List.not_mem_nil) rfl (by decide) (List.mem_of_getElem? (i := 121) (by decide +kernel)) (List.mem_of_getElem? (i := 2) rfl) (fun q9 => ?_)
  refine j_astore_n X dL_step_6 rfl rfl (by decide) (Ls2 := [(2, .ref (q9)), (0, .ref (zA Z (6) (0) (0))), (1, .int (x))]) rfl ?_
  refine j_ldc X (v := -1000000903) dL_step_7 rfl (List.mem_of_getElem? (i := 122) (by decide +kernel)) ?_
  exact K _ _ dL_step_9
set_option maxRecDepth 100000 in
set_option maxHeartbeats 4000000 in
theorem wt_step_fin (l : Launch) (Z : wZ) (S : St) (h : Hl) (x : Int32) (hC : Ct l yX5_step cX5_step 2 .int 6 82 Z [.ref (zA Z (6) (0) (0)), .int (x)] S h "java/lang/IllegalStateException") : Cq l yL_step (.codeWith yL_step cL_step 3 (some .int) [(0, 5, 6, 34), (0, 5, 10, 28)]) 1 6 7 103 Z [.ref (zA Z (6) (0) (0)), .int (x)] S h (-1000000902) S h := by
  refine Cq.ofW rfl rfl rfl (Nat.le_of_ble_eq_true rfl) (fun p e s mi args below meth c A0 Q X hSt hZ htab K => ?_)
  refine j_at rfl rfl (Ls3 := [(0, .ref (zA Z (6) (0) (0))), (1, .int (x))]) rfl rfl ?_
  refine j_aload_n X dL_step_0 rfl rfl (q := 0) rfl ?_
  refine j_iload_n X dL_step_1 rfl rfl (q := 1) rfl ?_
  refine j_callT X hSt hZ (E := "java/lang/IllegalStateException") hC (wm_top (by decide)) ((fun _ => rfl) _) rfl lk_RL_40 mi_X5_step ms_X5_step ini_RX5 mc_X5_step md_X5_step ⟨Nat.le_of_ble_eq_true rfl, Nat.le_of_ble_eq_true rfl⟩ ⟨Nat.le_of_ble_eq_true rfl, Nat.le_of_ble_eq_true rfl⟩ rfl (Nat.le_of_ble_eq_true rfl) (as := [.int (x)]) (rest := []) rfl dL_step_2 htab [⟨0, 5, 6, 34⟩] ⟨0, 5, 10, 28⟩ [] rfl (fun z hz => by rw [List.mem_singleton.mp hz]; exact ⟨by decide, "java/lang/IndexOutOfBoundsException", (List.mem_of_getElem? (i := 121) (by decide +kernel)), hSt.2.2.2.1⟩) rfl (by decide) (List.mem_of_getElem? (i := 321) (by decide +kernel)) (List.mem_of_getElem? (i := 1) rfl) (fun q9 => ?_)
  refine j_astore_n X dL_step_10 rfl rfl (by decide) (Ls2 := [(2, .ref (q9)), (0, .ref (zA Z (6) (0) (0))), (1, .int (x))]) rfl ?_
  refine j_ldc X (v := -1000000902) dL_step_11 rfl (List.mem_of_getElem? (i := 4) (by decide +kernel)) ?_
  exact K _ _ dL_step_13
set_option maxRecDepth 100000 in
set_option maxHeartbeats 4000000 in
theorem w_run (l : Launch) (Z : wZ) (S S1 : St) (h : Hl) (x : Int32) (v : Int32) (hC : Ci l yX5_run cX5_run 2 .int 6 143 Z [.ref (zA Z (6) (0) (0)), .int (x)] S h v S1 h) : Cq l yL_run (.codeWith yL_run cL_run 3 (some .int) [(0, 5, 6, 15)]) 0 0 7 164 Z [.ref (zA Z (6) (0) (0)), .int (x)] S h v S1 h := by
  refine Cq.ofW rfl rfl rfl (Nat.le_of_ble_eq_true rfl) (fun p e s mi args below meth c A0 Q X hSt hZ htab K => ?_)
  refine j_at rfl rfl (Ls3 := [(0, .ref (zA Z (6) (0) (0))), (1, .int (x))]) rfl rfl ?_
  refine j_aload_n X dL_run_0 rfl rfl (q := 0) rfl ?_
  refine j_iload_n X dL_run_1 rfl rfl (q := 1) rfl ?_
  refine j_calli X hC (wm_top (by decide)) ((fun _ => rfl) _) rfl lk_RL_43 mi_X5_run ms_X5_run ini_RX5 mc_X5_run md_X5_run ⟨Nat.le_of_ble_eq_true rfl, Nat.le_of_ble_eq_true rfl⟩ ⟨Nat.le_of_ble_eq_true rfl, Nat.le_of_ble_eq_true rfl⟩ rfl (Nat.le_of_ble_eq_true rfl) (as := [.int (x)]) (rest := []) rfl dL_run_2 rfl ?_
  exact K _ _ dL_run_5
set_option maxRecDepth 100000 in
set_option maxHeartbeats 4000000 in
theorem wt_run (l : Launch) (Z : wZ) (S : St) (h : Hl) (x : Int32) (hC : Ct l yX5_run cX5_run 2 .int 6 82 Z [.ref (zA Z (6) (0) (0)), .int (x)] S h "java/lang/IllegalArgumentException") : Cq l yL_run (.codeWith yL_run cL_run 3 (some .int) [(0, 5, 6, 15)]) 1 6 7 103 Z [.ref (zA Z (6) (0) (0)), .int (x)] S h (-1000000901) S h := by
  refine Cq.ofW rfl rfl rfl (Nat.le_of_ble_eq_true rfl) (fun p e s mi args below meth c A0 Q X hSt hZ htab K => ?_)
  refine j_at rfl rfl (Ls3 := [(0, .ref (zA Z (6) (0) (0))), (1, .int (x))]) rfl rfl ?_
  refine j_aload_n X dL_run_0 rfl rfl (q := 0) rfl ?_
  refine j_iload_n X dL_run_1 rfl rfl (q := 1) rfl ?_
  refine j_callT X hSt hZ (E := "java/lang/IllegalArgumentException") hC (wm_top (by decide)) ((fun _ => rfl) _) rfl lk_RL_43 mi_X5_run ms_X5_run ini_RX5 mc_X5_run md_X5_run ⟨Nat.le_of_ble_eq_true rfl, Nat.le_of_ble_eq_true rfl⟩ ⟨Nat.le_of_ble_eq_true rfl, Nat.le_of_ble_eq_true rfl⟩ rfl (Nat.le_of_ble_eq_true rfl) (as := [.int (x)]) (rest := []) rfl dL_run_2 htab [] ⟨0, 5, 6, 15⟩ [] rfl (fun z hz => absurd hz List.not_mem_nil) rfl (by decide) (List.mem_of_getElem? (i := 99) (by decide +kernel)) (List.mem_of_getElem? (i := 0) rfl) (fun q9 => ?_)
  refine j_astore_n X dL_run_6 rfl rfl (by decide) (Ls2 := [(2, .ref (q9)), (0, .ref (zA Z (6) (0) (0))), (1, .int (x))]) rfl ?_
  refine j_ldc X (v := -1000000901) dL_run_7 rfl (List.mem_of_getElem? (i := 100) (by decide +kernel)) ?_
  exact K _ _ dL_run_9
set_option maxRecDepth 100000 in
set_option maxHeartbeats 4000000 in
theorem w_poke (l : Launch) (Z : wZ) (S S1 : St) (h : Hl) (x : Int32) (y : Int32) (v : Int32) (hC : Ci l yX5_poke cX5_poke 3 .int 5 102 Z [.ref (zA Z (6) (0) (0)), .int (x), .int (y)] S h v S1 h) : Cq l yL_poke (.codeWith yL_poke cL_poke 4 (some .int) [(0, 6, 7, 34)]) 0 0 6 124 Z [.ref (zA Z (6) (0) (0)), .int (x), .int (y)] S h v S1 h := by
  refine Cq.ofW rfl rfl rfl (Nat.le_of_ble_eq_true rfl) (fun p e s mi args below meth c A0 Q X hSt hZ htab K => ?_)
  refine j_at rfl rfl (Ls3 := [(0, .ref (zA Z (6) (0) (0))), (1, .int (x)), (2, .int (y))]) rfl rfl ?_
  refine j_aload_n X dL_poke_0 rfl rfl (q := 0) rfl ?_
  refine j_iload_n X dL_poke_1 rfl rfl (q := 1) rfl ?_
  refine j_iload_n X dL_poke_2 rfl rfl (q := 2) rfl ?_
  refine j_calli X hC (wm_top (by decide)) ((fun _ => rfl) _) rfl lk_RL_46 mi_X5_poke ms_X5_poke ini_RX5 mc_X5_poke md_X5_poke ⟨Nat.le_of_ble_eq_true rfl, Nat.le_of_ble_eq_true rfl⟩ ⟨Nat.le_of_ble_eq_true rfl, Nat.le_of_ble_eq_true rfl⟩ rfl (Nat.le_of_ble_eq_true rfl) (as := [.int (x), .int (y)]) (rest := []) rfl dL_poke_3 rfl ?_
  exact K _ _ dL_poke_6
set_option maxRecDepth 100000 in
set_option maxHeartbeats 4000000 in
theorem wt_poke (l : Launch) (Z : wZ) (S : St) (h : Hl) (x : Int32) (y : Int32) (hC : Ct l yX5_poke cX5_poke 3 .int 6 82 Z [.ref (zA Z (6) (0) (0)), .int (x), .int (y)] S h "java/lang/IndexOutOfBoundsException") : Cq l yL_poke (.codeWith yL_poke cL_poke 4 (some .int) [(0, 6, 7, 34)]) 1 6 7 104 Z [.ref (zA Z (6) (0) (0)), .int (x), .int (y)] S h (-1000000903) S h := by
  refine Cq.ofW rfl rfl rfl (Nat.le_of_ble_eq_true rfl) (fun p e s mi args below meth c A0 Q X hSt hZ htab K => ?_)
  refine j_at rfl rfl (Ls3 := [(0, .ref (zA Z (6) (0) (0))), (1, .int (x)), (2, .int (y))]) rfl rfl ?_
  refine j_aload_n X dL_poke_0 rfl rfl (q := 0) rfl ?_
  refine j_iload_n X dL_poke_1 rfl rfl (q := 1) rfl ?_
  refine j_iload_n X dL_poke_2 rfl rfl (q := 2) rfl ?_
  refine j_callT X hSt hZ (E := "java/lang/IndexOutOfBoundsException") hC (wm_top (by decide)) ((fun _ => rfl) _) rfl lk_RL_46 mi_X5_poke ms_X5_poke ini_RX5 mc_X5_poke md_X5_poke ⟨Nat.le_of_ble_eq_true rfl, Nat.le_of_ble_eq_true rfl⟩ ⟨Nat.le_of_ble_eq_true rfl, Nat.le_of_ble_eq_true rfl⟩ rfl (Nat.le_of_ble_eq_true rfl) (as := [.int (x), .int (y)]) (rest := []) rfl dL_poke_3 htab [] ⟨0, 6, 7, 34⟩ [] rfl (fun z hz => absurd hz List.not_mem_nil) rfl (by decide) (List.mem_of_getElem? (i := 121) (by decide +kernel)) (List.mem_of_getElem? (i := 2) rfl) (fun q9 => ?_)
  refine j_astore_n X dL_poke_7 rfl rfl (by decide) (Ls2 := [(3, .ref (q9)), (0, .ref (zA Z (6) (0) (0))), (1, .int (x)), (2, .int (y))]) rfl ?_
  refine j_ldc X (v := -1000000903) dL_poke_8 rfl (List.mem_of_getElem? (i := 122) (by decide +kernel)) ?_
  exact K _ _ dL_poke_10
set_option maxRecDepth 100000 in
set_option maxHeartbeats 4000000 in
theorem w_finish (l : Launch) (Z : wZ) (S S1 : St) (h : Hl) (x : Int32) (v : Int32) (hC : Ci l yX5_finish cX5_finish 2 .int 6 142 Z [.ref (zA Z (6) (0) (0)), .int (x)] S h v S1 h) : Cq l yL_finish (.codeWith yL_finish cL_finish 3 (some .int) [(0, 5, 6, 15)]) 0 0 7 163 Z [.ref (zA Z (6) (0) (0)), .int (x)] S h v S1 h := by
  refine Cq.ofW rfl rfl rfl (Nat.le_of_ble_eq_true rfl) (fun p e s mi args below meth c A0 Q X hSt hZ htab K => ?_)
  refine j_at rfl rfl (Ls3 := [(0, .ref (zA Z (6) (0) (0))), (1, .int (x))]) rfl rfl ?_
  refine j_aload_n X dL_finish_0 rfl rfl (q := 0) rfl ?_
  refine j_iload_n X dL_finish_1 rfl rfl (q := 1) rfl ?_
  refine j_calli X hC (wm_top (by decide)) ((fun _ => rfl) _) rfl lk_RL_79 mi_X5_finish ms_X5_finish ini_RX5 mc_X5_finish md_X5_finish ⟨Nat.le_of_ble_eq_true rfl, Nat.le_of_ble_eq_true rfl⟩ ⟨Nat.le_of_ble_eq_true rfl, Nat.le_of_ble_eq_true rfl⟩ rfl (Nat.le_of_ble_eq_true rfl) (as := [.int (x)]) (rest := []) rfl dL_finish_2 rfl ?_
  exact K _ _ dL_finish_5
set_option maxRecDepth 100000 in
set_option maxHeartbeats 4000000 in
theorem wt_finish (l : Launch) (Z : wZ) (S : St) (h : Hl) (x : Int32) (hC : Ct l yX5_finish cX5_finish 2 .int 6 82 Z [.ref (zA Z (6) (0) (0)), .int (x)] S h "java/lang/IllegalArgumentException") : Cq l yL_finish (.codeWith yL_finish cL_finish 3 (some .int) [(0, 5, 6, 15)]) 1 6 7 103 Z [.ref (zA Z (6) (0) (0)), .int (x)] S h (-1000000901) S h := by
  refine Cq.ofW rfl rfl rfl (Nat.le_of_ble_eq_true rfl) (fun p e s mi args below meth c A0 Q X hSt hZ htab K => ?_)
  refine j_at rfl rfl (Ls3 := [(0, .ref (zA Z (6) (0) (0))), (1, .int (x))]) rfl rfl ?_
  refine j_aload_n X dL_finish_0 rfl rfl (q := 0) rfl ?_
  refine j_iload_n X dL_finish_1 rfl rfl (q := 1) rfl ?_
  refine j_callT X hSt hZ (E := "java/lang/IllegalArgumentException") hC (wm_top (by decide)) ((fun _ => rfl) _) rfl lk_RL_79 mi_X5_finish ms_X5_finish ini_RX5 mc_X5_finish md_X5_finish ⟨Nat.le_of_ble_eq_true rfl, Nat.le_of_ble_eq_true rfl⟩ ⟨Nat.le_of_ble_eq_true rfl, Nat.le_of_ble_eq_true rfl⟩ rfl (Nat.le_of_ble_eq_true rfl) (as := [.int (x)]) (rest := []) rfl dL_finish_2 htab [] ⟨0, 5, 6, 15⟩ [] rfl (fun z hz => absurd hz List.not_mem_nil) rfl (by decide) (List.mem_of_getElem? (i := 99) (by decide +kernel)) (List.mem_of_getElem? (i := 0) rfl) (fun q9 => ?_)
  refine j_astore_n X dL_finish_6 rfl rfl (by decide) (Ls2 := [(2, .ref (q9)), (0, .ref (zA Z (6) (0) (0))), (1, .int (x))]) rfl ?_
  refine j_ldc X (v := -1000000901) dL_finish_7 rfl (List.mem_of_getElem? (i := 100) (by decide +kernel)) ?_
  exact K _ _ dL_finish_9
set_option maxRecDepth 100000 in
set_option maxHeartbeats 4000000 in
theorem w_abortsWith (l : Launch) (Z : wZ) (S S1 : St) (h : Hl) (x : Int32) (y : Int32) (v : Int32) (hC : Ci l yX5_abortsWith cX5_abortsWith 4 .int 6 143 Z [.ref (zA Z (6) (0) (0)), .int (x), .int (y)] S h v S1 h) : Cq l yL_abortsWith (.codeWith yL_abortsWith cL_abortsWith 4 (some .int) [(0, 6, 7, 15)]) 0 0 7 166 Z [.ref (zA Z (6) (0) (0)), .int (x), .int (y)] S h v S1 h := by
  refine Cq.ofW rfl rfl rfl (Nat.le_of_ble_eq_true rfl) (fun p e s mi args below meth c A0 Q X hSt hZ htab K => ?_)
  refine j_at rfl rfl (Ls3 := [(0, .ref (zA Z (6) (0) (0))), (1, .int (x)), (2, .int (y))]) rfl rfl ?_
  refine j_aload_n X dL_abortsWith_0 rfl rfl (q := 0) rfl ?_
  refine j_iload_n X dL_abortsWith_1 rfl rfl (q := 1) rfl ?_
  refine j_iload_n X dL_abortsWith_2 rfl rfl (q := 2) rfl ?_
  refine j_calli X hC (wm_top (by decide)) ((fun _ => rfl) _) rfl lk_RL_82 mi_X5_abortsWith ms_X5_abortsWith ini_RX5 mc_X5_abortsWith md_X5_abortsWith ⟨Nat.le_of_ble_eq_true rfl, Nat.le_of_ble_eq_true rfl⟩ ⟨Nat.le_of_ble_eq_true rfl, Nat.le_of_ble_eq_true rfl⟩ rfl (Nat.le_of_ble_eq_true rfl) (as := [.int (x), .int (y)]) (rest := []) rfl dL_abortsWith_3 rfl ?_
  exact K _ _ dL_abortsWith_6
set_option maxRecDepth 100000 in
set_option maxHeartbeats 4000000 in
theorem wt_abortsWith (l : Launch) (Z : wZ) (S : St) (h : Hl) (x : Int32) (y : Int32) (hC : Ct l yX5_abortsWith cX5_abortsWith 4 .int 6 82 Z [.ref (zA Z (6) (0) (0)), .int (x), .int (y)] S h "java/lang/IllegalArgumentException") : Cq l yL_abortsWith (.codeWith yL_abortsWith cL_abortsWith 4 (some .int) [(0, 6, 7, 15)]) 1 6 7 105 Z [.ref (zA Z (6) (0) (0)), .int (x), .int (y)] S h (-1000000901) S h := by
  refine Cq.ofW rfl rfl rfl (Nat.le_of_ble_eq_true rfl) (fun p e s mi args below meth c A0 Q X hSt hZ htab K => ?_)
  refine j_at rfl rfl (Ls3 := [(0, .ref (zA Z (6) (0) (0))), (1, .int (x)), (2, .int (y))]) rfl rfl ?_
  refine j_aload_n X dL_abortsWith_0 rfl rfl (q := 0) rfl ?_
  refine j_iload_n X dL_abortsWith_1 rfl rfl (q := 1) rfl ?_
  refine j_iload_n X dL_abortsWith_2 rfl rfl (q := 2) rfl ?_
  refine j_callT X hSt hZ (E := "java/lang/IllegalArgumentException") hC (wm_top (by decide)) ((fun _ => rfl) _) rfl lk_RL_82 mi_X5_abortsWith ms_X5_abortsWith ini_RX5 mc_X5_abortsWith md_X5_abortsWith ⟨Nat.le_of_ble_eq_true rfl, Nat.le_of_ble_eq_true rfl⟩ ⟨Nat.le_of_ble_eq_true rfl, Nat.le_of_ble_eq_true rfl⟩ rfl (Nat.le_of_ble_eq_true rfl) (as := [.int (x), .int (y)]) (rest := []) rfl dL_abortsWith_3 htab [] ⟨0, 6, 7, 15⟩ [] rfl (fun z hz => absurd hz List.not_mem_nil) rfl (by decide) (List.mem_of_getElem? (i := 99) (by decide +kernel)) (List.mem_of_getElem? (i := 0) rfl) (fun q9 => ?_)
  refine j_astore_n X dL_abortsWith_7 rfl rfl (by decide) (Ls2 := [(3, .ref (q9)), (0, .ref (zA Z (6) (0) (0))), (1, .int (x)), (2, .int (y))]) rfl ?_
  refine j_ldc X (v := -1000000901) dL_abortsWith_8 rfl (List.mem_of_getElem? (i := 100) (by decide +kernel)) ?_
  exact K _ _ dL_abortsWith_10
set_option maxRecDepth 100000 in
set_option maxHeartbeats 4000000 in
theorem w_append (l : Launch) (Z : wZ) (S S1 : St) (h : Hl) (x : Int32) (v : Int32) (hC : Ci l yX5_append cX5_append 2 .int 0 0 Z [.ref (zA Z (6) (0) (0)), .int (x)] S h v S1 h) : Cq l yL_append (.codeWith yL_append cL_append 3 (some .int) [(0, 5, 6, 15), (0, 5, 10, 28)]) 0 0 1 21 Z [.ref (zA Z (6) (0) (0)), .int (x)] S h v S1 h := by
  refine Cq.ofW rfl rfl rfl (Nat.le_of_ble_eq_true rfl) (fun p e s mi args below meth c A0 Q X hSt hZ htab K => ?_)
  refine j_at rfl rfl (Ls3 := [(0, .ref (zA Z (6) (0) (0))), (1, .int (x))]) rfl rfl ?_
  refine j_aload_n X dL_append_0 rfl rfl (q := 0) rfl ?_
  refine j_iload_n X dL_append_1 rfl rfl (q := 1) rfl ?_
  refine j_calli X hC (wm_top (by decide)) ((fun _ => rfl) _) rfl lk_RL_25 mi_X5_append ms_X5_append ini_RX5 mc_X5_append md_X5_append ⟨Nat.le_of_ble_eq_true rfl, Nat.le_of_ble_eq_true rfl⟩ ⟨Nat.le_of_ble_eq_true rfl, Nat.le_of_ble_eq_true rfl⟩ rfl (Nat.le_of_ble_eq_true rfl) (as := [.int (x)]) (rest := []) rfl dL_append_2 rfl ?_
  exact K _ _ dL_append_5
set_option maxRecDepth 100000 in
set_option maxHeartbeats 4000000 in
theorem wt_append (l : Launch) (Z : wZ) (S : St) (h : Hl) (x : Int32) (hC : Ct l yX5_append cX5_append 2 .int 6 82 Z [.ref (zA Z (6) (0) (0)), .int (x)] S h "java/lang/IllegalArgumentException") : Cq l yL_append (.codeWith yL_append cL_append 3 (some .int) [(0, 5, 6, 15), (0, 5, 10, 28)]) 1 6 7 103 Z [.ref (zA Z (6) (0) (0)), .int (x)] S h (-1000000901) S h := by
  refine Cq.ofW rfl rfl rfl (Nat.le_of_ble_eq_true rfl) (fun p e s mi args below meth c A0 Q X hSt hZ htab K => ?_)
  refine j_at rfl rfl (Ls3 := [(0, .ref (zA Z (6) (0) (0))), (1, .int (x))]) rfl rfl ?_
  refine j_aload_n X dL_append_0 rfl rfl (q := 0) rfl ?_
  refine j_iload_n X dL_append_1 rfl rfl (q := 1) rfl ?_
  refine j_callT X hSt hZ (E := "java/lang/IllegalArgumentException") hC (wm_top (by decide)) ((fun _ => rfl) _) rfl lk_RL_25 mi_X5_append ms_X5_append ini_RX5 mc_X5_append md_X5_append ⟨Nat.le_of_ble_eq_true rfl, Nat.le_of_ble_eq_true rfl⟩ ⟨Nat.le_of_ble_eq_true rfl, Nat.le_of_ble_eq_true rfl⟩ rfl (Nat.le_of_ble_eq_true rfl) (as := [.int (x)]) (rest := []) rfl dL_append_2 htab [] ⟨0, 5, 6, 15⟩ [⟨0, 5, 10, 28⟩] rfl (fun z hz => absurd hz List.not_mem_nil) rfl (by decide) (List.mem_of_getElem? (i := 99) (by decide +kernel)) (List.mem_of_getElem? (i := 0) rfl) (fun q9 => ?_)
  refine j_astore_n X dL_append_6 rfl rfl (by decide) (Ls2 := [(2, .ref (q9)), (0, .ref (zA Z (6) (0) (0))), (1, .int (x))]) rfl ?_
  refine j_ldc X (v := -1000000901) dL_append_7 rfl (List.mem_of_getElem? (i := 100) (by decide +kernel)) ?_
  exact K _ _ dL_append_9
set_option maxRecDepth 100000 in
set_option maxHeartbeats 4000000 in
theorem wt_append_full (l : Launch) (Z : wZ) (S : St) (h : Hl) (x : Int32) (hC : Ct l yX5_append cX5_append 2 .int 6 82 Z [.ref (zA Z (6) (0) (0)), .int (x)] S h "java/lang/IllegalStateException") : Cq l yL_append (.codeWith yL_append cL_append 3 (some .int) [(0, 5, 6, 15), (0, 5, 10, 28)]) 1 6 7 103 Z [.ref (zA Z (6) (0) (0)), .int (x)] S h (-1000000902) S h := by
  refine Cq.ofW rfl rfl rfl (Nat.le_of_ble_eq_true rfl) (fun p e s mi args below meth c A0 Q X hSt hZ htab K => ?_)
  refine j_at rfl rfl (Ls3 := [(0, .ref (zA Z (6) (0) (0))), (1, .int (x))]) rfl rfl ?_
  refine j_aload_n X dL_append_0 rfl rfl (q := 0) rfl ?_
  refine j_iload_n X dL_append_1 rfl rfl (q := 1) rfl ?_
  refine j_callT X hSt hZ (E := "java/lang/IllegalStateException") hC (wm_top (by decide)) ((fun _ => rfl) _) rfl lk_RL_25 mi_X5_append ms_X5_append ini_RX5 mc_X5_append md_X5_append ⟨Nat.le_of_ble_eq_true rfl, Nat.le_of_ble_eq_true rfl⟩ ⟨Nat.le_of_ble_eq_true rfl, Nat.le_of_ble_eq_true rfl⟩ rfl (Nat.le_of_ble_eq_true rfl) (as := [.int (x)]) (rest := []) rfl dL_append_2 htab [⟨0, 5, 6, 15⟩] ⟨0, 5, 10, 28⟩ [] rfl (fun z hz => by rw [List.mem_singleton.mp hz]; exact ⟨by decide, "java/lang/IllegalArgumentException", (List.mem_of_getElem? (i := 99) (by decide +kernel)), hSt.2.2.1⟩) rfl (by decide) (List.mem_of_getElem? (i := 321) (by decide +kernel)) (List.mem_of_getElem? (i := 1) rfl) (fun q9 => ?_)
  refine j_astore_n X dL_append_10 rfl rfl (by decide) (Ls2 := [(2, .ref (q9)), (0, .ref (zA Z (6) (0) (0))), (1, .int (x))]) rfl ?_
  refine j_ldc X (v := -1000000902) dL_append_11 rfl (List.mem_of_getElem? (i := 4) (by decide +kernel)) ?_
  exact K _ _ dL_append_13
set_option maxRecDepth 100000 in
set_option maxHeartbeats 4000000 in
theorem w_undo (l : Launch) (Z : wZ) (S S1 : St) (h : Hl) (v : Int32) (hC : Ci l yX5_undo cX5_undo 1 .int 4 82 Z [.ref (zA Z (6) (0) (0))] S h v S1 h) : Cq l yL_undo (.codeWith yL_undo cL_undo 2 (some .int) [(0, 4, 5, 28)]) 0 0 5 102 Z [.ref (zA Z (6) (0) (0))] S h v S1 h := by
  refine Cq.ofW rfl rfl rfl (Nat.le_of_ble_eq_true rfl) (fun p e s mi args below meth c A0 Q X hSt hZ htab K => ?_)
  refine j_at rfl rfl (Ls3 := [(0, .ref (zA Z (6) (0) (0)))]) rfl rfl ?_
  refine j_aload_n X dL_undo_0 rfl rfl (q := 0) rfl ?_
  refine j_calli X hC (wm_top (by decide)) ((fun _ => rfl) _) rfl lk_RL_85 mi_X5_undo ms_X5_undo ini_RX5 mc_X5_undo md_X5_undo ⟨Nat.le_of_ble_eq_true rfl, Nat.le_of_ble_eq_true rfl⟩ ⟨Nat.le_of_ble_eq_true rfl, Nat.le_of_ble_eq_true rfl⟩ rfl (Nat.le_of_ble_eq_true rfl) (as := []) (rest := []) rfl dL_undo_1 rfl ?_
  exact K _ _ dL_undo_4
set_option maxRecDepth 100000 in
set_option maxHeartbeats 4000000 in
theorem wt_undo (l : Launch) (Z : wZ) (S : St) (h : Hl) (hC : Ct l yX5_undo cX5_undo 1 .int 6 82 Z [.ref (zA Z (6) (0) (0))] S h "java/lang/IllegalStateException") : Cq l yL_undo (.codeWith yL_undo cL_undo 2 (some .int) [(0, 4, 5, 28)]) 1 6 7 102 Z [.ref (zA Z (6) (0) (0))] S h (-1000000902) S h := by
  refine Cq.ofW rfl rfl rfl (Nat.le_of_ble_eq_true rfl) (fun p e s mi args below meth c A0 Q X hSt hZ htab K => ?_)
  refine j_at rfl rfl (Ls3 := [(0, .ref (zA Z (6) (0) (0)))]) rfl rfl ?_
  refine j_aload_n X dL_undo_0 rfl rfl (q := 0) rfl ?_
  refine j_callT X hSt hZ (E := "java/lang/IllegalStateException") hC (wm_top (by decide)) ((fun _ => rfl) _) rfl lk_RL_85 mi_X5_undo ms_X5_undo ini_RX5 mc_X5_undo md_X5_undo ⟨Nat.le_of_ble_eq_true rfl, Nat.le_of_ble_eq_true rfl⟩ ⟨Nat.le_of_ble_eq_true rfl, Nat.le_of_ble_eq_true rfl⟩ rfl (Nat.le_of_ble_eq_true rfl) (as := []) (rest := []) rfl dL_undo_1 htab [] ⟨0, 4, 5, 28⟩ [] rfl (fun z hz => absurd hz List.not_mem_nil) rfl (by decide) (List.mem_of_getElem? (i := 321) (by decide +kernel)) (List.mem_of_getElem? (i := 1) rfl) (fun q9 => ?_)
  refine j_astore_n X dL_undo_5 rfl rfl (by decide) (Ls2 := [(1, .ref (q9)), (0, .ref (zA Z (6) (0) (0)))]) rfl ?_
  refine j_ldc X (v := -1000000902) dL_undo_6 rfl (List.mem_of_getElem? (i := 4) (by decide +kernel)) ?_
  exact K _ _ dL_undo_8

/-- what a step of the reference wants of the state -/
def wfE (S : St) (a : Nat) : Prop := okI (S 7 0 1 0) 4 ∧ okI (S 7 0 1 21) 400 ∧ okI (rOf S a 1) 29 ∧ ((rOf S a (36 + 2 * rPs S a) = 114 ∨ rOf S a (36 + 2 * rPs S a) = 119) → okI (rOp S a) 7)
theorem wfE_eq {S S2 : St} {a : Nat} (h : wfE S a) (e0 : S2 7 0 1 0 = S 7 0 1 0) (e21 : S2 7 0 1 21 = S 7 0 1 21) (e : ∀ w, rOf S2 a w = rOf S a w) : wfE S2 a := by
  have e1 : rPs S2 a = rPs S a := by show (rOf S2 a 1).toNatClampNeg = _; rw [e]
  have e2 : rOp S2 a = rOp S a := by show rOf S2 a (36 + 2 * rPs S2 a + 1) = _; rw [e, e1]
  unfold wfE
  rw [e0, e21, e, e1, e, e2]
  exact h
theorem go_ne {S : St} {k : Nat} (hk : k ≠ 20) : rBump (setF S 7 0 0 13 0) 20 7 0 1 k = S 7 0 1 k := by rw [rBump_ne hk, setO_M (by omega)]
theorem wfE_go {S : St} {a : Nat} (h : wfE S a) : wfE (rBump (setF S 7 0 0 13 0) 20) a := wfE_eq h (go_ne (by omega)) (go_ne (by omega)) (fun w => go_ne (by omega))
theorem tick_ne {S : St} {k : Nat} (hk : k ≠ 3) : rTick S 7 0 1 k = S 7 0 1 k := setM_ne hk
theorem wfE_tick {S : St} {a : Nat} (h : wfE S a) : wfE (rTick S) a := wfE_eq h (tick_ne (by omega)) (tick_ne (by omega)) (fun w => tick_ne (by omega))
theorem rFin_tick (S : St) (a : Nat) : rFin (rTick S) a = rFin S a := by
  have e1 : rOf (rTick S) a 1 = rOf S a 1 := tick_ne (by omega)
  have e2 : rOf (rTick S) a 2 = rOf S a 2 := tick_ne (by omega)
  unfold rFin
  rw [e1, e2]
set_option maxRecDepth 100000 in
set_option maxHeartbeats 4000000 in
theorem c_X6_executes (l : Launch) (Z : wZ) (S : St) (h : Hl) (a : Nat) (ha : a < 4) (hw : wfE S a) : Ci l yX6_executes cX6_executes 4 .boolean 6 135 Z [.ref (zA Z (7) (0) (0)), .int (nI (a))] S h (bI (rExe S a).1) ((rExe S a).2) (h) := by
  obtain ⟨hcc, hq, hps, hop⟩ := hw
  have hp30 : rPs S a ≤ 29 := hps.2
  refine Ci.of rfl (bI_nar _) (Nat.le_of_ble_eq_true rfl) (fun p e s mi args below meth c A0 Q X K => ?_)
  refine j_at rfl rfl (Ls3 := [(0, .ref (zA Z (7) (0) (0))), (1, .int (nI (a)))]) rfl rfl ?_
  refine j_bipush X dX6_executes_0 rfl (v := 36) (by decide) ?_
  refine j_iconst X dX6_executes_2 rfl (v := 2) (by decide) ?_
  refine j_aload_n X dX6_executes_3 rfl rfl (q := 0) rfl ?_
  refine j_iload_n X dX6_executes_4 rfl rfl (q := 1) rfl ?_
  refine j_iconst X dX6_executes_5 rfl (v := 1) (by decide) ?_
  refine j_calli X (c_X6_of l Z S h a 1 (by omega)) (wm_ref (by decide)) ((fun _ => rfl) _) rfl lk_RX6_97 mi_X6_of ms_X6_of ini_RX6 mc_X6_of md_X6_of ⟨Nat.le_of_ble_eq_true rfl, Nat.le_of_ble_eq_true rfl⟩ ⟨Nat.le_of_ble_eq_true rfl, Nat.le_of_ble_eq_true rfl⟩ rfl (Nat.le_of_ble_eq_true rfl) (as := [.int (nI (a)), .int (1)]) (rest := [.int (2), .int (36)]) rfl dX6_executes_6 rfl ?_
  refine j_topeq (y := nI (rPs S a)) hps.1 ?_
  refine j_imul X dX6_executes_9 rfl ?_
  refine j_topeq (y := nI (2 * (rPs S a))) (pk_mul 2 (rPs S a)) ?_
  refine j_iadd X dX6_executes_10 rfl ?_
  refine j_topeq (y := nI (36 + (2 * (rPs S a)))) (nI_add 36 (2 * (rPs S a))) ?_
  refine j_istore_n X dX6_executes_11 rfl rfl (by decide) (Ls2 := [(2, .int (nI (36 + (2 * (rPs S a))))), (0, .ref (zA Z (7) (0) (0))), (1, .int (nI (a)))]) rfl ?_
  refine j_aload_n X dX6_executes_12 rfl rfl (q := 1) rfl ?_
  refine j_iload_n X dX6_executes_13 rfl rfl (q := 2) rfl ?_
  refine j_iload_n X dX6_executes_14 rfl rfl (q := 0) rfl ?_
  refine j_iconst X dX6_executes_15 rfl (v := 1) (by decide) ?_
  refine j_iadd X dX6_executes_16 rfl ?_
  refine j_topeq (y := nI ((36 + (2 * (rPs S a))) + 1)) (nI_add (36 + (2 * (rPs S a))) 1) ?_
  refine j_calli X (c_X6_of l Z S h a ((36 + (2 * (rPs S a))) + 1) (by omega)) (wm_ref (by decide)) ((fun _ => rfl) _) rfl lk_RX6_97 mi_X6_of ms_X6_of ini_RX6 mc_X6_of md_X6_of ⟨Nat.le_of_ble_eq_true rfl, Nat.le_of_ble_eq_true rfl⟩ ⟨Nat.le_of_ble_eq_true rfl, Nat.le_of_ble_eq_true rfl⟩ rfl (Nat.le_of_ble_eq_true rfl) (as := [.int (nI (a)), .int (nI ((36 + (2 * (rPs S a))) + 1))]) (rest := []) rfl dX6_executes_17 rfl ?_
  refine j_istore_n X dX6_executes_20 rfl rfl (by decide) (Ls2 := [(3, .int (rOf S a ((36 + (2 * (rPs S a))) + 1))), (2, .int (nI (36 + (2 * (rPs S a))))), (0, .ref (zA Z (7) (0) (0))), (1, .int (nI (a)))]) rfl ?_
  refine j_aload_n X dX6_executes_21 rfl rfl (q := 2) rfl ?_
  refine j_iload_n X dX6_executes_22 rfl rfl (q := 3) rfl ?_
  refine j_iload_n X dX6_executes_23 rfl rfl (q := 1) rfl ?_
  refine j_calli X (c_X6_of l Z S h a (36 + (2 * (rPs S a))) (by omega)) (wm_ref (by decide)) ((fun _ => rfl) _) rfl lk_RX6_97 mi_X6_of ms_X6_of ini_RX6 mc_X6_of md_X6_of ⟨Nat.le_of_ble_eq_true rfl, Nat.le_of_ble_eq_true rfl⟩ ⟨Nat.le_of_ble_eq_true rfl, Nat.le_of_ble_eq_true rfl⟩ rfl (Nat.le_of_ble_eq_true rfl) (as := [.int (nI (a)), .int (nI (36 + (2 * (rPs S a))))]) (rest := []) rfl dX6_executes_24 rfl ?_
  by_cases q_27_98 : (rOf S a (36 + (2 * (rPs S a)))) = 98
  · refine j_lookup X (tgt := 68) dX6_executes_27 (by decide) (off := 41) (by rw [q_27_98]; rfl) (by decide) ?_
    refine j_aload_n X dX6_executes_68 rfl rfl (q := 2) rfl ?_
    refine j_iload_n X dX6_executes_69 rfl rfl (q := 3) rfl ?_
    refine j_callv X (c_X6_begins l Z S h a (by omega)) (wm_ref (by decide)) ((fun _ => rfl) _) rfl lk_RX6_145 mi_X6_begins ms_X6_begins ini_RX6 mc_X6_begins md_X6_begins ⟨Nat.le_of_ble_eq_true rfl, Nat.le_of_ble_eq_true rfl⟩ ⟨Nat.le_of_ble_eq_true rfl, Nat.le_of_ble_eq_true rfl⟩ rfl (Nat.le_of_ble_eq_true rfl) (as := [.int (nI (a))]) (rest := []) rfl dX6_executes_70 rfl ?_
    refine j_name (fun S1 eS1 => ?_)
    refine j_iconst X dX6_executes_73 rfl (v := 1) (by decide) ?_
    exact j_ret (by subst eS1; first | with_reducible rfl | (simp [rExe, rExec, bI, q_27_98]; done) | (simp_all [rExe, rExec, bI]; done) | rfl) (by subst eS1; first | with_reducible rfl | (simp [rExe, rExec, bI, q_27_98]; done) | (simp_all [rExe, rExec, bI]; done) | rfl) rfl (K _ _ dX6_executes_74)
  by_cases q_27_99 : (rOf S a (36 + (2 * (rPs S a)))) = 99
  · refine j_lookup X (tgt := 75) dX6_executes_27 (by decide) (off := 48) (by rw [q_27_99]; rfl) (by decide) ?_
    refine j_aload_n X dX6_executes_75 rfl rfl (q := 2) rfl ?_
    refine j_iload_n X dX6_executes_76 rfl rfl (q := 3) rfl ?_
    refine j_callv X (c_X6_ends l Z S h a (by omega) hq) (wm_ref (by decide)) ((fun _ => rfl) _) rfl lk_RX6_149 mi_X6_ends ms_X6_ends ini_RX6 mc_X6_ends md_X6_ends ⟨Nat.le_of_ble_eq_true rfl, Nat.le_of_ble_eq_true rfl⟩ ⟨Nat.le_of_ble_eq_true rfl, Nat.le_of_ble_eq_true rfl⟩ rfl (Nat.le_of_ble_eq_true rfl) (as := [.int (nI (a))]) (rest := []) rfl dX6_executes_77 rfl ?_
    refine j_name (fun S2 eS2 => ?_)
    refine j_iconst X dX6_executes_80 rfl (v := 1) (by decide) ?_
    exact j_ret (by subst eS2; first | with_reducible rfl | (simp [rExe, rExec, bI, q_27_98, q_27_99]; done) | (simp_all [rExe, rExec, bI]; done) | rfl) (by subst eS2; first | with_reducible rfl | (simp [rExe, rExec, bI, q_27_98, q_27_99]; done) | (simp_all [rExe, rExec, bI]; done) | rfl) rfl (K _ _ dX6_executes_81)
  by_cases q_27_114 : (rOf S a (36 + (2 * (rPs S a)))) = 114
  · refine j_lookup X (tgt := 82) dX6_executes_27 (by decide) (off := 55) (by rw [q_27_114]; rfl) (by decide) ?_
    refine j_aload_n X dX6_executes_82 rfl rfl (q := 2) rfl ?_
    refine j_iload_n X dX6_executes_83 rfl rfl (q := 3) rfl ?_
    refine j_iload_n X dX6_executes_84 rfl rfl (q := 0) rfl ?_
    have hj8 := (hop (Or.inl q_27_114)).2
    refine j_topeq (y := nI (rOp S a).toNatClampNeg) (hop (Or.inl q_27_114)).1 ?_
    refine j_calli X (c_X6_loads l Z S h a (by omega) ((rOp S a).toNatClampNeg) (by omega) hcc) (wm_ref (by decide)) ((fun _ => rfl) _) rfl lk_RX6_152 mi_X6_loads ms_X6_loads ini_RX6 mc_X6_loads md_X6_loads ⟨Nat.le_of_ble_eq_true rfl, Nat.le_of_ble_eq_true rfl⟩ ⟨Nat.le_of_ble_eq_true rfl, Nat.le_of_ble_eq_true rfl⟩ rfl (Nat.le_of_ble_eq_true rfl) (as := [.int (nI (a)), .int (nI ((rOp S a).toNatClampNeg))]) (rest := []) rfl dX6_executes_85 rfl ?_
    refine j_name (fun S3 eS3 => ?_)
    exact j_ret (by subst eS3; first | with_reducible rfl | (simp [rExe, rExec, bI, q_27_98, q_27_99, q_27_114]; done) | (simp_all [rExe, rExec, bI]; done) | rfl) (by subst eS3; first | with_reducible rfl | (simp [rExe, rExec, bI, q_27_98, q_27_99, q_27_114]; done) | (simp_all [rExe, rExec, bI]; done) | rfl) rfl (K _ _ dX6_executes_88)
  by_cases q_27_119 : (rOf S a (36 + (2 * (rPs S a)))) = 119
  · refine j_lookup X (tgt := 89) dX6_executes_27 (by decide) (off := 62) (by rw [q_27_119]; rfl) (by decide) ?_
    refine j_aload_n X dX6_executes_89 rfl rfl (q := 2) rfl ?_
    refine j_iload_n X dX6_executes_90 rfl rfl (q := 3) rfl ?_
    refine j_iload_n X dX6_executes_91 rfl rfl (q := 0) rfl ?_
    have hj8 := (hop (Or.inr q_27_119)).2
    refine j_topeq (y := nI (rOp S a).toNatClampNeg) (hop (Or.inr q_27_119)).1 ?_
    refine j_calli X (c_X6_stores l Z S h a (by omega) ((rOp S a).toNatClampNeg) (by omega) hcc hq) (wm_ref (by decide)) ((fun _ => rfl) _) rfl lk_RX6_155 mi_X6_stores ms_X6_stores ini_RX6 mc_X6_stores md_X6_stores ⟨Nat.le_of_ble_eq_true rfl, Nat.le_of_ble_eq_true rfl⟩ ⟨Nat.le_of_ble_eq_true rfl, Nat.le_of_ble_eq_true rfl⟩ rfl (Nat.le_of_ble_eq_true rfl) (as := [.int (nI (a)), .int (nI ((rOp S a).toNatClampNeg))]) (rest := []) rfl dX6_executes_92 rfl ?_
    refine j_name (fun S4 eS4 => ?_)
    exact j_ret (by subst eS4; first | with_reducible rfl | (simp [rExe, rExec, bI, q_27_98, q_27_99, q_27_114, q_27_119]; done) | (simp_all [rExe, rExec, bI]; done) | rfl) (by subst eS4; first | with_reducible rfl | (simp [rExe, rExec, bI, q_27_98, q_27_99, q_27_114, q_27_119]; done) | (simp_all [rExe, rExec, bI]; done) | rfl) rfl (K _ _ dX6_executes_95)
  refine j_lookup X (tgt := 96) dX6_executes_27 (by decide) (off := 69) (by show Op.lookupswitch.offset [(98, 41), (99, 48), (114, 55), (119, 62)] 69 _ = 69; rw [lv_osw (a := 98) q_27_98 rfl, lv_osw (a := 99) q_27_99 rfl, lv_osw (a := 114) q_27_114 rfl, lv_osw (a := 119) q_27_119 rfl]; rfl) (by decide) ?_
  refine j_aload_n X dX6_executes_96 rfl rfl (q := 2) rfl ?_
  refine j_iload_n X dX6_executes_97 rfl rfl (q := 3) rfl ?_
  refine j_iconst X dX6_executes_98 rfl (v := 0) (by decide) ?_
  refine j_aload_n X dX6_executes_99 rfl rfl (q := 2) rfl ?_
  refine j_iload_n X dX6_executes_100 rfl rfl (q := 3) rfl ?_
  refine j_iconst X dX6_executes_101 rfl (v := 0) (by decide) ?_
  refine j_calli X (c_X6_of l Z S h a 0 (by omega)) (wm_ref (by decide)) ((fun _ => rfl) _) rfl lk_RX6_97 mi_X6_of ms_X6_of ini_RX6 mc_X6_of md_X6_of ⟨Nat.le_of_ble_eq_true rfl, Nat.le_of_ble_eq_true rfl⟩ ⟨Nat.le_of_ble_eq_true rfl, Nat.le_of_ble_eq_true rfl⟩ rfl (Nat.le_of_ble_eq_true rfl) (as := [.int (nI (a)), .int (0)]) (rest := [.int (0), .int (nI (a)), .ref (zA Z (7) (0) (0))]) rfl dX6_executes_102 rfl ?_
  refine j_iload_n X dX6_executes_105 rfl rfl (q := 0) rfl ?_
  refine j_iadd X dX6_executes_106 rfl ?_
  refine j_callv X (c_X6_put l Z S h a 0 ((rOf S a 0) + (rOf S a ((36 + (2 * (rPs S a))) + 1))) (by omega)) (wm_ref (by decide)) ((fun _ => rfl) _) rfl lk_RX6_60 mi_X6_put ms_X6_put ini_RX6 mc_X6_put md_X6_put ⟨Nat.le_of_ble_eq_true rfl, Nat.le_of_ble_eq_true rfl⟩ ⟨Nat.le_of_ble_eq_true rfl, Nat.le_of_ble_eq_true rfl⟩ rfl (Nat.le_of_ble_eq_true rfl) (as := [.int (nI (a)), .int (0), .int ((rOf S a 0) + (rOf S a ((36 + (2 * (rPs S a))) + 1)))]) (rest := []) rfl dX6_executes_107 rfl ?_
  refine j_name (fun S5 eS5 => ?_)
  refine j_iconst X dX6_executes_110 rfl (v := 1) (by decide) ?_
  exact j_ret (by subst eS5; first | with_reducible rfl | (simp [rExe, rExec, bI, q_27_98, q_27_99, q_27_114, q_27_119]; done) | (simp_all [rExe, rExec, bI]; done) | rfl) (by subst eS5; first | with_reducible rfl | (simp [rExe, rExec, bI, q_27_98, q_27_99, q_27_114, q_27_119]; done) | (simp_all [rExe, rExec, bI]; done) | rfl) rfl (K _ _ dX6_executes_111)
set_option maxRecDepth 100000 in
set_option maxHeartbeats 4000000 in
theorem c_X6_go (l : Launch) (Z : wZ) (S : St) (h : Hl) (a : Nat) (ha : a < 4) (hw : wfE S a) : Ci l yX6_go cX6_go 3 .int 7 158 Z [.ref (zA Z (7) (0) (0)), .int (nI (a))] S h ((rGo S a).1) ((rGo S a).2) (h) := by
  refine Ci.of rfl rfl (Nat.le_of_ble_eq_true rfl) (fun p e s mi args below meth c A0 Q X K => ?_)
  refine j_at rfl rfl (Ls3 := [(0, .ref (zA Z (7) (0) (0))), (1, .int (nI (a)))]) rfl rfl ?_
  refine j_aload_n X dX6_go_0 rfl rfl (q := 0) rfl ?_
  refine j_iconst X dX6_go_1 rfl (v := 0) (by decide) ?_
  refine jp_model X 13 (by decide) lk_RX6_114 rfl rfl rfl (vp_nar_int _) rfl rfl dX6_go_2 rfl ?_
  refine j_name (fun S1 eS1 => ?_)
  refine j_aload_n X dX6_go_5 rfl rfl (q := 0) rfl ?_
  refine jg_model X 0 (by decide) lk_RX6_7 rfl rfl dX6_go_6 rfl ?_
  refine j_bipush X dX6_go_9 rfl (v := 20) (by decide) ?_
  refine j_dup2 X dX6_go_11 rfl rfl rfl ?_
  refine j_ialdN X (k := 20) (wm_ref (by decide)) ((fun _ => rfl) _) (by decide) (by decide) dX6_go_12 rfl ?_
  refine j_iconst X dX6_go_13 rfl (v := 1) (by decide) ?_
  refine j_iadd X dX6_go_14 rfl ?_
  refine j_iastN X (k := 20) (wm_ref (by decide)) (fun r => (fun _ => rfl) r) (by decide) (by decide) dX6_go_15 rfl ?_
  refine j_name (fun S2 eS2 => ?_)
  refine j_aload_n X dX6_go_16 rfl rfl (q := 0) rfl ?_
  refine j_iload_n X dX6_go_17 rfl rfl (q := 1) rfl ?_
  refine j_calli X (c_X6_executes l Z S2 h a (by omega) (by subst eS1; subst eS2; exact wfE_go hw)) (wm_ref (by decide)) ((fun _ => rfl) _) rfl lk_RX6_158 mi_X6_executes ms_X6_executes ini_RX6 mc_X6_executes md_X6_executes ⟨Nat.le_of_ble_eq_true rfl, Nat.le_of_ble_eq_true rfl⟩ ⟨Nat.le_of_ble_eq_true rfl, Nat.le_of_ble_eq_true rfl⟩ rfl (Nat.le_of_ble_eq_true rfl) (as := [.int (nI (a))]) (rest := []) rfl dX6_go_18 rfl ?_
  refine j_name (fun S3 eS3 => ?_)
  refine j_istore_n X dX6_go_21 rfl rfl (by decide) (Ls2 := [(2, .int (bI ((rExe S2 a).1))), (0, .ref (zA Z (7) (0) (0))), (1, .int (nI (a)))]) rfl ?_
  refine j_iload_n X dX6_go_22 rfl rfl (q := 0) rfl ?_
  refine j_ifb_eq X dX6_go_23 rfl (tgt := 40) (by decide) (fun c_23 => ?_) (fun c_23 => ?_)
  · refine j_aload_n X dX6_go_40 rfl rfl (q := 1) rfl ?_
    refine jg_model X 13 (by decide) lk_RX6_114 rfl rfl dX6_go_41 rfl ?_
    refine j_iload_n X dX6_go_44 rfl rfl (q := 0) rfl ?_
    refine j_if_eq_t X (tgt := 52) dX6_go_45 (by decide) (by rw [c_23]; decide) ?_
    refine j_bipush X dX6_go_52 rfl (v := 8) (by decide) ?_
    refine j_iadd X dX6_go_54 rfl ?_
    exact j_ret (by subst eS1; subst eS2; subst eS3; first | with_reducible rfl | (simp [rGo, rGoB, rBump, c_23]; done) | (simp_all [rGo, rGoB, rBump]; done) | rfl) (by subst eS1; subst eS2; subst eS3; first | with_reducible rfl | (simp [rGo, rGoB, rBump, c_23]; done) | (simp_all [rGo, rGoB, rBump]; done) | rfl) rfl (K _ _ dX6_go_55)
  · refine j_aload_n X dX6_go_26 rfl rfl (q := 1) rfl ?_
    refine j_iload_n X dX6_go_27 rfl rfl (q := 2) rfl ?_
    refine j_iconst X dX6_go_28 rfl (v := 1) (by decide) ?_
    refine j_aload_n X dX6_go_29 rfl rfl (q := 1) rfl ?_
    refine j_iload_n X dX6_go_30 rfl rfl (q := 2) rfl ?_
    refine j_iconst X dX6_go_31 rfl (v := 1) (by decide) ?_
    refine j_calli X (c_X6_of l Z S3 h a 1 (by omega)) (wm_ref (by decide)) ((fun _ => rfl) _) rfl lk_RX6_97 mi_X6_of ms_X6_of ini_RX6 mc_X6_of md_X6_of ⟨Nat.le_of_ble_eq_true rfl, Nat.le_of_ble_eq_true rfl⟩ ⟨Nat.le_of_ble_eq_true rfl, Nat.le_of_ble_eq_true rfl⟩ rfl (Nat.le_of_ble_eq_true rfl) (as := [.int (nI (a)), .int (1)]) (rest := [.int (1), .int (nI (a)), .ref (zA Z (7) (0) (0))]) rfl dX6_go_32 rfl ?_
    refine j_iconst X dX6_go_35 rfl (v := 1) (by decide) ?_
    refine j_iadd X dX6_go_36 rfl ?_
    refine j_callv X (c_X6_put l Z S3 h a 1 ((rOf S3 a 1) + (1)) (by omega)) (wm_ref (by decide)) ((fun _ => rfl) _) rfl lk_RX6_60 mi_X6_put ms_X6_put ini_RX6 mc_X6_put md_X6_put ⟨Nat.le_of_ble_eq_true rfl, Nat.le_of_ble_eq_true rfl⟩ ⟨Nat.le_of_ble_eq_true rfl, Nat.le_of_ble_eq_true rfl⟩ rfl (Nat.le_of_ble_eq_true rfl) (as := [.int (nI (a)), .int (1), .int ((rOf S3 a 1) + (1))]) (rest := []) rfl dX6_go_37 rfl ?_
    refine j_name (fun S4 eS4 => ?_)
    refine j_aload_n X dX6_go_40 rfl rfl (q := 1) rfl ?_
    refine jg_model X 13 (by decide) lk_RX6_114 rfl rfl dX6_go_41 rfl ?_
    refine j_iload_n X dX6_go_44 rfl rfl (q := 0) rfl ?_
    refine j_if_eq_f X dX6_go_45 rfl (tgt := 52) (by decide) (by rw [c_23]; decide) ?_
    refine j_iconst X dX6_go_48 rfl (v := 0) (by decide) ?_
    refine j_goto X (tgt := 54) dX6_go_49 (by decide) ?_
    refine j_iadd X dX6_go_54 rfl ?_
    exact j_ret (by subst eS1; subst eS2; subst eS3; subst eS4; first | with_reducible rfl | (simp [rGo, rGoB, rBump, c_23]; done) | (simp_all [rGo, rGoB, rBump]; done) | rfl) (by subst eS1; subst eS2; subst eS3; subst eS4; first | with_reducible rfl | (simp [rGo, rGoB, rBump, c_23]; done) | (simp_all [rGo, rGoB, rBump]; done) | rfl) rfl (K _ _ dX6_go_55)
set_option maxRecDepth 100000 in
set_option maxHeartbeats 4000000 in
theorem L_rfin (l : Launch) (Z : wZ) (h : Hl) (S : St) (cc : Nat) (hc4 : cc ≤ 4) (hI : S 7 0 1 0 = nI cc) {p : Program} {e : Env} {s : State} {mi : MethodId} {args : Array Value} {below : List Frame} {meth : Method} {c : Code} {A0 : Nat → Prop} {Q : State → Prop} (X : JX p s mi args meth c cX6_finishedCount 3 yX6_finishedCount.cls Z A0) : ∀ (n k : Nat) (n1 : Int32), k + n = cc → J p l e { frames := 3, cells := 0, slots := 0, locals := 64 } s mi args below meth c 3 Z A0 0 0 Q (S) h [(1, .int ((lp (rFinCF S) n k n1)))] 36 [] → J p l e { frames := 3, cells := 0, slots := 0, locals := 64 } s mi args below meth c 3 Z A0 0 0 Q S h [(2, .int (nI (k))), (0, .ref (zA Z (7) (0) (0))), (1, .int (n1))] 4 [] := by
  intro n
  induction n with
  | zero =>
    intro k n1 hkn hk
    have hkN : cc = k := by omega
    subst hkN
    refine j_iload_n X dX6_finishedCount_4 rfl rfl (q := 0) rfl ?_
    refine j_aload_n X dX6_finishedCount_5 rfl rfl (q := 1) rfl ?_
    refine jg_model X 0 (by decide) lk_RX6_7 rfl rfl dX6_finishedCount_6 rfl ?_
    refine j_iconst X dX6_finishedCount_9 rfl (v := 0) (by decide) ?_
    refine j_ialdN X (k := 0) (wm_ref (by decide)) ((fun _ => rfl) _) (by decide) (by decide) dX6_finishedCount_10 rfl ?_
    refine j_topeq (y := (nI (cc))) (hI) ?_
    refine j_icmp_ge_t X (tgt := 36) dX6_finishedCount_11 (by decide) (nI_le (Nat.le_refl _) (by omega)) ?_
    refine j_sub [2] (Ls2 := [(1, .int (n1))]) rfl ?_
    exact hk
  | succ n ih =>
    intro k n1 hkn hk
    have hlt : k < cc := by omega
    refine j_iload_n X dX6_finishedCount_4 rfl rfl (q := 0) rfl ?_
    refine j_aload_n X dX6_finishedCount_5 rfl rfl (q := 1) rfl ?_
    refine jg_model X 0 (by decide) lk_RX6_7 rfl rfl dX6_finishedCount_6 rfl ?_
    refine j_iconst X dX6_finishedCount_9 rfl (v := 0) (by decide) ?_
    refine j_ialdN X (k := 0) (wm_ref (by decide)) ((fun _ => rfl) _) (by decide) (by decide) dX6_finishedCount_10 rfl ?_
    refine j_topeq (y := (nI (cc))) (hI) ?_
    refine j_icmp_ge_f X dX6_finishedCount_11 rfl (tgt := 36) (by decide) (nI_ge hlt (by omega)) ?_
    refine j_iload_n X dX6_finishedCount_14 rfl rfl (q := 2) rfl ?_
    refine j_aload_n X dX6_finishedCount_15 rfl rfl (q := 1) rfl ?_
    refine j_iload_n X dX6_finishedCount_16 rfl rfl (q := 0) rfl ?_
    refine j_calli X (c_X6_isFinished l Z S h k (by omega)) (wm_ref (by decide)) ((fun _ => rfl) _) rfl lk_RX6_103 mi_X6_isFinished ms_X6_isFinished ini_RX6 mc_X6_isFinished md_X6_isFinished ⟨Nat.le_of_ble_eq_true rfl, Nat.le_of_ble_eq_true rfl⟩ ⟨Nat.le_of_ble_eq_true rfl, Nat.le_of_ble_eq_true rfl⟩ rfl (Nat.le_of_ble_eq_true rfl) (as := [.int (nI (k))]) (rest := [.int (n1)]) rfl dX6_finishedCount_17 rfl ?_
    refine j_ifb_eq X dX6_finishedCount_20 rfl (tgt := 27) (by decide) (fun c_20 => ?_) (fun c_20 => ?_)
    · refine j_iconst X dX6_finishedCount_27 rfl (v := 0) (by decide) ?_
      refine j_iadd X dX6_finishedCount_28 rfl ?_
      refine j_istore_n X dX6_finishedCount_29 rfl rfl (by decide) (Ls2 := [(1, .int ((n1) + (0))), (2, .int (nI (k))), (0, .ref (zA Z (7) (0) (0)))]) rfl ?_
      refine j_iinc X dX6_finishedCount_30 rfl (q := 1) rfl (v := (nI (k + 1))) (nI_1 _) (by decide) (Ls2 := [(2, .int (nI (k + 1))), (1, .int ((n1) + (0))), (0, .ref (zA Z (7) (0) (0)))]) rfl ?_
      refine j_goto X (tgt := 4) dX6_finishedCount_33 (by decide) ?_
      refine j_sub [0, 2, 1] (Ls2 := [(2, .int (nI (k + 1))), (0, .ref (zA Z (7) (0) (0))), (1, .int ((n1) + (0)))]) rfl ?_
      have eB : (rFinCF S) k n1 = ((n1) + (0)) := by first | with_reducible rfl | (simp [rFinCF, c_20]; done) | (simp_all [rFinCF]; done) | rfl
      have eL : lp (rFinCF S) (n + 1) k n1 = lp (rFinCF S) n (k + 1) ((n1) + (0)) := congrArg (lp (rFinCF S) n (k + 1)) eB
      rw [eL] at hk
      exact ih (k + 1) (((n1) + (0))) (by omega) hk
    · refine j_iconst X dX6_finishedCount_23 rfl (v := 1) (by decide) ?_
      refine j_goto X (tgt := 28) dX6_finishedCount_24 (by decide) ?_
      refine j_iadd X dX6_finishedCount_28 rfl ?_
      refine j_istore_n X dX6_finishedCount_29 rfl rfl (by decide) (Ls2 := [(1, .int ((n1) + (1))), (2, .int (nI (k))), (0, .ref (zA Z (7) (0) (0)))]) rfl ?_
      refine j_iinc X dX6_finishedCount_30 rfl (q := 1) rfl (v := (nI (k + 1))) (nI_1 _) (by decide) (Ls2 := [(2, .int (nI (k + 1))), (1, .int ((n1) + (1))), (0, .ref (zA Z (7) (0) (0)))]) rfl ?_
      refine j_goto X (tgt := 4) dX6_finishedCount_33 (by decide) ?_
      refine j_sub [0, 2, 1] (Ls2 := [(2, .int (nI (k + 1))), (0, .ref (zA Z (7) (0) (0))), (1, .int ((n1) + (1)))]) rfl ?_
      have eB : (rFinCF S) k n1 = ((n1) + (1)) := by first | with_reducible rfl | (simp [rFinCF, c_20]; done) | (simp_all [rFinCF]; done) | rfl
      have eL : lp (rFinCF S) (n + 1) k n1 = lp (rFinCF S) n (k + 1) ((n1) + (1)) := congrArg (lp (rFinCF S) n (k + 1)) eB
      rw [eL] at hk
      exact ih (k + 1) (((n1) + (1))) (by omega) hk
set_option maxRecDepth 100000 in
set_option maxHeartbeats 4000000 in
theorem c_X6_finishedCount (l : Launch) (Z : wZ) (S : St) (h : Hl) (hcc : okI (S 7 0 1 0) 4) : Ci l yX6_finishedCount cX6_finishedCount 3 .int 3 64 Z [.ref (zA Z (7) (0) (0))] S h (rFinC S) (S) (h) := by
  have hc4 : rCC S ≤ 4 := hcc.2
  refine Ci.of rfl rfl (Nat.le_of_ble_eq_true rfl) (fun p e s mi args below meth c A0 Q X K => ?_)
  refine j_at rfl rfl (Ls3 := [(0, .ref (zA Z (7) (0) (0)))]) rfl rfl ?_
  refine j_iconst X dX6_finishedCount_0 rfl (v := 0) (by decide) ?_
  refine j_istore_n X dX6_finishedCount_1 rfl rfl (by decide) (Ls2 := [(1, .int (0)), (0, .ref (zA Z (7) (0) (0)))]) rfl ?_
  refine j_iconst X dX6_finishedCount_2 rfl (v := 0) (by decide) ?_
  refine j_istore_n X dX6_finishedCount_3 rfl rfl (by decide) (Ls2 := [(2, .int (0)), (1, .int (0)), (0, .ref (zA Z (7) (0) (0)))]) rfl ?_
  refine j_sub [0, 2, 1] (Ls2 := [(2, .int (0)), (0, .ref (zA Z (7) (0) (0))), (1, .int (0))]) rfl ?_
  refine L_rfin l Z h S (rCC S) hcc.2 hcc.1 X (rCC S) 0 ((0)) (by omega) ?_
  refine j_iload_n X dX6_finishedCount_36 rfl rfl (q := 0) rfl ?_
  exact j_ret (by first | with_reducible rfl | (simp [rFinC]; done) | (simp_all [rFinC]; done) | rfl) (by first | with_reducible rfl | (simp [rFinC]; done) | (simp_all [rFinC]; done) | rfl) rfl (K _ _ dX6_finishedCount_37)
set_option maxRecDepth 100000 in
set_option maxHeartbeats 4000000 in
theorem L_sel (l : Launch) (Z : wZ) (h : Hl) (S : St) (cc : Nat) (hc4 : cc ≤ 4) {p : Program} {e : Env} {s : State} {mi : MethodId} {args : Array Value} {below : List Frame} {meth : Method} {c : Code} {A0 : Nat → Prop} {Q : State → Prop} (X : JX p s mi args meth c cX6_schedules 5 yX6_schedules.cls Z A0) : ∀ (n k : Nat) (t r : Int32), k + n = cc → (lpE (rSelF S) n k (t, r)).1 = false → (∀ kb : Nat, kb < cc → (lpE (rSelF S) n k (t, r)).2.2 = nI kb → rFin S kb = false → J p l e { frames := 8, cells := 0, slots := 0, locals := 180 } s mi args below meth c 5 Z A0 0 0 Q S h [(3, .int (nI kb)), (0, .ref (zA Z 7 0 0))] 92 []) → J p l e { frames := 8, cells := 0, slots := 0, locals := 180 } s mi args below meth c 5 Z A0 0 0 Q S h [(3, .int (nI (k))), (2, .int (t)), (0, .ref (zA Z (7) (0) (0)))] 58 [] := by
  intro n
  induction n with
  | zero =>
    intro k t r hkn hX hB
    exact absurd hX (by simp [lpE])
  | succ n ih =>
    intro k t r hkn hX hB
    have hlt : k < cc := by omega
    refine j_aload_n X dX6_schedules_58 rfl rfl (q := 2) rfl ?_
    refine j_iload_n X dX6_schedules_59 rfl rfl (q := 0) rfl ?_
    refine j_calli X (c_X6_isFinished l Z S h k (by omega)) (wm_ref (by decide)) ((fun _ => rfl) _) rfl lk_RX6_103 mi_X6_isFinished ms_X6_isFinished ini_RX6 mc_X6_isFinished md_X6_isFinished ⟨Nat.le_of_ble_eq_true rfl, Nat.le_of_ble_eq_true rfl⟩ ⟨Nat.le_of_ble_eq_true rfl, Nat.le_of_ble_eq_true rfl⟩ rfl (Nat.le_of_ble_eq_true rfl) (as := [.int (nI (k))]) (rest := []) rfl dX6_schedules_60 rfl ?_
    refine j_ifb_ne X dX6_schedules_63 rfl (tgt := 70) (by decide) (fun c_63 => ?_) (fun c_63 => ?_)
    · refine j_iload_n X dX6_schedules_70 rfl rfl (q := 1) rfl ?_
      refine j_aload_n X dX6_schedules_71 rfl rfl (q := 2) rfl ?_
      refine j_iload_n X dX6_schedules_72 rfl rfl (q := 0) rfl ?_
      refine j_calli X (c_X6_isFinished l Z S h k (by omega)) (wm_ref (by decide)) ((fun _ => rfl) _) rfl lk_RX6_103 mi_X6_isFinished ms_X6_isFinished ini_RX6 mc_X6_isFinished md_X6_isFinished ⟨Nat.le_of_ble_eq_true rfl, Nat.le_of_ble_eq_true rfl⟩ ⟨Nat.le_of_ble_eq_true rfl, Nat.le_of_ble_eq_true rfl⟩ rfl (Nat.le_of_ble_eq_true rfl) (as := [.int (nI (k))]) (rest := [.int (t)]) rfl dX6_schedules_73 rfl ?_
      refine j_if_eq_f X dX6_schedules_76 rfl (tgt := 83) (by decide) (by rw [c_63]; decide) ?_
      refine j_iconst X dX6_schedules_79 rfl (v := 0) (by decide) ?_
      refine j_goto X (tgt := 84) dX6_schedules_80 (by decide) ?_
      refine j_isub X dX6_schedules_84 rfl ?_
      refine j_istore_n X dX6_schedules_85 rfl rfl (by decide) (Ls2 := [(2, .int ((t) - (0))), (3, .int (nI (k))), (0, .ref (zA Z (7) (0) (0)))]) rfl ?_
      refine j_iinc X dX6_schedules_86 rfl (q := 1) rfl (v := (nI (k + 1))) (nI_1 _) (by decide) (Ls2 := [(3, .int (nI (k + 1))), (2, .int ((t) - (0))), (0, .ref (zA Z (7) (0) (0)))]) rfl ?_
      refine j_goto X (tgt := 58) dX6_schedules_89 (by decide) ?_
      have eB : rSelF S k (t, r) = (true, ((t) - (0)), r) := by simp [rSelF, c_63]
      have eL : lpE (rSelF S) (n + 1) k (t, r) = lpE (rSelF S) n (k + 1) (((t) - (0)), r) := by rw [lpE, eB]; rfl
      rw [eL] at hX hB
      exact ih (k + 1) ((t) - (0)) r (by omega) hX hB
    · refine j_iload_n X dX6_schedules_66 rfl rfl (q := 1) rfl ?_
      refine j_if_le X dX6_schedules_67 rfl (tgt := 92) (by decide) (fun c_67 => ?_) (fun c_67 => ?_)
      · have eB : rSelF S k (t, r) = (false, t, nI k) := by simp [rSelF, c_63, c_67]
        have eL : lpE (rSelF S) (n + 1) k (t, r) = (false, t, nI k) := by rw [lpE, eB]; rfl
        refine j_sub [0, 2] (Ls2 := [(3, .int (nI (k))), (0, .ref (zA Z (7) (0) (0)))]) rfl ?_
        exact hB k hlt (by rw [eL]) c_63
      · refine j_iload_n X dX6_schedules_70 rfl rfl (q := 1) rfl ?_
        refine j_aload_n X dX6_schedules_71 rfl rfl (q := 2) rfl ?_
        refine j_iload_n X dX6_schedules_72 rfl rfl (q := 0) rfl ?_
        refine j_calli X (c_X6_isFinished l Z S h k (by omega)) (wm_ref (by decide)) ((fun _ => rfl) _) rfl lk_RX6_103 mi_X6_isFinished ms_X6_isFinished ini_RX6 mc_X6_isFinished md_X6_isFinished ⟨Nat.le_of_ble_eq_true rfl, Nat.le_of_ble_eq_true rfl⟩ ⟨Nat.le_of_ble_eq_true rfl, Nat.le_of_ble_eq_true rfl⟩ rfl (Nat.le_of_ble_eq_true rfl) (as := [.int (nI (k))]) (rest := [.int (t)]) rfl dX6_schedules_73 rfl ?_
        refine j_if_eq_t X (tgt := 83) dX6_schedules_76 (by decide) (by rw [c_63]; decide) ?_
        refine j_iconst X dX6_schedules_83 rfl (v := 1) (by decide) ?_
        refine j_isub X dX6_schedules_84 rfl ?_
        refine j_istore_n X dX6_schedules_85 rfl rfl (by decide) (Ls2 := [(2, .int ((t) - (1))), (3, .int (nI (k))), (0, .ref (zA Z (7) (0) (0)))]) rfl ?_
        refine j_iinc X dX6_schedules_86 rfl (q := 1) rfl (v := (nI (k + 1))) (nI_1 _) (by decide) (Ls2 := [(3, .int (nI (k + 1))), (2, .int ((t) - (1))), (0, .ref (zA Z (7) (0) (0)))]) rfl ?_
        refine j_goto X (tgt := 58) dX6_schedules_89 (by decide) ?_
        have eB : rSelF S k (t, r) = (true, ((t) - (1)), r) := by simp [rSelF, c_63, c_67]
        have eL : lpE (rSelF S) (n + 1) k (t, r) = lpE (rSelF S) n (k + 1) (((t) - (1)), r) := by rw [lpE, eB]; rfl
        rw [eL] at hX hB
        exact ih (k + 1) ((t) - (1)) r (by omega) hX hB
set_option maxRecDepth 100000 in
set_option maxHeartbeats 4000000 in
theorem c_X6_schedules (l : Launch) (Z : wZ) (S : St) (h : Hl) (hcc : okI (S 7 0 1 0) 4) (hsel : ¬ rRun S = 0 → (rSelL S).1 = false) (hwf : ∀ k, k < rCC S → rFin S k = false → wfE S k) : Ci l yX6_schedules cX6_schedules 5 .boolean 8 180 Z [.ref (zA Z (7) (0) (0))] S h (bI (rSch S).1) ((rSch S).2) (h) := by
  have hc4 : rCC S ≤ 4 := hcc.2
  refine Ci.of rfl (bI_nar _) (Nat.le_of_ble_eq_true rfl) (fun p e s mi args below meth c A0 Q X K => ?_)
  refine j_at rfl rfl (Ls3 := [(0, .ref (zA Z (7) (0) (0)))]) rfl rfl ?_
  refine j_aload_n X dX6_schedules_0 rfl rfl (q := 0) rfl ?_
  refine jg_model X 0 (by decide) lk_RX6_7 rfl rfl dX6_schedules_1 rfl ?_
  refine j_iconst X dX6_schedules_4 rfl (v := 0) (by decide) ?_
  refine j_ialdN X (k := 0) (wm_ref (by decide)) ((fun _ => rfl) _) (by decide) (by decide) dX6_schedules_5 rfl ?_
  refine j_aload_n X dX6_schedules_6 rfl rfl (q := 0) rfl ?_
  refine j_calli X (c_X6_finishedCount l Z S h hcc) (wm_ref (by decide)) ((fun _ => rfl) _) rfl lk_RX6_164 mi_X6_finishedCount ms_X6_finishedCount ini_RX6 mc_X6_finishedCount md_X6_finishedCount ⟨Nat.le_of_ble_eq_true rfl, Nat.le_of_ble_eq_true rfl⟩ ⟨Nat.le_of_ble_eq_true rfl, Nat.le_of_ble_eq_true rfl⟩ rfl (Nat.le_of_ble_eq_true rfl) (as := []) (rest := [.int (S 7 0 1 0)]) rfl dX6_schedules_7 rfl ?_
  refine j_isub X dX6_schedules_10 rfl ?_
  refine j_istore_n X dX6_schedules_11 rfl rfl (by decide) (Ls2 := [(1, .int ((S 7 0 1 0) - (rFinC S))), (0, .ref (zA Z (7) (0) (0)))]) rfl ?_
  refine j_iload_n X dX6_schedules_12 rfl rfl (q := 0) rfl ?_
  refine j_if_ne X dX6_schedules_13 rfl (tgt := 18) (by decide) (fun c_13 => ?_) (fun c_13 => ?_)
  · refine j_aload_n X dX6_schedules_18 rfl rfl (q := 1) rfl ?_
    refine jg_model X 0 (by decide) lk_RX6_7 rfl rfl dX6_schedules_19 rfl ?_
    refine j_iconst X dX6_schedules_22 rfl (v := 3) (by decide) ?_
    refine j_ldc2 X (v := 1103515245) dX6_schedules_23 rfl (List.mem_of_getElem? (i := 539) (by decide +kernel)) ?_
    refine j_aload_n X dX6_schedules_26 rfl rfl (q := 1) rfl ?_
    refine jg_model X 0 (by decide) lk_RX6_7 rfl rfl dX6_schedules_27 rfl ?_
    refine j_iconst X dX6_schedules_30 rfl (v := 3) (by decide) ?_
    refine j_ialdN X (k := 3) (wm_ref (by decide)) ((fun _ => rfl) _) (by decide) (by decide) dX6_schedules_31 rfl ?_
    refine j_i2l X dX6_schedules_32 rfl ?_
    refine j_lmul X dX6_schedules_33 rfl ?_
    refine j_ldc2 X (v := 12345) dX6_schedules_34 rfl (List.mem_of_getElem? (i := 540) (by decide +kernel)) ?_
    refine j_ladd X dX6_schedules_37 rfl ?_
    refine j_ldc2 X (v := 2147483648) dX6_schedules_38 rfl (List.mem_of_getElem? (i := 541) (by decide +kernel)) ?_
    refine j_lrem X dX6_schedules_41 rfl (by decide) ?_
    refine j_l2i X dX6_schedules_42 rfl ?_
    refine j_iastN X (k := 3) (wm_ref (by decide)) (fun r => (fun _ => rfl) r) (by decide) (by decide) dX6_schedules_43 rfl ?_
    refine j_name (fun S1 eS1 => ?_)
    refine j_aload_n X dX6_schedules_44 rfl rfl (q := 1) rfl ?_
    refine jg_model X 0 (by decide) lk_RX6_7 rfl rfl dX6_schedules_45 rfl ?_
    refine j_iconst X dX6_schedules_48 rfl (v := 3) (by decide) ?_
    refine j_ialdN X (k := 3) (wm_ref (by decide)) ((fun _ => rfl) _) (by decide) (by decide) dX6_schedules_49 rfl ?_
    refine j_ldc X (v := 65536) dX6_schedules_50 rfl (List.mem_of_getElem? (i := 542) (by decide +kernel)) ?_
    refine j_idiv X dX6_schedules_52 rfl (by decide) ?_
    refine j_iload_n X dX6_schedules_53 rfl rfl (q := 0) rfl ?_
    refine j_irem X dX6_schedules_54 rfl c_13 ?_
    refine j_istore_n X dX6_schedules_55 rfl rfl (by decide) (Ls2 := [(2, .int (((S1 7 0 1 3) / (65536)) - ((S1 7 0 1 3) / (65536)) / ((S 7 0 1 0) - (rFinC S)) * ((S 7 0 1 0) - (rFinC S)))), (1, .int ((S 7 0 1 0) - (rFinC S))), (0, .ref (zA Z (7) (0) (0)))]) rfl ?_
    refine j_iconst X dX6_schedules_56 rfl (v := 0) (by decide) ?_
    refine j_istore_n X dX6_schedules_57 rfl rfl (by decide) (Ls2 := [(3, .int (0)), (2, .int (((S1 7 0 1 3) / (65536)) - ((S1 7 0 1 3) / (65536)) / ((S 7 0 1 0) - (rFinC S)) * ((S 7 0 1 0) - (rFinC S)))), (1, .int ((S 7 0 1 0) - (rFinC S))), (0, .ref (zA Z (7) (0) (0)))]) rfl ?_
    refine j_sub [0, 1, 3] (Ls2 := [(3, .int (0)), (2, .int (((S1 7 0 1 3) / (65536)) - ((S1 7 0 1 3) / (65536)) / ((S 7 0 1 0) - (rFinC S)) * ((S 7 0 1 0) - (rFinC S)))), (0, .ref (zA Z (7) (0) (0)))]) rfl ?_
    have hs1 : S1 = rTick S := by subst eS1; rfl
    have hs2 : lpE (rSelF S1) (rCC S) 0 ((((S1 7 0 1 3) / (65536)) - ((S1 7 0 1 3) / (65536)) / ((S 7 0 1 0) - (rFinC S)) * ((S 7 0 1 0) - (rFinC S))), 0) = rSelL S := by subst eS1; rfl
    refine L_sel l Z h S1 (rCC S) hcc.2 X (rCC S) 0 (((S1 7 0 1 3) / (65536)) - ((S1 7 0 1 3) / (65536)) / ((S 7 0 1 0) - (rFinC S)) * ((S 7 0 1 0) - (rFinC S))) 0 (by omega) (by rw [hs2]; exact hsel c_13) (fun kb hkb hr hf => ?_)
    have hkb4 : kb < 4 := by omega
    rw [hs2] at hr
    have hk : rSel S = kb := by unfold rSel; rw [hr]; exact nI_clamp (by omega)
    rw [hs1, rFin_tick] at hf
    refine j_aload_n X dX6_schedules_92 rfl rfl (q := 1) rfl ?_
    refine j_iload_n X dX6_schedules_93 rfl rfl (q := 0) rfl ?_
    refine j_calli X (c_X6_go l Z S1 h kb (by omega) (by subst eS1; exact wfE_tick (hwf kb hkb hf))) (wm_ref (by decide)) ((fun _ => rfl) _) rfl lk_RX6_161 mi_X6_go ms_X6_go ini_RX6 mc_X6_go md_X6_go ⟨Nat.le_of_ble_eq_true rfl, Nat.le_of_ble_eq_true rfl⟩ ⟨Nat.le_of_ble_eq_true rfl, Nat.le_of_ble_eq_true rfl⟩ rfl (Nat.le_of_ble_eq_true rfl) (as := [.int (nI (kb))]) (rest := []) rfl dX6_schedules_94 rfl ?_
    refine j_name (fun S2 eS2 => ?_)
    refine j_istore X dX6_schedules_97 rfl (by decide) (Ls2 := [(4, .int ((rGo S1 kb).1)), (3, .int (nI (kb))), (0, .ref (zA Z (7) (0) (0)))]) rfl ?_
    refine j_iload X dX6_schedules_99 rfl (q := 0) rfl ?_
    refine j_if_lt X dX6_schedules_101 rfl (tgt := 108) (by decide) (fun c_101 => ?_) (fun c_101 => ?_)
    · refine j_iconst X dX6_schedules_108 rfl (v := 0) (by decide) ?_
      have hr0 : ¬ rRun S = 0 := c_13
      have hc' : (rGo (rTick S) kb).1 < 0 := by subst eS1; subst eS2; exact c_101
      exact j_ret (by rw [rSch, if_neg hr0, hk]; simp [bI, hc']) (by subst eS1; subst eS2; rw [rSch, if_neg hr0, hk]; rfl) rfl (K _ _ dX6_schedules_109)
    · refine j_iconst X dX6_schedules_104 rfl (v := 1) (by decide) ?_
      refine j_goto X (tgt := 109) dX6_schedules_105 (by decide) ?_
      have hr0 : ¬ rRun S = 0 := c_13
      have hc' : ¬ (rGo (rTick S) kb).1 < 0 := by subst eS1; subst eS2; exact c_101
      exact j_ret (by rw [rSch, if_neg hr0, hk]; simp [bI, hc']) (by subst eS1; subst eS2; rw [rSch, if_neg hr0, hk]; rfl) rfl (K _ _ dX6_schedules_109)
  · refine j_iconst X dX6_schedules_16 rfl (v := 0) (by decide) ?_
    exact j_ret (by rw [rSch, if_pos (show rRun S = 0 from c_13)]; rfl) (by rw [rSch, if_pos (show rRun S = 0 from c_13)]) rfl (K _ _ dX6_schedules_17)

/-! the law's method types: the signs of an instruction, behind the text -/
theorem app_tl {S : St} {t : Nat} {x : Int32} (h : S 6 0 0 1 = nI t) (ht : t < 2 ^ 31) : pAppS S x 6 0 0 1 = nI (t + 1) := by
  unfold pAppS
  rw [sF_eq ⟨rfl, rfl, rfl, rfl⟩]
  show nI ((S 6 0 0 1).toNatClampNeg + 1) = _
  rw [h, nI_clamp ht]
def apL : List Int32 → St → St
  | [], S => S
  | c :: cs, S => apL cs (pAppS S c)
theorem ty_neg : ∀ u, u < 20 → (nI u - 20 < 0) ∧ -(nI u - 20) = nI (20 - u) := by decide +kernel
theorem ty_pos : ∀ u, u < 21 → nI (u + 20) - 20 = nI u ∧ ¬ nI u < 0 := by decide +kernel
theorem ty_div : ∀ s, s < 21 → 48 + nI s / 10 = nI (48 + s / 10) := by decide +kernel
set_option maxRecDepth 100000 in
set_option maxHeartbeats 4000000 in
theorem ty_b (l : Launch) (Z : wZ) (S : St) (h : Hl) (x : Int32) (tl : Nat) (h_S : S 6 0 0 1 = nI tl) (htl : tl + 5 ≤ 120) (hkd : pLow x 10 = 0) : Cq l yL_types (.code yL_types cL_types 7 (some .int)) 0 0 3 62 Z [.ref (zA Z (6) (0) (0)), .int (x), .int (3)] S h (nI (tl + 2)) (apL [98, 59] S) h := by
  refine Cq.of rfl rfl rfl (Nat.le_of_ble_eq_true rfl) (fun p e s mi args below meth c A0 Q X hSt hZ K => ?_)
  refine j_at rfl rfl (Ls3 := [(0, .ref (zA Z (6) (0) (0))), (1, .int (x)), (2, .int (3))]) rfl rfl ?_
  refine j_iload_n X dL_types_0 rfl rfl (q := 1) rfl ?_
  refine j_bipush X dL_types_1 rfl (v := 10) (by decide) ?_
  refine j_callQ X hSt hZ (c_L_low l Z S h (x) (10) (by decide)) lk_RL_89 mt_L_low ini_RL mc_L_low md_L_low ⟨Nat.le_of_ble_eq_true rfl, Nat.le_of_ble_eq_true rfl⟩ ⟨Nat.le_of_ble_eq_true rfl, Nat.le_of_ble_eq_true rfl⟩ rfl (Nat.le_of_ble_eq_true rfl) (as := [.int (x), .int (10)]) (rest := []) rfl dL_types_3 rfl ?_
  refine j_topeq (y := (0)) hkd ?_
  refine j_istore_n X dL_types_6 rfl rfl (by decide) (Ls2 := [(3, .int (0)), (0, .ref (zA Z (6) (0) (0))), (1, .int (x)), (2, .int (3))]) rfl ?_
  refine j_iconst X dL_types_7 rfl (v := 0) (by decide) ?_
  refine j_istore X dL_types_8 rfl (by decide) (Ls2 := [(4, .int (0)), (3, .int (0)), (0, .ref (zA Z (6) (0) (0))), (1, .int (x)), (2, .int (3))]) rfl ?_
  refine j_iload_n X dL_types_10 rfl rfl (q := 1) rfl ?_
  refine j_iconst X dL_types_11 rfl (v := 2) (by decide) ?_
  refine j_icmp_ge_f X dL_types_12 rfl (tgt := 35) (by decide) (by decide) ?_
  refine j_aload_n X dL_types_15 rfl rfl (q := 2) rfl ?_
  refine j_iload_n X dL_types_16 rfl rfl (q := 1) rfl ?_
  refine j_if_ne_f X dL_types_17 rfl (tgt := 25) (by decide) (by decide) ?_
  refine j_bipush X dL_types_20 rfl (v := 98) (by decide) ?_
  refine j_goto X (tgt := 27) dL_types_22 (by decide) ?_
  refine j_callQW X hSt hZ (w_append l Z S (pAppS S (98)) h (98) _ (c_X5_append l Z S h (98) (by decide) (by decide) (by rw [h_S]; exact okI_nI (by omega) (by decide)) (by show (S 6 0 0 1).toNatClampNeg < 120; rw [h_S, nI_clamp (by omega)]; omega))) lk_RL_94 mt_L_append ini_RL mc_L_append md_L_append ⟨Nat.le_of_ble_eq_true rfl, Nat.le_of_ble_eq_true rfl⟩ ⟨Nat.le_of_ble_eq_true rfl, Nat.le_of_ble_eq_true rfl⟩ rfl (Nat.le_of_ble_eq_true rfl) (as := [.ref (zA Z (6) (0) (0)), .int (98)]) (rest := []) rfl dL_types_27 rfl ?_
  refine j_topeq (y := (nI (tl + 1))) (app_tl h_S (by omega)) ?_
  refine j_name (fun S1 eS1 => ?_)
  have h_S1 : S1 6 0 0 1 = nI (tl + 1) := by rw [eS1]; exact app_tl h_S (by omega)
  refine j_istore X dL_types_30 rfl (by decide) (Ls2 := [(4, .int (nI (tl + 1))), (3, .int (0)), (0, .ref (zA Z (6) (0) (0))), (1, .int (x)), (2, .int (3))]) rfl ?_
  refine j_goto X (tgt := 163) dL_types_32 (by decide) ?_
  refine j_iload X dL_types_163 rfl (q := 0) rfl ?_
  refine j_if_le_f X dL_types_165 rfl (tgt := 177) (by decide) (nI_nle (by omega) (by omega)) ?_
  refine j_aload_n X dL_types_168 rfl rfl (q := 2) rfl ?_
  refine j_bipush X dL_types_169 rfl (v := 59) (by decide) ?_
  refine j_callQW X hSt hZ (w_append l Z S1 (pAppS S1 (59)) h (59) _ (c_X5_append l Z S1 h (59) (by decide) (by decide) (by rw [h_S1]; exact okI_nI (by omega) (by decide)) (by show (S1 6 0 0 1).toNatClampNeg < 120; rw [h_S1, nI_clamp (by omega)]; omega))) lk_RL_94 mt_L_append ini_RL mc_L_append md_L_append ⟨Nat.le_of_ble_eq_true rfl, Nat.le_of_ble_eq_true rfl⟩ ⟨Nat.le_of_ble_eq_true rfl, Nat.le_of_ble_eq_true rfl⟩ rfl (Nat.le_of_ble_eq_true rfl) (as := [.ref (zA Z (6) (0) (0)), .int (59)]) (rest := []) rfl dL_types_171 rfl ?_
  refine j_topeq (y := (nI (tl + 2))) (app_tl h_S1 (by omega)) ?_
  refine j_name (fun S2 eS2 => ?_)
  have h_S2 : S2 6 0 0 1 = nI (tl + 2) := by rw [eS2]; exact app_tl h_S1 (by omega)
  refine j_goto X (tgt := 178) dL_types_174 (by decide) ?_
  exact j_ret rfl (by subst eS1; subst eS2; rfl) rfl (K _ _ dL_types_178)
set_option maxRecDepth 100000 in
set_option maxHeartbeats 4000000 in
theorem ty_c (l : Launch) (Z : wZ) (S : St) (h : Hl) (x : Int32) (tl : Nat) (h_S : S 6 0 0 1 = nI tl) (htl : tl + 5 ≤ 120) (hkd : pLow x 10 = 1) : Cq l yL_types (.code yL_types cL_types 7 (some .int)) 0 0 3 62 Z [.ref (zA Z (6) (0) (0)), .int (x), .int (3)] S h (nI (tl + 2)) (apL [99, 59] S) h := by
  refine Cq.of rfl rfl rfl (Nat.le_of_ble_eq_true rfl) (fun p e s mi args below meth c A0 Q X hSt hZ K => ?_)
  refine j_at rfl rfl (Ls3 := [(0, .ref (zA Z (6) (0) (0))), (1, .int (x)), (2, .int (3))]) rfl rfl ?_
  refine j_iload_n X dL_types_0 rfl rfl (q := 1) rfl ?_
  refine j_bipush X dL_types_1 rfl (v := 10) (by decide) ?_
  refine j_callQ X hSt hZ (c_L_low l Z S h (x) (10) (by decide)) lk_RL_89 mt_L_low ini_RL mc_L_low md_L_low ⟨Nat.le_of_ble_eq_true rfl, Nat.le_of_ble_eq_true rfl⟩ ⟨Nat.le_of_ble_eq_true rfl, Nat.le_of_ble_eq_true rfl⟩ rfl (Nat.le_of_ble_eq_true rfl) (as := [.int (x), .int (10)]) (rest := []) rfl dL_types_3 rfl ?_
  refine j_topeq (y := (1)) hkd ?_
  refine j_istore_n X dL_types_6 rfl rfl (by decide) (Ls2 := [(3, .int (1)), (0, .ref (zA Z (6) (0) (0))), (1, .int (x)), (2, .int (3))]) rfl ?_
  refine j_iconst X dL_types_7 rfl (v := 0) (by decide) ?_
  refine j_istore X dL_types_8 rfl (by decide) (Ls2 := [(4, .int (0)), (3, .int (1)), (0, .ref (zA Z (6) (0) (0))), (1, .int (x)), (2, .int (3))]) rfl ?_
  refine j_iload_n X dL_types_10 rfl rfl (q := 1) rfl ?_
  refine j_iconst X dL_types_11 rfl (v := 2) (by decide) ?_
  refine j_icmp_ge_f X dL_types_12 rfl (tgt := 35) (by decide) (by decide) ?_
  refine j_aload_n X dL_types_15 rfl rfl (q := 2) rfl ?_
  refine j_iload_n X dL_types_16 rfl rfl (q := 1) rfl ?_
  refine j_if_ne_t X (tgt := 25) dL_types_17 (by decide) (by decide) ?_
  refine j_bipush X dL_types_25 rfl (v := 99) (by decide) ?_
  refine j_callQW X hSt hZ (w_append l Z S (pAppS S (99)) h (99) _ (c_X5_append l Z S h (99) (by decide) (by decide) (by rw [h_S]; exact okI_nI (by omega) (by decide)) (by show (S 6 0 0 1).toNatClampNeg < 120; rw [h_S, nI_clamp (by omega)]; omega))) lk_RL_94 mt_L_append ini_RL mc_L_append md_L_append ⟨Nat.le_of_ble_eq_true rfl, Nat.le_of_ble_eq_true rfl⟩ ⟨Nat.le_of_ble_eq_true rfl, Nat.le_of_ble_eq_true rfl⟩ rfl (Nat.le_of_ble_eq_true rfl) (as := [.ref (zA Z (6) (0) (0)), .int (99)]) (rest := []) rfl dL_types_27 rfl ?_
  refine j_topeq (y := (nI (tl + 1))) (app_tl h_S (by omega)) ?_
  refine j_name (fun S1 eS1 => ?_)
  have h_S1 : S1 6 0 0 1 = nI (tl + 1) := by rw [eS1]; exact app_tl h_S (by omega)
  refine j_istore X dL_types_30 rfl (by decide) (Ls2 := [(4, .int (nI (tl + 1))), (3, .int (1)), (0, .ref (zA Z (6) (0) (0))), (1, .int (x)), (2, .int (3))]) rfl ?_
  refine j_goto X (tgt := 163) dL_types_32 (by decide) ?_
  refine j_iload X dL_types_163 rfl (q := 0) rfl ?_
  refine j_if_le_f X dL_types_165 rfl (tgt := 177) (by decide) (nI_nle (by omega) (by omega)) ?_
  refine j_aload_n X dL_types_168 rfl rfl (q := 2) rfl ?_
  refine j_bipush X dL_types_169 rfl (v := 59) (by decide) ?_
  refine j_callQW X hSt hZ (w_append l Z S1 (pAppS S1 (59)) h (59) _ (c_X5_append l Z S1 h (59) (by decide) (by decide) (by rw [h_S1]; exact okI_nI (by omega) (by decide)) (by show (S1 6 0 0 1).toNatClampNeg < 120; rw [h_S1, nI_clamp (by omega)]; omega))) lk_RL_94 mt_L_append ini_RL mc_L_append md_L_append ⟨Nat.le_of_ble_eq_true rfl, Nat.le_of_ble_eq_true rfl⟩ ⟨Nat.le_of_ble_eq_true rfl, Nat.le_of_ble_eq_true rfl⟩ rfl (Nat.le_of_ble_eq_true rfl) (as := [.ref (zA Z (6) (0) (0)), .int (59)]) (rest := []) rfl dL_types_171 rfl ?_
  refine j_topeq (y := (nI (tl + 2))) (app_tl h_S1 (by omega)) ?_
  refine j_name (fun S2 eS2 => ?_)
  have h_S2 : S2 6 0 0 1 = nI (tl + 2) := by rw [eS2]; exact app_tl h_S1 (by omega)
  refine j_goto X (tgt := 178) dL_types_174 (by decide) ?_
  exact j_ret rfl (by subst eS1; subst eS2; rfl) rfl (K _ _ dL_types_178)
set_option maxRecDepth 100000 in
set_option maxHeartbeats 4000000 in
theorem ty_2 (l : Launch) (Z : wZ) (S : St) (h : Hl) (x : Int32) (tl : Nat) (h_S : S 6 0 0 1 = nI tl) (htl : tl + 5 ≤ 120) (hkd : pLow x 10 = 2) (u : Nat) (hu : pLow (x >>> (4 &&& 31)) 3 = nI u) (hu3 : u < 3) : Cq l yL_types (.code yL_types cL_types 7 (some .int)) 0 0 3 62 Z [.ref (zA Z (6) (0) (0)), .int (x), .int (3)] S h (nI (tl + 3)) (apL [114, nI (48 + u), 59] S) h := by
  refine Cq.of rfl rfl rfl (Nat.le_of_ble_eq_true rfl) (fun p e s mi args below meth c A0 Q X hSt hZ K => ?_)
  refine j_at rfl rfl (Ls3 := [(0, .ref (zA Z (6) (0) (0))), (1, .int (x)), (2, .int (3))]) rfl rfl ?_
  refine j_iload_n X dL_types_0 rfl rfl (q := 1) rfl ?_
  refine j_bipush X dL_types_1 rfl (v := 10) (by decide) ?_
  refine j_callQ X hSt hZ (c_L_low l Z S h (x) (10) (by decide)) lk_RL_89 mt_L_low ini_RL mc_L_low md_L_low ⟨Nat.le_of_ble_eq_true rfl, Nat.le_of_ble_eq_true rfl⟩ ⟨Nat.le_of_ble_eq_true rfl, Nat.le_of_ble_eq_true rfl⟩ rfl (Nat.le_of_ble_eq_true rfl) (as := [.int (x), .int (10)]) (rest := []) rfl dL_types_3 rfl ?_
  refine j_topeq (y := (2)) hkd ?_
  refine j_istore_n X dL_types_6 rfl rfl (by decide) (Ls2 := [(3, .int (2)), (0, .ref (zA Z (6) (0) (0))), (1, .int (x)), (2, .int (3))]) rfl ?_
  refine j_iconst X dL_types_7 rfl (v := 0) (by decide) ?_
  refine j_istore X dL_types_8 rfl (by decide) (Ls2 := [(4, .int (0)), (3, .int (2)), (0, .ref (zA Z (6) (0) (0))), (1, .int (x)), (2, .int (3))]) rfl ?_
  refine j_iload_n X dL_types_10 rfl rfl (q := 1) rfl ?_
  refine j_iconst X dL_types_11 rfl (v := 2) (by decide) ?_
  refine j_icmp_ge_t X (tgt := 35) dL_types_12 (by decide) (by decide) ?_
  refine j_iload_n X dL_types_35 rfl rfl (q := 1) rfl ?_
  refine j_bipush X dL_types_36 rfl (v := 8) (by decide) ?_
  refine j_icmp_ge_f X dL_types_38 rfl (tgt := 79) (by decide) (by decide) ?_
  refine j_aload_n X dL_types_41 rfl rfl (q := 2) rfl ?_
  refine j_iload_n X dL_types_42 rfl rfl (q := 1) rfl ?_
  refine j_iconst X dL_types_43 rfl (v := 5) (by decide) ?_
  refine j_icmp_ge_f X dL_types_44 rfl (tgt := 52) (by decide) (by decide) ?_
  refine j_bipush X dL_types_47 rfl (v := 114) (by decide) ?_
  refine j_goto X (tgt := 54) dL_types_49 (by decide) ?_
  refine j_callQW X hSt hZ (w_append l Z S (pAppS S (114)) h (114) _ (c_X5_append l Z S h (114) (by decide) (by decide) (by rw [h_S]; exact okI_nI (by omega) (by decide)) (by show (S 6 0 0 1).toNatClampNeg < 120; rw [h_S, nI_clamp (by omega)]; omega))) lk_RL_94 mt_L_append ini_RL mc_L_append md_L_append ⟨Nat.le_of_ble_eq_true rfl, Nat.le_of_ble_eq_true rfl⟩ ⟨Nat.le_of_ble_eq_true rfl, Nat.le_of_ble_eq_true rfl⟩ rfl (Nat.le_of_ble_eq_true rfl) (as := [.ref (zA Z (6) (0) (0)), .int (114)]) (rest := []) rfl dL_types_54 rfl ?_
  refine j_topeq (y := (nI (tl + 1))) (app_tl h_S (by omega)) ?_
  refine j_name (fun S1 eS1 => ?_)
  have h_S1 : S1 6 0 0 1 = nI (tl + 1) := by rw [eS1]; exact app_tl h_S (by omega)
  refine j_iconst X dL_types_57 rfl (v := 0) (by decide) ?_
  refine j_aload_n X dL_types_58 rfl rfl (q := 2) rfl ?_
  refine j_bipush X dL_types_59 rfl (v := 48) (by decide) ?_
  refine j_iload_n X dL_types_61 rfl rfl (q := 3) rfl ?_
  refine j_iconst X dL_types_62 rfl (v := 4) (by decide) ?_
  refine j_ishr X dL_types_63 rfl ?_
  refine j_iload_n X dL_types_64 rfl rfl (q := 4) rfl ?_
  refine j_callQ X hSt hZ (c_L_low l Z S1 h ((x) >>> ((4) &&& 31)) (3) (by decide)) lk_RL_89 mt_L_low ini_RL mc_L_low md_L_low ⟨Nat.le_of_ble_eq_true rfl, Nat.le_of_ble_eq_true rfl⟩ ⟨Nat.le_of_ble_eq_true rfl, Nat.le_of_ble_eq_true rfl⟩ rfl (Nat.le_of_ble_eq_true rfl) (as := [.int ((x) >>> ((4) &&& 31)), .int (3)]) (rest := [.int (48), .ref (zA Z (6) (0) (0)), .int (0), .int (nI (tl + 1))]) rfl dL_types_65 rfl ?_
  refine j_topeq (y := (nI (u))) hu ?_
  refine j_iadd X dL_types_68 rfl ?_
  refine j_topeq (y := nI (48 + u)) (nI_add 48 u) ?_
  refine j_callQW X hSt hZ (w_append l Z S1 (pAppS S1 (nI (48 + u))) h (nI (48 + u)) _ (c_X5_append l Z S1 h (nI (48 + u)) (nI_pos (by omega)) (nI_le (b := 127) (by omega) (by decide)) (by rw [h_S1]; exact okI_nI (by omega) (by decide)) (by show (S1 6 0 0 1).toNatClampNeg < 120; rw [h_S1, nI_clamp (by omega)]; omega))) lk_RL_94 mt_L_append ini_RL mc_L_append md_L_append ⟨Nat.le_of_ble_eq_true rfl, Nat.le_of_ble_eq_true rfl⟩ ⟨Nat.le_of_ble_eq_true rfl, Nat.le_of_ble_eq_true rfl⟩ rfl (Nat.le_of_ble_eq_true rfl) (as := [.ref (zA Z (6) (0) (0)), .int (nI (48 + u))]) (rest := [.int (0), .int (nI (tl + 1))]) rfl dL_types_69 rfl ?_
  refine j_topeq (y := (nI (tl + 2))) (app_tl h_S1 (by omega)) ?_
  refine j_name (fun S2 eS2 => ?_)
  have h_S2 : S2 6 0 0 1 = nI (tl + 2) := by rw [eS2]; exact app_tl h_S1 (by omega)
  refine j_imul X dL_types_72 rfl ?_
  refine j_topeq (y := nI (0 * (tl + 2))) (pk_mul 0 (tl + 2)) ?_
  refine j_iadd X dL_types_73 rfl ?_
  refine j_topeq (y := nI ((tl + 1) + (0 * (tl + 2)))) (nI_add (tl + 1) (0 * (tl + 2))) ?_
  refine j_istore X dL_types_74 rfl (by decide) (Ls2 := [(4, .int (nI ((tl + 1) + (0 * (tl + 2))))), (3, .int (2)), (0, .ref (zA Z (6) (0) (0))), (1, .int (x)), (2, .int (3))]) rfl ?_
  refine j_goto X (tgt := 163) dL_types_76 (by decide) ?_
  refine j_iload X dL_types_163 rfl (q := 0) rfl ?_
  refine j_if_le_f X dL_types_165 rfl (tgt := 177) (by decide) (nI_nle (by omega) (by omega)) ?_
  refine j_aload_n X dL_types_168 rfl rfl (q := 2) rfl ?_
  refine j_bipush X dL_types_169 rfl (v := 59) (by decide) ?_
  refine j_callQW X hSt hZ (w_append l Z S2 (pAppS S2 (59)) h (59) _ (c_X5_append l Z S2 h (59) (by decide) (by decide) (by rw [h_S2]; exact okI_nI (by omega) (by decide)) (by show (S2 6 0 0 1).toNatClampNeg < 120; rw [h_S2, nI_clamp (by omega)]; omega))) lk_RL_94 mt_L_append ini_RL mc_L_append md_L_append ⟨Nat.le_of_ble_eq_true rfl, Nat.le_of_ble_eq_true rfl⟩ ⟨Nat.le_of_ble_eq_true rfl, Nat.le_of_ble_eq_true rfl⟩ rfl (Nat.le_of_ble_eq_true rfl) (as := [.ref (zA Z (6) (0) (0)), .int (59)]) (rest := []) rfl dL_types_171 rfl ?_
  refine j_topeq (y := (nI (tl + 3))) (app_tl h_S2 (by omega)) ?_
  refine j_name (fun S3 eS3 => ?_)
  have h_S3 : S3 6 0 0 1 = nI (tl + 3) := by rw [eS3]; exact app_tl h_S2 (by omega)
  refine j_goto X (tgt := 178) dL_types_174 (by decide) ?_
  exact j_ret rfl (by subst eS1; subst eS2; subst eS3; rfl) rfl (K _ _ dL_types_178)
set_option maxRecDepth 100000 in
set_option maxHeartbeats 4000000 in
theorem ty_3 (l : Launch) (Z : wZ) (S : St) (h : Hl) (x : Int32) (tl : Nat) (h_S : S 6 0 0 1 = nI tl) (htl : tl + 5 ≤ 120) (hkd : pLow x 10 = 3) (u : Nat) (hu : pLow (x >>> (4 &&& 31)) 3 = nI u) (hu3 : u < 3) : Cq l yL_types (.code yL_types cL_types 7 (some .int)) 0 0 3 62 Z [.ref (zA Z (6) (0) (0)), .int (x), .int (3)] S h (nI (tl + 3)) (apL [114, nI (48 + u), 59] S) h := by
  refine Cq.of rfl rfl rfl (Nat.le_of_ble_eq_true rfl) (fun p e s mi args below meth c A0 Q X hSt hZ K => ?_)
  refine j_at rfl rfl (Ls3 := [(0, .ref (zA Z (6) (0) (0))), (1, .int (x)), (2, .int (3))]) rfl rfl ?_
  refine j_iload_n X dL_types_0 rfl rfl (q := 1) rfl ?_
  refine j_bipush X dL_types_1 rfl (v := 10) (by decide) ?_
  refine j_callQ X hSt hZ (c_L_low l Z S h (x) (10) (by decide)) lk_RL_89 mt_L_low ini_RL mc_L_low md_L_low ⟨Nat.le_of_ble_eq_true rfl, Nat.le_of_ble_eq_true rfl⟩ ⟨Nat.le_of_ble_eq_true rfl, Nat.le_of_ble_eq_true rfl⟩ rfl (Nat.le_of_ble_eq_true rfl) (as := [.int (x), .int (10)]) (rest := []) rfl dL_types_3 rfl ?_
  refine j_topeq (y := (3)) hkd ?_
  refine j_istore_n X dL_types_6 rfl rfl (by decide) (Ls2 := [(3, .int (3)), (0, .ref (zA Z (6) (0) (0))), (1, .int (x)), (2, .int (3))]) rfl ?_
  refine j_iconst X dL_types_7 rfl (v := 0) (by decide) ?_
  refine j_istore X dL_types_8 rfl (by decide) (Ls2 := [(4, .int (0)), (3, .int (3)), (0, .ref (zA Z (6) (0) (0))), (1, .int (x)), (2, .int (3))]) rfl ?_
  refine j_iload_n X dL_types_10 rfl rfl (q := 1) rfl ?_
  refine j_iconst X dL_types_11 rfl (v := 2) (by decide) ?_
  refine j_icmp_ge_t X (tgt := 35) dL_types_12 (by decide) (by decide) ?_
  refine j_iload_n X dL_types_35 rfl rfl (q := 1) rfl ?_
  refine j_bipush X dL_types_36 rfl (v := 8) (by decide) ?_
  refine j_icmp_ge_f X dL_types_38 rfl (tgt := 79) (by decide) (by decide) ?_
  refine j_aload_n X dL_types_41 rfl rfl (q := 2) rfl ?_
  refine j_iload_n X dL_types_42 rfl rfl (q := 1) rfl ?_
  refine j_iconst X dL_types_43 rfl (v := 5) (by decide) ?_
  refine j_icmp_ge_f X dL_types_44 rfl (tgt := 52) (by decide) (by decide) ?_
  refine j_bipush X dL_types_47 rfl (v := 114) (by decide) ?_
  refine j_goto X (tgt := 54) dL_types_49 (by decide) ?_
  refine j_callQW X hSt hZ (w_append l Z S (pAppS S (114)) h (114) _ (c_X5_append l Z S h (114) (by decide) (by decide) (by rw [h_S]; exact okI_nI (by omega) (by decide)) (by show (S 6 0 0 1).toNatClampNeg < 120; rw [h_S, nI_clamp (by omega)]; omega))) lk_RL_94 mt_L_append ini_RL mc_L_append md_L_append ⟨Nat.le_of_ble_eq_true rfl, Nat.le_of_ble_eq_true rfl⟩ ⟨Nat.le_of_ble_eq_true rfl, Nat.le_of_ble_eq_true rfl⟩ rfl (Nat.le_of_ble_eq_true rfl) (as := [.ref (zA Z (6) (0) (0)), .int (114)]) (rest := []) rfl dL_types_54 rfl ?_
  refine j_topeq (y := (nI (tl + 1))) (app_tl h_S (by omega)) ?_
  refine j_name (fun S1 eS1 => ?_)
  have h_S1 : S1 6 0 0 1 = nI (tl + 1) := by rw [eS1]; exact app_tl h_S (by omega)
  refine j_iconst X dL_types_57 rfl (v := 0) (by decide) ?_
  refine j_aload_n X dL_types_58 rfl rfl (q := 2) rfl ?_
  refine j_bipush X dL_types_59 rfl (v := 48) (by decide) ?_
  refine j_iload_n X dL_types_61 rfl rfl (q := 3) rfl ?_
  refine j_iconst X dL_types_62 rfl (v := 4) (by decide) ?_
  refine j_ishr X dL_types_63 rfl ?_
  refine j_iload_n X dL_types_64 rfl rfl (q := 4) rfl ?_
  refine j_callQ X hSt hZ (c_L_low l Z S1 h ((x) >>> ((4) &&& 31)) (3) (by decide)) lk_RL_89 mt_L_low ini_RL mc_L_low md_L_low ⟨Nat.le_of_ble_eq_true rfl, Nat.le_of_ble_eq_true rfl⟩ ⟨Nat.le_of_ble_eq_true rfl, Nat.le_of_ble_eq_true rfl⟩ rfl (Nat.le_of_ble_eq_true rfl) (as := [.int ((x) >>> ((4) &&& 31)), .int (3)]) (rest := [.int (48), .ref (zA Z (6) (0) (0)), .int (0), .int (nI (tl + 1))]) rfl dL_types_65 rfl ?_
  refine j_topeq (y := (nI (u))) hu ?_
  refine j_iadd X dL_types_68 rfl ?_
  refine j_topeq (y := nI (48 + u)) (nI_add 48 u) ?_
  refine j_callQW X hSt hZ (w_append l Z S1 (pAppS S1 (nI (48 + u))) h (nI (48 + u)) _ (c_X5_append l Z S1 h (nI (48 + u)) (nI_pos (by omega)) (nI_le (b := 127) (by omega) (by decide)) (by rw [h_S1]; exact okI_nI (by omega) (by decide)) (by show (S1 6 0 0 1).toNatClampNeg < 120; rw [h_S1, nI_clamp (by omega)]; omega))) lk_RL_94 mt_L_append ini_RL mc_L_append md_L_append ⟨Nat.le_of_ble_eq_true rfl, Nat.le_of_ble_eq_true rfl⟩ ⟨Nat.le_of_ble_eq_true rfl, Nat.le_of_ble_eq_true rfl⟩ rfl (Nat.le_of_ble_eq_true rfl) (as := [.ref (zA Z (6) (0) (0)), .int (nI (48 + u))]) (rest := [.int (0), .int (nI (tl + 1))]) rfl dL_types_69 rfl ?_
  refine j_topeq (y := (nI (tl + 2))) (app_tl h_S1 (by omega)) ?_
  refine j_name (fun S2 eS2 => ?_)
  have h_S2 : S2 6 0 0 1 = nI (tl + 2) := by rw [eS2]; exact app_tl h_S1 (by omega)
  refine j_imul X dL_types_72 rfl ?_
  refine j_topeq (y := nI (0 * (tl + 2))) (pk_mul 0 (tl + 2)) ?_
  refine j_iadd X dL_types_73 rfl ?_
  refine j_topeq (y := nI ((tl + 1) + (0 * (tl + 2)))) (nI_add (tl + 1) (0 * (tl + 2))) ?_
  refine j_istore X dL_types_74 rfl (by decide) (Ls2 := [(4, .int (nI ((tl + 1) + (0 * (tl + 2))))), (3, .int (3)), (0, .ref (zA Z (6) (0) (0))), (1, .int (x)), (2, .int (3))]) rfl ?_
  refine j_goto X (tgt := 163) dL_types_76 (by decide) ?_
  refine j_iload X dL_types_163 rfl (q := 0) rfl ?_
  refine j_if_le_f X dL_types_165 rfl (tgt := 177) (by decide) (nI_nle (by omega) (by omega)) ?_
  refine j_aload_n X dL_types_168 rfl rfl (q := 2) rfl ?_
  refine j_bipush X dL_types_169 rfl (v := 59) (by decide) ?_
  refine j_callQW X hSt hZ (w_append l Z S2 (pAppS S2 (59)) h (59) _ (c_X5_append l Z S2 h (59) (by decide) (by decide) (by rw [h_S2]; exact okI_nI (by omega) (by decide)) (by show (S2 6 0 0 1).toNatClampNeg < 120; rw [h_S2, nI_clamp (by omega)]; omega))) lk_RL_94 mt_L_append ini_RL mc_L_append md_L_append ⟨Nat.le_of_ble_eq_true rfl, Nat.le_of_ble_eq_true rfl⟩ ⟨Nat.le_of_ble_eq_true rfl, Nat.le_of_ble_eq_true rfl⟩ rfl (Nat.le_of_ble_eq_true rfl) (as := [.ref (zA Z (6) (0) (0)), .int (59)]) (rest := []) rfl dL_types_171 rfl ?_
  refine j_topeq (y := (nI (tl + 3))) (app_tl h_S2 (by omega)) ?_
  refine j_name (fun S3 eS3 => ?_)
  have h_S3 : S3 6 0 0 1 = nI (tl + 3) := by rw [eS3]; exact app_tl h_S2 (by omega)
  refine j_goto X (tgt := 178) dL_types_174 (by decide) ?_
  exact j_ret rfl (by subst eS1; subst eS2; subst eS3; rfl) rfl (K _ _ dL_types_178)
set_option maxRecDepth 100000 in
set_option maxHeartbeats 4000000 in
theorem ty_4 (l : Launch) (Z : wZ) (S : St) (h : Hl) (x : Int32) (tl : Nat) (h_S : S 6 0 0 1 = nI tl) (htl : tl + 5 ≤ 120) (hkd : pLow x 10 = 4) (u : Nat) (hu : pLow (x >>> (4 &&& 31)) 3 = nI u) (hu3 : u < 3) : Cq l yL_types (.code yL_types cL_types 7 (some .int)) 0 0 3 62 Z [.ref (zA Z (6) (0) (0)), .int (x), .int (3)] S h (nI (tl + 3)) (apL [114, nI (48 + u), 59] S) h := by
  refine Cq.of rfl rfl rfl (Nat.le_of_ble_eq_true rfl) (fun p e s mi args below meth c A0 Q X hSt hZ K => ?_)
  refine j_at rfl rfl (Ls3 := [(0, .ref (zA Z (6) (0) (0))), (1, .int (x)), (2, .int (3))]) rfl rfl ?_
  refine j_iload_n X dL_types_0 rfl rfl (q := 1) rfl ?_
  refine j_bipush X dL_types_1 rfl (v := 10) (by decide) ?_
  refine j_callQ X hSt hZ (c_L_low l Z S h (x) (10) (by decide)) lk_RL_89 mt_L_low ini_RL mc_L_low md_L_low ⟨Nat.le_of_ble_eq_true rfl, Nat.le_of_ble_eq_true rfl⟩ ⟨Nat.le_of_ble_eq_true rfl, Nat.le_of_ble_eq_true rfl⟩ rfl (Nat.le_of_ble_eq_true rfl) (as := [.int (x), .int (10)]) (rest := []) rfl dL_types_3 rfl ?_
  refine j_topeq (y := (4)) hkd ?_
  refine j_istore_n X dL_types_6 rfl rfl (by decide) (Ls2 := [(3, .int (4)), (0, .ref (zA Z (6) (0) (0))), (1, .int (x)), (2, .int (3))]) rfl ?_
  refine j_iconst X dL_types_7 rfl (v := 0) (by decide) ?_
  refine j_istore X dL_types_8 rfl (by decide) (Ls2 := [(4, .int (0)), (3, .int (4)), (0, .ref (zA Z (6) (0) (0))), (1, .int (x)), (2, .int (3))]) rfl ?_
  refine j_iload_n X dL_types_10 rfl rfl (q := 1) rfl ?_
  refine j_iconst X dL_types_11 rfl (v := 2) (by decide) ?_
  refine j_icmp_ge_t X (tgt := 35) dL_types_12 (by decide) (by decide) ?_
  refine j_iload_n X dL_types_35 rfl rfl (q := 1) rfl ?_
  refine j_bipush X dL_types_36 rfl (v := 8) (by decide) ?_
  refine j_icmp_ge_f X dL_types_38 rfl (tgt := 79) (by decide) (by decide) ?_
  refine j_aload_n X dL_types_41 rfl rfl (q := 2) rfl ?_
  refine j_iload_n X dL_types_42 rfl rfl (q := 1) rfl ?_
  refine j_iconst X dL_types_43 rfl (v := 5) (by decide) ?_
  refine j_icmp_ge_f X dL_types_44 rfl (tgt := 52) (by decide) (by decide) ?_
  refine j_bipush X dL_types_47 rfl (v := 114) (by decide) ?_
  refine j_goto X (tgt := 54) dL_types_49 (by decide) ?_
  refine j_callQW X hSt hZ (w_append l Z S (pAppS S (114)) h (114) _ (c_X5_append l Z S h (114) (by decide) (by decide) (by rw [h_S]; exact okI_nI (by omega) (by decide)) (by show (S 6 0 0 1).toNatClampNeg < 120; rw [h_S, nI_clamp (by omega)]; omega))) lk_RL_94 mt_L_append ini_RL mc_L_append md_L_append ⟨Nat.le_of_ble_eq_true rfl, Nat.le_of_ble_eq_true rfl⟩ ⟨Nat.le_of_ble_eq_true rfl, Nat.le_of_ble_eq_true rfl⟩ rfl (Nat.le_of_ble_eq_true rfl) (as := [.ref (zA Z (6) (0) (0)), .int (114)]) (rest := []) rfl dL_types_54 rfl ?_
  refine j_topeq (y := (nI (tl + 1))) (app_tl h_S (by omega)) ?_
  refine j_name (fun S1 eS1 => ?_)
  have h_S1 : S1 6 0 0 1 = nI (tl + 1) := by rw [eS1]; exact app_tl h_S (by omega)
  refine j_iconst X dL_types_57 rfl (v := 0) (by decide) ?_
  refine j_aload_n X dL_types_58 rfl rfl (q := 2) rfl ?_
  refine j_bipush X dL_types_59 rfl (v := 48) (by decide) ?_
  refine j_iload_n X dL_types_61 rfl rfl (q := 3) rfl ?_
  refine j_iconst X dL_types_62 rfl (v := 4) (by decide) ?_
  refine j_ishr X dL_types_63 rfl ?_
  refine j_iload_n X dL_types_64 rfl rfl (q := 4) rfl ?_
  refine j_callQ X hSt hZ (c_L_low l Z S1 h ((x) >>> ((4) &&& 31)) (3) (by decide)) lk_RL_89 mt_L_low ini_RL mc_L_low md_L_low ⟨Nat.le_of_ble_eq_true rfl, Nat.le_of_ble_eq_true rfl⟩ ⟨Nat.le_of_ble_eq_true rfl, Nat.le_of_ble_eq_true rfl⟩ rfl (Nat.le_of_ble_eq_true rfl) (as := [.int ((x) >>> ((4) &&& 31)), .int (3)]) (rest := [.int (48), .ref (zA Z (6) (0) (0)), .int (0), .int (nI (tl + 1))]) rfl dL_types_65 rfl ?_
  refine j_topeq (y := (nI (u))) hu ?_
  refine j_iadd X dL_types_68 rfl ?_
  refine j_topeq (y := nI (48 + u)) (nI_add 48 u) ?_
  refine j_callQW X hSt hZ (w_append l Z S1 (pAppS S1 (nI (48 + u))) h (nI (48 + u)) _ (c_X5_append l Z S1 h (nI (48 + u)) (nI_pos (by omega)) (nI_le (b := 127) (by omega) (by decide)) (by rw [h_S1]; exact okI_nI (by omega) (by decide)) (by show (S1 6 0 0 1).toNatClampNeg < 120; rw [h_S1, nI_clamp (by omega)]; omega))) lk_RL_94 mt_L_append ini_RL mc_L_append md_L_append ⟨Nat.le_of_ble_eq_true rfl, Nat.le_of_ble_eq_true rfl⟩ ⟨Nat.le_of_ble_eq_true rfl, Nat.le_of_ble_eq_true rfl⟩ rfl (Nat.le_of_ble_eq_true rfl) (as := [.ref (zA Z (6) (0) (0)), .int (nI (48 + u))]) (rest := [.int (0), .int (nI (tl + 1))]) rfl dL_types_69 rfl ?_
  refine j_topeq (y := (nI (tl + 2))) (app_tl h_S1 (by omega)) ?_
  refine j_name (fun S2 eS2 => ?_)
  have h_S2 : S2 6 0 0 1 = nI (tl + 2) := by rw [eS2]; exact app_tl h_S1 (by omega)
  refine j_imul X dL_types_72 rfl ?_
  refine j_topeq (y := nI (0 * (tl + 2))) (pk_mul 0 (tl + 2)) ?_
  refine j_iadd X dL_types_73 rfl ?_
  refine j_topeq (y := nI ((tl + 1) + (0 * (tl + 2)))) (nI_add (tl + 1) (0 * (tl + 2))) ?_
  refine j_istore X dL_types_74 rfl (by decide) (Ls2 := [(4, .int (nI ((tl + 1) + (0 * (tl + 2))))), (3, .int (4)), (0, .ref (zA Z (6) (0) (0))), (1, .int (x)), (2, .int (3))]) rfl ?_
  refine j_goto X (tgt := 163) dL_types_76 (by decide) ?_
  refine j_iload X dL_types_163 rfl (q := 0) rfl ?_
  refine j_if_le_f X dL_types_165 rfl (tgt := 177) (by decide) (nI_nle (by omega) (by omega)) ?_
  refine j_aload_n X dL_types_168 rfl rfl (q := 2) rfl ?_
  refine j_bipush X dL_types_169 rfl (v := 59) (by decide) ?_
  refine j_callQW X hSt hZ (w_append l Z S2 (pAppS S2 (59)) h (59) _ (c_X5_append l Z S2 h (59) (by decide) (by decide) (by rw [h_S2]; exact okI_nI (by omega) (by decide)) (by show (S2 6 0 0 1).toNatClampNeg < 120; rw [h_S2, nI_clamp (by omega)]; omega))) lk_RL_94 mt_L_append ini_RL mc_L_append md_L_append ⟨Nat.le_of_ble_eq_true rfl, Nat.le_of_ble_eq_true rfl⟩ ⟨Nat.le_of_ble_eq_true rfl, Nat.le_of_ble_eq_true rfl⟩ rfl (Nat.le_of_ble_eq_true rfl) (as := [.ref (zA Z (6) (0) (0)), .int (59)]) (rest := []) rfl dL_types_171 rfl ?_
  refine j_topeq (y := (nI (tl + 3))) (app_tl h_S2 (by omega)) ?_
  refine j_name (fun S3 eS3 => ?_)
  have h_S3 : S3 6 0 0 1 = nI (tl + 3) := by rw [eS3]; exact app_tl h_S2 (by omega)
  refine j_goto X (tgt := 178) dL_types_174 (by decide) ?_
  exact j_ret rfl (by subst eS1; subst eS2; subst eS3; rfl) rfl (K _ _ dL_types_178)
set_option maxRecDepth 100000 in
set_option maxHeartbeats 4000000 in
theorem ty_5 (l : Launch) (Z : wZ) (S : St) (h : Hl) (x : Int32) (tl : Nat) (h_S : S 6 0 0 1 = nI tl) (htl : tl + 5 ≤ 120) (hkd : pLow x 10 = 5) (u : Nat) (hu : pLow (x >>> (4 &&& 31)) 3 = nI u) (hu3 : u < 3) : Cq l yL_types (.code yL_types cL_types 7 (some .int)) 0 0 3 62 Z [.ref (zA Z (6) (0) (0)), .int (x), .int (3)] S h (nI (tl + 3)) (apL [119, nI (48 + u), 59] S) h := by
  refine Cq.of rfl rfl rfl (Nat.le_of_ble_eq_true rfl) (fun p e s mi args below meth c A0 Q X hSt hZ K => ?_)
  refine j_at rfl rfl (Ls3 := [(0, .ref (zA Z (6) (0) (0))), (1, .int (x)), (2, .int (3))]) rfl rfl ?_
  refine j_iload_n X dL_types_0 rfl rfl (q := 1) rfl ?_
  refine j_bipush X dL_types_1 rfl (v := 10) (by decide) ?_
  refine j_callQ X hSt hZ (c_L_low l Z S h (x) (10) (by decide)) lk_RL_89 mt_L_low ini_RL mc_L_low md_L_low ⟨Nat.le_of_ble_eq_true rfl, Nat.le_of_ble_eq_true rfl⟩ ⟨Nat.le_of_ble_eq_true rfl, Nat.le_of_ble_eq_true rfl⟩ rfl (Nat.le_of_ble_eq_true rfl) (as := [.int (x), .int (10)]) (rest := []) rfl dL_types_3 rfl ?_
  refine j_topeq (y := (5)) hkd ?_
  refine j_istore_n X dL_types_6 rfl rfl (by decide) (Ls2 := [(3, .int (5)), (0, .ref (zA Z (6) (0) (0))), (1, .int (x)), (2, .int (3))]) rfl ?_
  refine j_iconst X dL_types_7 rfl (v := 0) (by decide) ?_
  refine j_istore X dL_types_8 rfl (by decide) (Ls2 := [(4, .int (0)), (3, .int (5)), (0, .ref (zA Z (6) (0) (0))), (1, .int (x)), (2, .int (3))]) rfl ?_
  refine j_iload_n X dL_types_10 rfl rfl (q := 1) rfl ?_
  refine j_iconst X dL_types_11 rfl (v := 2) (by decide) ?_
  refine j_icmp_ge_t X (tgt := 35) dL_types_12 (by decide) (by decide) ?_
  refine j_iload_n X dL_types_35 rfl rfl (q := 1) rfl ?_
  refine j_bipush X dL_types_36 rfl (v := 8) (by decide) ?_
  refine j_icmp_ge_f X dL_types_38 rfl (tgt := 79) (by decide) (by decide) ?_
  refine j_aload_n X dL_types_41 rfl rfl (q := 2) rfl ?_
  refine j_iload_n X dL_types_42 rfl rfl (q := 1) rfl ?_
  refine j_iconst X dL_types_43 rfl (v := 5) (by decide) ?_
  refine j_icmp_ge_t X (tgt := 52) dL_types_44 (by decide) (by decide) ?_
  refine j_bipush X dL_types_52 rfl (v := 119) (by decide) ?_
  refine j_callQW X hSt hZ (w_append l Z S (pAppS S (119)) h (119) _ (c_X5_append l Z S h (119) (by decide) (by decide) (by rw [h_S]; exact okI_nI (by omega) (by decide)) (by show (S 6 0 0 1).toNatClampNeg < 120; rw [h_S, nI_clamp (by omega)]; omega))) lk_RL_94 mt_L_append ini_RL mc_L_append md_L_append ⟨Nat.le_of_ble_eq_true rfl, Nat.le_of_ble_eq_true rfl⟩ ⟨Nat.le_of_ble_eq_true rfl, Nat.le_of_ble_eq_true rfl⟩ rfl (Nat.le_of_ble_eq_true rfl) (as := [.ref (zA Z (6) (0) (0)), .int (119)]) (rest := []) rfl dL_types_54 rfl ?_
  refine j_topeq (y := (nI (tl + 1))) (app_tl h_S (by omega)) ?_
  refine j_name (fun S1 eS1 => ?_)
  have h_S1 : S1 6 0 0 1 = nI (tl + 1) := by rw [eS1]; exact app_tl h_S (by omega)
  refine j_iconst X dL_types_57 rfl (v := 0) (by decide) ?_
  refine j_aload_n X dL_types_58 rfl rfl (q := 2) rfl ?_
  refine j_bipush X dL_types_59 rfl (v := 48) (by decide) ?_
  refine j_iload_n X dL_types_61 rfl rfl (q := 3) rfl ?_
  refine j_iconst X dL_types_62 rfl (v := 4) (by decide) ?_
  refine j_ishr X dL_types_63 rfl ?_
  refine j_iload_n X dL_types_64 rfl rfl (q := 4) rfl ?_
  refine j_callQ X hSt hZ (c_L_low l Z S1 h ((x) >>> ((4) &&& 31)) (3) (by decide)) lk_RL_89 mt_L_low ini_RL mc_L_low md_L_low ⟨Nat.le_of_ble_eq_true rfl, Nat.le_of_ble_eq_true rfl⟩ ⟨Nat.le_of_ble_eq_true rfl, Nat.le_of_ble_eq_true rfl⟩ rfl (Nat.le_of_ble_eq_true rfl) (as := [.int ((x) >>> ((4) &&& 31)), .int (3)]) (rest := [.int (48), .ref (zA Z (6) (0) (0)), .int (0), .int (nI (tl + 1))]) rfl dL_types_65 rfl ?_
  refine j_topeq (y := (nI (u))) hu ?_
  refine j_iadd X dL_types_68 rfl ?_
  refine j_topeq (y := nI (48 + u)) (nI_add 48 u) ?_
  refine j_callQW X hSt hZ (w_append l Z S1 (pAppS S1 (nI (48 + u))) h (nI (48 + u)) _ (c_X5_append l Z S1 h (nI (48 + u)) (nI_pos (by omega)) (nI_le (b := 127) (by omega) (by decide)) (by rw [h_S1]; exact okI_nI (by omega) (by decide)) (by show (S1 6 0 0 1).toNatClampNeg < 120; rw [h_S1, nI_clamp (by omega)]; omega))) lk_RL_94 mt_L_append ini_RL mc_L_append md_L_append ⟨Nat.le_of_ble_eq_true rfl, Nat.le_of_ble_eq_true rfl⟩ ⟨Nat.le_of_ble_eq_true rfl, Nat.le_of_ble_eq_true rfl⟩ rfl (Nat.le_of_ble_eq_true rfl) (as := [.ref (zA Z (6) (0) (0)), .int (nI (48 + u))]) (rest := [.int (0), .int (nI (tl + 1))]) rfl dL_types_69 rfl ?_
  refine j_topeq (y := (nI (tl + 2))) (app_tl h_S1 (by omega)) ?_
  refine j_name (fun S2 eS2 => ?_)
  have h_S2 : S2 6 0 0 1 = nI (tl + 2) := by rw [eS2]; exact app_tl h_S1 (by omega)
  refine j_imul X dL_types_72 rfl ?_
  refine j_topeq (y := nI (0 * (tl + 2))) (pk_mul 0 (tl + 2)) ?_
  refine j_iadd X dL_types_73 rfl ?_
  refine j_topeq (y := nI ((tl + 1) + (0 * (tl + 2)))) (nI_add (tl + 1) (0 * (tl + 2))) ?_
  refine j_istore X dL_types_74 rfl (by decide) (Ls2 := [(4, .int (nI ((tl + 1) + (0 * (tl + 2))))), (3, .int (5)), (0, .ref (zA Z (6) (0) (0))), (1, .int (x)), (2, .int (3))]) rfl ?_
  refine j_goto X (tgt := 163) dL_types_76 (by decide) ?_
  refine j_iload X dL_types_163 rfl (q := 0) rfl ?_
  refine j_if_le_f X dL_types_165 rfl (tgt := 177) (by decide) (nI_nle (by omega) (by omega)) ?_
  refine j_aload_n X dL_types_168 rfl rfl (q := 2) rfl ?_
  refine j_bipush X dL_types_169 rfl (v := 59) (by decide) ?_
  refine j_callQW X hSt hZ (w_append l Z S2 (pAppS S2 (59)) h (59) _ (c_X5_append l Z S2 h (59) (by decide) (by decide) (by rw [h_S2]; exact okI_nI (by omega) (by decide)) (by show (S2 6 0 0 1).toNatClampNeg < 120; rw [h_S2, nI_clamp (by omega)]; omega))) lk_RL_94 mt_L_append ini_RL mc_L_append md_L_append ⟨Nat.le_of_ble_eq_true rfl, Nat.le_of_ble_eq_true rfl⟩ ⟨Nat.le_of_ble_eq_true rfl, Nat.le_of_ble_eq_true rfl⟩ rfl (Nat.le_of_ble_eq_true rfl) (as := [.ref (zA Z (6) (0) (0)), .int (59)]) (rest := []) rfl dL_types_171 rfl ?_
  refine j_topeq (y := (nI (tl + 3))) (app_tl h_S2 (by omega)) ?_
  refine j_name (fun S3 eS3 => ?_)
  have h_S3 : S3 6 0 0 1 = nI (tl + 3) := by rw [eS3]; exact app_tl h_S2 (by omega)
  refine j_goto X (tgt := 178) dL_types_174 (by decide) ?_
  exact j_ret rfl (by subst eS1; subst eS2; subst eS3; rfl) rfl (K _ _ dL_types_178)
set_option maxRecDepth 100000 in
set_option maxHeartbeats 4000000 in
theorem ty_6 (l : Launch) (Z : wZ) (S : St) (h : Hl) (x : Int32) (tl : Nat) (h_S : S 6 0 0 1 = nI tl) (htl : tl + 5 ≤ 120) (hkd : pLow x 10 = 6) (u : Nat) (hu : pLow (x >>> (4 &&& 31)) 3 = nI u) (hu3 : u < 3) : Cq l yL_types (.code yL_types cL_types 7 (some .int)) 0 0 3 62 Z [.ref (zA Z (6) (0) (0)), .int (x), .int (3)] S h (nI (tl + 3)) (apL [119, nI (48 + u), 59] S) h := by
  refine Cq.of rfl rfl rfl (Nat.le_of_ble_eq_true rfl) (fun p e s mi args below meth c A0 Q X hSt hZ K => ?_)
  refine j_at rfl rfl (Ls3 := [(0, .ref (zA Z (6) (0) (0))), (1, .int (x)), (2, .int (3))]) rfl rfl ?_
  refine j_iload_n X dL_types_0 rfl rfl (q := 1) rfl ?_
  refine j_bipush X dL_types_1 rfl (v := 10) (by decide) ?_
  refine j_callQ X hSt hZ (c_L_low l Z S h (x) (10) (by decide)) lk_RL_89 mt_L_low ini_RL mc_L_low md_L_low ⟨Nat.le_of_ble_eq_true rfl, Nat.le_of_ble_eq_true rfl⟩ ⟨Nat.le_of_ble_eq_true rfl, Nat.le_of_ble_eq_true rfl⟩ rfl (Nat.le_of_ble_eq_true rfl) (as := [.int (x), .int (10)]) (rest := []) rfl dL_types_3 rfl ?_
  refine j_topeq (y := (6)) hkd ?_
  refine j_istore_n X dL_types_6 rfl rfl (by decide) (Ls2 := [(3, .int (6)), (0, .ref (zA Z (6) (0) (0))), (1, .int (x)), (2, .int (3))]) rfl ?_
  refine j_iconst X dL_types_7 rfl (v := 0) (by decide) ?_
  refine j_istore X dL_types_8 rfl (by decide) (Ls2 := [(4, .int (0)), (3, .int (6)), (0, .ref (zA Z (6) (0) (0))), (1, .int (x)), (2, .int (3))]) rfl ?_
  refine j_iload_n X dL_types_10 rfl rfl (q := 1) rfl ?_
  refine j_iconst X dL_types_11 rfl (v := 2) (by decide) ?_
  refine j_icmp_ge_t X (tgt := 35) dL_types_12 (by decide) (by decide) ?_
  refine j_iload_n X dL_types_35 rfl rfl (q := 1) rfl ?_
  refine j_bipush X dL_types_36 rfl (v := 8) (by decide) ?_
  refine j_icmp_ge_f X dL_types_38 rfl (tgt := 79) (by decide) (by decide) ?_
  refine j_aload_n X dL_types_41 rfl rfl (q := 2) rfl ?_
  refine j_iload_n X dL_types_42 rfl rfl (q := 1) rfl ?_
  refine j_iconst X dL_types_43 rfl (v := 5) (by decide) ?_
  refine j_icmp_ge_t X (tgt := 52) dL_types_44 (by decide) (by decide) ?_
  refine j_bipush X dL_types_52 rfl (v := 119) (by decide) ?_
  refine j_callQW X hSt hZ (w_append l Z S (pAppS S (119)) h (119) _ (c_X5_append l Z S h (119) (by decide) (by decide) (by rw [h_S]; exact okI_nI (by omega) (by decide)) (by show (S 6 0 0 1).toNatClampNeg < 120; rw [h_S, nI_clamp (by omega)]; omega))) lk_RL_94 mt_L_append ini_RL mc_L_append md_L_append ⟨Nat.le_of_ble_eq_true rfl, Nat.le_of_ble_eq_true rfl⟩ ⟨Nat.le_of_ble_eq_true rfl, Nat.le_of_ble_eq_true rfl⟩ rfl (Nat.le_of_ble_eq_true rfl) (as := [.ref (zA Z (6) (0) (0)), .int (119)]) (rest := []) rfl dL_types_54 rfl ?_
  refine j_topeq (y := (nI (tl + 1))) (app_tl h_S (by omega)) ?_
  refine j_name (fun S1 eS1 => ?_)
  have h_S1 : S1 6 0 0 1 = nI (tl + 1) := by rw [eS1]; exact app_tl h_S (by omega)
  refine j_iconst X dL_types_57 rfl (v := 0) (by decide) ?_
  refine j_aload_n X dL_types_58 rfl rfl (q := 2) rfl ?_
  refine j_bipush X dL_types_59 rfl (v := 48) (by decide) ?_
  refine j_iload_n X dL_types_61 rfl rfl (q := 3) rfl ?_
  refine j_iconst X dL_types_62 rfl (v := 4) (by decide) ?_
  refine j_ishr X dL_types_63 rfl ?_
  refine j_iload_n X dL_types_64 rfl rfl (q := 4) rfl ?_
  refine j_callQ X hSt hZ (c_L_low l Z S1 h ((x) >>> ((4) &&& 31)) (3) (by decide)) lk_RL_89 mt_L_low ini_RL mc_L_low md_L_low ⟨Nat.le_of_ble_eq_true rfl, Nat.le_of_ble_eq_true rfl⟩ ⟨Nat.le_of_ble_eq_true rfl, Nat.le_of_ble_eq_true rfl⟩ rfl (Nat.le_of_ble_eq_true rfl) (as := [.int ((x) >>> ((4) &&& 31)), .int (3)]) (rest := [.int (48), .ref (zA Z (6) (0) (0)), .int (0), .int (nI (tl + 1))]) rfl dL_types_65 rfl ?_
  refine j_topeq (y := (nI (u))) hu ?_
  refine j_iadd X dL_types_68 rfl ?_
  refine j_topeq (y := nI (48 + u)) (nI_add 48 u) ?_
  refine j_callQW X hSt hZ (w_append l Z S1 (pAppS S1 (nI (48 + u))) h (nI (48 + u)) _ (c_X5_append l Z S1 h (nI (48 + u)) (nI_pos (by omega)) (nI_le (b := 127) (by omega) (by decide)) (by rw [h_S1]; exact okI_nI (by omega) (by decide)) (by show (S1 6 0 0 1).toNatClampNeg < 120; rw [h_S1, nI_clamp (by omega)]; omega))) lk_RL_94 mt_L_append ini_RL mc_L_append md_L_append ⟨Nat.le_of_ble_eq_true rfl, Nat.le_of_ble_eq_true rfl⟩ ⟨Nat.le_of_ble_eq_true rfl, Nat.le_of_ble_eq_true rfl⟩ rfl (Nat.le_of_ble_eq_true rfl) (as := [.ref (zA Z (6) (0) (0)), .int (nI (48 + u))]) (rest := [.int (0), .int (nI (tl + 1))]) rfl dL_types_69 rfl ?_
  refine j_topeq (y := (nI (tl + 2))) (app_tl h_S1 (by omega)) ?_
  refine j_name (fun S2 eS2 => ?_)
  have h_S2 : S2 6 0 0 1 = nI (tl + 2) := by rw [eS2]; exact app_tl h_S1 (by omega)
  refine j_imul X dL_types_72 rfl ?_
  refine j_topeq (y := nI (0 * (tl + 2))) (pk_mul 0 (tl + 2)) ?_
  refine j_iadd X dL_types_73 rfl ?_
  refine j_topeq (y := nI ((tl + 1) + (0 * (tl + 2)))) (nI_add (tl + 1) (0 * (tl + 2))) ?_
  refine j_istore X dL_types_74 rfl (by decide) (Ls2 := [(4, .int (nI ((tl + 1) + (0 * (tl + 2))))), (3, .int (6)), (0, .ref (zA Z (6) (0) (0))), (1, .int (x)), (2, .int (3))]) rfl ?_
  refine j_goto X (tgt := 163) dL_types_76 (by decide) ?_
  refine j_iload X dL_types_163 rfl (q := 0) rfl ?_
  refine j_if_le_f X dL_types_165 rfl (tgt := 177) (by decide) (nI_nle (by omega) (by omega)) ?_
  refine j_aload_n X dL_types_168 rfl rfl (q := 2) rfl ?_
  refine j_bipush X dL_types_169 rfl (v := 59) (by decide) ?_
  refine j_callQW X hSt hZ (w_append l Z S2 (pAppS S2 (59)) h (59) _ (c_X5_append l Z S2 h (59) (by decide) (by decide) (by rw [h_S2]; exact okI_nI (by omega) (by decide)) (by show (S2 6 0 0 1).toNatClampNeg < 120; rw [h_S2, nI_clamp (by omega)]; omega))) lk_RL_94 mt_L_append ini_RL mc_L_append md_L_append ⟨Nat.le_of_ble_eq_true rfl, Nat.le_of_ble_eq_true rfl⟩ ⟨Nat.le_of_ble_eq_true rfl, Nat.le_of_ble_eq_true rfl⟩ rfl (Nat.le_of_ble_eq_true rfl) (as := [.ref (zA Z (6) (0) (0)), .int (59)]) (rest := []) rfl dL_types_171 rfl ?_
  refine j_topeq (y := (nI (tl + 3))) (app_tl h_S2 (by omega)) ?_
  refine j_name (fun S3 eS3 => ?_)
  have h_S3 : S3 6 0 0 1 = nI (tl + 3) := by rw [eS3]; exact app_tl h_S2 (by omega)
  refine j_goto X (tgt := 178) dL_types_174 (by decide) ?_
  exact j_ret rfl (by subst eS1; subst eS2; subst eS3; rfl) rfl (K _ _ dL_types_178)
set_option maxRecDepth 100000 in
set_option maxHeartbeats 4000000 in
theorem ty_7 (l : Launch) (Z : wZ) (S : St) (h : Hl) (x : Int32) (tl : Nat) (h_S : S 6 0 0 1 = nI tl) (htl : tl + 5 ≤ 120) (hkd : pLow x 10 = 7) (u : Nat) (hu : pLow (x >>> (4 &&& 31)) 3 = nI u) (hu3 : u < 3) : Cq l yL_types (.code yL_types cL_types 7 (some .int)) 0 0 3 62 Z [.ref (zA Z (6) (0) (0)), .int (x), .int (3)] S h (nI (tl + 3)) (apL [119, nI (48 + u), 59] S) h := by
  refine Cq.of rfl rfl rfl (Nat.le_of_ble_eq_true rfl) (fun p e s mi args below meth c A0 Q X hSt hZ K => ?_)
  refine j_at rfl rfl (Ls3 := [(0, .ref (zA Z (6) (0) (0))), (1, .int (x)), (2, .int (3))]) rfl rfl ?_
  refine j_iload_n X dL_types_0 rfl rfl (q := 1) rfl ?_
  refine j_bipush X dL_types_1 rfl (v := 10) (by decide) ?_
  refine j_callQ X hSt hZ (c_L_low l Z S h (x) (10) (by decide)) lk_RL_89 mt_L_low ini_RL mc_L_low md_L_low ⟨Nat.le_of_ble_eq_true rfl, Nat.le_of_ble_eq_true rfl⟩ ⟨Nat.le_of_ble_eq_true rfl, Nat.le_of_ble_eq_true rfl⟩ rfl (Nat.le_of_ble_eq_true rfl) (as := [.int (x), .int (10)]) (rest := []) rfl dL_types_3 rfl ?_
  refine j_topeq (y := (7)) hkd ?_
  refine j_istore_n X dL_types_6 rfl rfl (by decide) (Ls2 := [(3, .int (7)), (0, .ref (zA Z (6) (0) (0))), (1, .int (x)), (2, .int (3))]) rfl ?_
  refine j_iconst X dL_types_7 rfl (v := 0) (by decide) ?_
  refine j_istore X dL_types_8 rfl (by decide) (Ls2 := [(4, .int (0)), (3, .int (7)), (0, .ref (zA Z (6) (0) (0))), (1, .int (x)), (2, .int (3))]) rfl ?_
  refine j_iload_n X dL_types_10 rfl rfl (q := 1) rfl ?_
  refine j_iconst X dL_types_11 rfl (v := 2) (by decide) ?_
  refine j_icmp_ge_t X (tgt := 35) dL_types_12 (by decide) (by decide) ?_
  refine j_iload_n X dL_types_35 rfl rfl (q := 1) rfl ?_
  refine j_bipush X dL_types_36 rfl (v := 8) (by decide) ?_
  refine j_icmp_ge_f X dL_types_38 rfl (tgt := 79) (by decide) (by decide) ?_
  refine j_aload_n X dL_types_41 rfl rfl (q := 2) rfl ?_
  refine j_iload_n X dL_types_42 rfl rfl (q := 1) rfl ?_
  refine j_iconst X dL_types_43 rfl (v := 5) (by decide) ?_
  refine j_icmp_ge_t X (tgt := 52) dL_types_44 (by decide) (by decide) ?_
  refine j_bipush X dL_types_52 rfl (v := 119) (by decide) ?_
  refine j_callQW X hSt hZ (w_append l Z S (pAppS S (119)) h (119) _ (c_X5_append l Z S h (119) (by decide) (by decide) (by rw [h_S]; exact okI_nI (by omega) (by decide)) (by show (S 6 0 0 1).toNatClampNeg < 120; rw [h_S, nI_clamp (by omega)]; omega))) lk_RL_94 mt_L_append ini_RL mc_L_append md_L_append ⟨Nat.le_of_ble_eq_true rfl, Nat.le_of_ble_eq_true rfl⟩ ⟨Nat.le_of_ble_eq_true rfl, Nat.le_of_ble_eq_true rfl⟩ rfl (Nat.le_of_ble_eq_true rfl) (as := [.ref (zA Z (6) (0) (0)), .int (119)]) (rest := []) rfl dL_types_54 rfl ?_
  refine j_topeq (y := (nI (tl + 1))) (app_tl h_S (by omega)) ?_
  refine j_name (fun S1 eS1 => ?_)
  have h_S1 : S1 6 0 0 1 = nI (tl + 1) := by rw [eS1]; exact app_tl h_S (by omega)
  refine j_iconst X dL_types_57 rfl (v := 0) (by decide) ?_
  refine j_aload_n X dL_types_58 rfl rfl (q := 2) rfl ?_
  refine j_bipush X dL_types_59 rfl (v := 48) (by decide) ?_
  refine j_iload_n X dL_types_61 rfl rfl (q := 3) rfl ?_
  refine j_iconst X dL_types_62 rfl (v := 4) (by decide) ?_
  refine j_ishr X dL_types_63 rfl ?_
  refine j_iload_n X dL_types_64 rfl rfl (q := 4) rfl ?_
  refine j_callQ X hSt hZ (c_L_low l Z S1 h ((x) >>> ((4) &&& 31)) (3) (by decide)) lk_RL_89 mt_L_low ini_RL mc_L_low md_L_low ⟨Nat.le_of_ble_eq_true rfl, Nat.le_of_ble_eq_true rfl⟩ ⟨Nat.le_of_ble_eq_true rfl, Nat.le_of_ble_eq_true rfl⟩ rfl (Nat.le_of_ble_eq_true rfl) (as := [.int ((x) >>> ((4) &&& 31)), .int (3)]) (rest := [.int (48), .ref (zA Z (6) (0) (0)), .int (0), .int (nI (tl + 1))]) rfl dL_types_65 rfl ?_
  refine j_topeq (y := (nI (u))) hu ?_
  refine j_iadd X dL_types_68 rfl ?_
  refine j_topeq (y := nI (48 + u)) (nI_add 48 u) ?_
  refine j_callQW X hSt hZ (w_append l Z S1 (pAppS S1 (nI (48 + u))) h (nI (48 + u)) _ (c_X5_append l Z S1 h (nI (48 + u)) (nI_pos (by omega)) (nI_le (b := 127) (by omega) (by decide)) (by rw [h_S1]; exact okI_nI (by omega) (by decide)) (by show (S1 6 0 0 1).toNatClampNeg < 120; rw [h_S1, nI_clamp (by omega)]; omega))) lk_RL_94 mt_L_append ini_RL mc_L_append md_L_append ⟨Nat.le_of_ble_eq_true rfl, Nat.le_of_ble_eq_true rfl⟩ ⟨Nat.le_of_ble_eq_true rfl, Nat.le_of_ble_eq_true rfl⟩ rfl (Nat.le_of_ble_eq_true rfl) (as := [.ref (zA Z (6) (0) (0)), .int (nI (48 + u))]) (rest := [.int (0), .int (nI (tl + 1))]) rfl dL_types_69 rfl ?_
  refine j_topeq (y := (nI (tl + 2))) (app_tl h_S1 (by omega)) ?_
  refine j_name (fun S2 eS2 => ?_)
  have h_S2 : S2 6 0 0 1 = nI (tl + 2) := by rw [eS2]; exact app_tl h_S1 (by omega)
  refine j_imul X dL_types_72 rfl ?_
  refine j_topeq (y := nI (0 * (tl + 2))) (pk_mul 0 (tl + 2)) ?_
  refine j_iadd X dL_types_73 rfl ?_
  refine j_topeq (y := nI ((tl + 1) + (0 * (tl + 2)))) (nI_add (tl + 1) (0 * (tl + 2))) ?_
  refine j_istore X dL_types_74 rfl (by decide) (Ls2 := [(4, .int (nI ((tl + 1) + (0 * (tl + 2))))), (3, .int (7)), (0, .ref (zA Z (6) (0) (0))), (1, .int (x)), (2, .int (3))]) rfl ?_
  refine j_goto X (tgt := 163) dL_types_76 (by decide) ?_
  refine j_iload X dL_types_163 rfl (q := 0) rfl ?_
  refine j_if_le_f X dL_types_165 rfl (tgt := 177) (by decide) (nI_nle (by omega) (by omega)) ?_
  refine j_aload_n X dL_types_168 rfl rfl (q := 2) rfl ?_
  refine j_bipush X dL_types_169 rfl (v := 59) (by decide) ?_
  refine j_callQW X hSt hZ (w_append l Z S2 (pAppS S2 (59)) h (59) _ (c_X5_append l Z S2 h (59) (by decide) (by decide) (by rw [h_S2]; exact okI_nI (by omega) (by decide)) (by show (S2 6 0 0 1).toNatClampNeg < 120; rw [h_S2, nI_clamp (by omega)]; omega))) lk_RL_94 mt_L_append ini_RL mc_L_append md_L_append ⟨Nat.le_of_ble_eq_true rfl, Nat.le_of_ble_eq_true rfl⟩ ⟨Nat.le_of_ble_eq_true rfl, Nat.le_of_ble_eq_true rfl⟩ rfl (Nat.le_of_ble_eq_true rfl) (as := [.ref (zA Z (6) (0) (0)), .int (59)]) (rest := []) rfl dL_types_171 rfl ?_
  refine j_topeq (y := (nI (tl + 3))) (app_tl h_S2 (by omega)) ?_
  refine j_name (fun S3 eS3 => ?_)
  have h_S3 : S3 6 0 0 1 = nI (tl + 3) := by rw [eS3]; exact app_tl h_S2 (by omega)
  refine j_goto X (tgt := 178) dL_types_174 (by decide) ?_
  exact j_ret rfl (by subst eS1; subst eS2; subst eS3; rfl) rfl (K _ _ dL_types_178)
set_option maxRecDepth 100000 in
set_option maxHeartbeats 4000000 in
theorem ty_8n2 (l : Launch) (Z : wZ) (S : St) (h : Hl) (x : Int32) (tl : Nat) (h_S : S 6 0 0 1 = nI tl) (htl : tl + 5 ≤ 120) (hkd : pLow x 10 = 8) (u sz : Nat) (hu : pLow (x >>> (4 &&& 31)) 41 = nI u) (hn : u < 20) (hsz : sz = 20 - u) (h9 : 9 < sz) : Cq l yL_types (.code yL_types cL_types 7 (some .int)) 0 0 3 62 Z [.ref (zA Z (6) (0) (0)), .int (x), .int (3)] S h (nI (tl + 5)) (apL [97, 45, nI (48 + sz / 10), nI (48 + sz % 10), 59] S) h := by
  refine Cq.of rfl rfl rfl (Nat.le_of_ble_eq_true rfl) (fun p e s mi args below meth c A0 Q X hSt hZ K => ?_)
  refine j_at rfl rfl (Ls3 := [(0, .ref (zA Z (6) (0) (0))), (1, .int (x)), (2, .int (3))]) rfl rfl ?_
  refine j_iload_n X dL_types_0 rfl rfl (q := 1) rfl ?_
  refine j_bipush X dL_types_1 rfl (v := 10) (by decide) ?_
  refine j_callQ X hSt hZ (c_L_low l Z S h (x) (10) (by decide)) lk_RL_89 mt_L_low ini_RL mc_L_low md_L_low ⟨Nat.le_of_ble_eq_true rfl, Nat.le_of_ble_eq_true rfl⟩ ⟨Nat.le_of_ble_eq_true rfl, Nat.le_of_ble_eq_true rfl⟩ rfl (Nat.le_of_ble_eq_true rfl) (as := [.int (x), .int (10)]) (rest := []) rfl dL_types_3 rfl ?_
  refine j_topeq (y := (8)) hkd ?_
  refine j_istore_n X dL_types_6 rfl rfl (by decide) (Ls2 := [(3, .int (8)), (0, .ref (zA Z (6) (0) (0))), (1, .int (x)), (2, .int (3))]) rfl ?_
  refine j_iconst X dL_types_7 rfl (v := 0) (by decide) ?_
  refine j_istore X dL_types_8 rfl (by decide) (Ls2 := [(4, .int (0)), (3, .int (8)), (0, .ref (zA Z (6) (0) (0))), (1, .int (x)), (2, .int (3))]) rfl ?_
  refine j_iload_n X dL_types_10 rfl rfl (q := 1) rfl ?_
  refine j_iconst X dL_types_11 rfl (v := 2) (by decide) ?_
  refine j_icmp_ge_t X (tgt := 35) dL_types_12 (by decide) (by decide) ?_
  refine j_iload_n X dL_types_35 rfl rfl (q := 1) rfl ?_
  refine j_bipush X dL_types_36 rfl (v := 8) (by decide) ?_
  refine j_icmp_ge_t X (tgt := 79) dL_types_38 (by decide) (by decide) ?_
  refine j_iload_n X dL_types_79 rfl rfl (q := 3) rfl ?_
  refine j_iconst X dL_types_80 rfl (v := 4) (by decide) ?_
  refine j_ishr X dL_types_81 rfl ?_
  refine j_bipush X dL_types_82 rfl (v := 41) (by decide) ?_
  refine j_callQ X hSt hZ (c_L_low l Z S h ((x) >>> ((4) &&& 31)) (41) (by decide)) lk_RL_89 mt_L_low ini_RL mc_L_low md_L_low ⟨Nat.le_of_ble_eq_true rfl, Nat.le_of_ble_eq_true rfl⟩ ⟨Nat.le_of_ble_eq_true rfl, Nat.le_of_ble_eq_true rfl⟩ rfl (Nat.le_of_ble_eq_true rfl) (as := [.int ((x) >>> ((4) &&& 31)), .int (41)]) (rest := []) rfl dL_types_84 rfl ?_
  refine j_topeq (y := (nI (u))) hu ?_
  refine j_bipush X dL_types_87 rfl (v := 20) (by decide) ?_
  refine j_isub X dL_types_89 rfl ?_
  refine j_istore X dL_types_90 rfl (by decide) (Ls2 := [(5, .int ((nI (u)) - (20))), (4, .int (0)), (3, .int (8)), (0, .ref (zA Z (6) (0) (0))), (1, .int (x)), (2, .int (3))]) rfl ?_
  refine j_aload_n X dL_types_92 rfl rfl (q := 3) rfl ?_
  refine j_bipush X dL_types_93 rfl (v := 97) (by decide) ?_
  refine j_callQW X hSt hZ (w_append l Z S (pAppS S (97)) h (97) _ (c_X5_append l Z S h (97) (by decide) (by decide) (by rw [h_S]; exact okI_nI (by omega) (by decide)) (by show (S 6 0 0 1).toNatClampNeg < 120; rw [h_S, nI_clamp (by omega)]; omega))) lk_RL_94 mt_L_append ini_RL mc_L_append md_L_append ⟨Nat.le_of_ble_eq_true rfl, Nat.le_of_ble_eq_true rfl⟩ ⟨Nat.le_of_ble_eq_true rfl, Nat.le_of_ble_eq_true rfl⟩ rfl (Nat.le_of_ble_eq_true rfl) (as := [.ref (zA Z (6) (0) (0)), .int (97)]) (rest := []) rfl dL_types_95 rfl ?_
  refine j_topeq (y := (nI (tl + 1))) (app_tl h_S (by omega)) ?_
  refine j_name (fun S1 eS1 => ?_)
  have h_S1 : S1 6 0 0 1 = nI (tl + 1) := by rw [eS1]; exact app_tl h_S (by omega)
  refine j_istore X dL_types_98 rfl (by decide) (Ls2 := [(4, .int (nI (tl + 1))), (5, .int ((nI (u)) - (20))), (3, .int (8)), (0, .ref (zA Z (6) (0) (0))), (1, .int (x)), (2, .int (3))]) rfl ?_
  refine j_iload X dL_types_100 rfl (q := 1) rfl ?_
  refine j_if_ge_f X dL_types_102 rfl (tgt := 113) (by decide) (Int32.not_le.mpr (ty_neg u hn).1) ?_
  refine j_aload_n X dL_types_105 rfl rfl (q := 3) rfl ?_
  refine j_bipush X dL_types_106 rfl (v := 45) (by decide) ?_
  refine j_callQW X hSt hZ (w_append l Z S1 (pAppS S1 (45)) h (45) _ (c_X5_append l Z S1 h (45) (by decide) (by decide) (by rw [h_S1]; exact okI_nI (by omega) (by decide)) (by show (S1 6 0 0 1).toNatClampNeg < 120; rw [h_S1, nI_clamp (by omega)]; omega))) lk_RL_94 mt_L_append ini_RL mc_L_append md_L_append ⟨Nat.le_of_ble_eq_true rfl, Nat.le_of_ble_eq_true rfl⟩ ⟨Nat.le_of_ble_eq_true rfl, Nat.le_of_ble_eq_true rfl⟩ rfl (Nat.le_of_ble_eq_true rfl) (as := [.ref (zA Z (6) (0) (0)), .int (45)]) (rest := []) rfl dL_types_108 rfl ?_
  refine j_topeq (y := (nI (tl + 2))) (app_tl h_S1 (by omega)) ?_
  refine j_name (fun S2 eS2 => ?_)
  have h_S2 : S2 6 0 0 1 = nI (tl + 2) := by rw [eS2]; exact app_tl h_S1 (by omega)
  refine j_istore X dL_types_111 rfl (by decide) (Ls2 := [(4, .int (nI (tl + 2))), (5, .int ((nI (u)) - (20))), (3, .int (8)), (0, .ref (zA Z (6) (0) (0))), (1, .int (x)), (2, .int (3))]) rfl ?_
  refine j_iload X dL_types_113 rfl (q := 1) rfl ?_
  refine j_if_ge_f X dL_types_115 rfl (tgt := 124) (by decide) (Int32.not_le.mpr (ty_neg u hn).1) ?_
  refine j_iload X dL_types_118 rfl (q := 1) rfl ?_
  refine j_ineg X dL_types_120 rfl ?_
  refine j_goto X (tgt := 126) dL_types_121 (by decide) ?_
  refine j_topeq (y := nI sz) (by rw [hsz]; exact (ty_neg u hn).2) ?_
  refine j_istore X dL_types_126 rfl (by decide) (Ls2 := [(6, .int (nI (sz))), (4, .int (nI (tl + 2))), (5, .int ((nI (u)) - (20))), (3, .int (8)), (0, .ref (zA Z (6) (0) (0))), (1, .int (x)), (2, .int (3))]) rfl ?_
  refine j_iload X dL_types_128 rfl (q := 0) rfl ?_
  refine j_bipush X dL_types_130 rfl (v := 9) (by decide) ?_
  refine j_icmp_le_f X dL_types_132 rfl (tgt := 149) (by decide) (nI_ge (a := 9) (by omega) (by omega)) ?_
  refine j_aload_n X dL_types_135 rfl rfl (q := 4) rfl ?_
  refine j_bipush X dL_types_136 rfl (v := 48) (by decide) ?_
  refine j_iload X dL_types_138 rfl (q := 0) rfl ?_
  refine j_bipush X dL_types_140 rfl (v := 10) (by decide) ?_
  refine j_idiv X dL_types_142 rfl (by decide) ?_
  refine j_iadd X dL_types_143 rfl ?_
  refine j_topeq (y := nI (48 + sz / 10)) (ty_div sz (by omega)) ?_
  refine j_callQW X hSt hZ (w_append l Z S2 (pAppS S2 (nI (48 + sz / 10))) h (nI (48 + sz / 10)) _ (c_X5_append l Z S2 h (nI (48 + sz / 10)) (nI_pos (by omega)) (nI_le (b := 127) (by omega) (by decide)) (by rw [h_S2]; exact okI_nI (by omega) (by decide)) (by show (S2 6 0 0 1).toNatClampNeg < 120; rw [h_S2, nI_clamp (by omega)]; omega))) lk_RL_94 mt_L_append ini_RL mc_L_append md_L_append ⟨Nat.le_of_ble_eq_true rfl, Nat.le_of_ble_eq_true rfl⟩ ⟨Nat.le_of_ble_eq_true rfl, Nat.le_of_ble_eq_true rfl⟩ rfl (Nat.le_of_ble_eq_true rfl) (as := [.ref (zA Z (6) (0) (0)), .int (nI (48 + sz / 10))]) (rest := []) rfl dL_types_144 rfl ?_
  refine j_topeq (y := (nI (tl + 3))) (app_tl h_S2 (by omega)) ?_
  refine j_name (fun S3 eS3 => ?_)
  have h_S3 : S3 6 0 0 1 = nI (tl + 3) := by rw [eS3]; exact app_tl h_S2 (by omega)
  refine j_istore X dL_types_147 rfl (by decide) (Ls2 := [(4, .int (nI (tl + 3))), (6, .int (nI (sz))), (5, .int ((nI (u)) - (20))), (3, .int (8)), (0, .ref (zA Z (6) (0) (0))), (1, .int (x)), (2, .int (3))]) rfl ?_
  refine j_aload_n X dL_types_149 rfl rfl (q := 4) rfl ?_
  refine j_bipush X dL_types_150 rfl (v := 48) (by decide) ?_
  refine j_iload X dL_types_152 rfl (q := 1) rfl ?_
  refine j_bipush X dL_types_154 rfl (v := 10) (by decide) ?_
  refine j_irem X dL_types_156 rfl (by decide) ?_
  refine j_topeq (y := nI ((sz) % 10)) (pk_rem (by omega) (by decide) (by decide)) ?_
  refine j_iadd X dL_types_157 rfl ?_
  refine j_topeq (y := nI (48 + ((sz) % 10))) (nI_add 48 ((sz) % 10)) ?_
  refine j_callQW X hSt hZ (w_append l Z S3 (pAppS S3 (nI (48 + ((sz) % 10)))) h (nI (48 + ((sz) % 10))) _ (c_X5_append l Z S3 h (nI (48 + ((sz) % 10))) (nI_pos (by omega)) (nI_le (b := 127) (by omega) (by decide)) (by rw [h_S3]; exact okI_nI (by omega) (by decide)) (by show (S3 6 0 0 1).toNatClampNeg < 120; rw [h_S3, nI_clamp (by omega)]; omega))) lk_RL_94 mt_L_append ini_RL mc_L_append md_L_append ⟨Nat.le_of_ble_eq_true rfl, Nat.le_of_ble_eq_true rfl⟩ ⟨Nat.le_of_ble_eq_true rfl, Nat.le_of_ble_eq_true rfl⟩ rfl (Nat.le_of_ble_eq_true rfl) (as := [.ref (zA Z (6) (0) (0)), .int (nI (48 + ((sz) % 10)))]) (rest := []) rfl dL_types_158 rfl ?_
  refine j_topeq (y := (nI (tl + 4))) (app_tl h_S3 (by omega)) ?_
  refine j_name (fun S4 eS4 => ?_)
  have h_S4 : S4 6 0 0 1 = nI (tl + 4) := by rw [eS4]; exact app_tl h_S3 (by omega)
  refine j_istore X dL_types_161 rfl (by decide) (Ls2 := [(4, .int (nI (tl + 4))), (6, .int (nI (sz))), (5, .int ((nI (u)) - (20))), (3, .int (8)), (0, .ref (zA Z (6) (0) (0))), (1, .int (x)), (2, .int (3))]) rfl ?_
  refine j_iload X dL_types_163 rfl (q := 0) rfl ?_
  refine j_if_le_f X dL_types_165 rfl (tgt := 177) (by decide) (nI_nle (by omega) (by omega)) ?_
  refine j_aload_n X dL_types_168 rfl rfl (q := 4) rfl ?_
  refine j_bipush X dL_types_169 rfl (v := 59) (by decide) ?_
  refine j_callQW X hSt hZ (w_append l Z S4 (pAppS S4 (59)) h (59) _ (c_X5_append l Z S4 h (59) (by decide) (by decide) (by rw [h_S4]; exact okI_nI (by omega) (by decide)) (by show (S4 6 0 0 1).toNatClampNeg < 120; rw [h_S4, nI_clamp (by omega)]; omega))) lk_RL_94 mt_L_append ini_RL mc_L_append md_L_append ⟨Nat.le_of_ble_eq_true rfl, Nat.le_of_ble_eq_true rfl⟩ ⟨Nat.le_of_ble_eq_true rfl, Nat.le_of_ble_eq_true rfl⟩ rfl (Nat.le_of_ble_eq_true rfl) (as := [.ref (zA Z (6) (0) (0)), .int (59)]) (rest := []) rfl dL_types_171 rfl ?_
  refine j_topeq (y := (nI (tl + 5))) (app_tl h_S4 (by omega)) ?_
  refine j_name (fun S5 eS5 => ?_)
  have h_S5 : S5 6 0 0 1 = nI (tl + 5) := by rw [eS5]; exact app_tl h_S4 (by omega)
  refine j_goto X (tgt := 178) dL_types_174 (by decide) ?_
  exact j_ret rfl (by subst eS1; subst eS2; subst eS3; subst eS4; subst eS5; rfl) rfl (K _ _ dL_types_178)
set_option maxRecDepth 100000 in
set_option maxHeartbeats 4000000 in
theorem ty_8n1 (l : Launch) (Z : wZ) (S : St) (h : Hl) (x : Int32) (tl : Nat) (h_S : S 6 0 0 1 = nI tl) (htl : tl + 5 ≤ 120) (hkd : pLow x 10 = 8) (u sz : Nat) (hu : pLow (x >>> (4 &&& 31)) 41 = nI u) (hn : u < 20) (hsz : sz = 20 - u) (h9 : sz ≤ 9) : Cq l yL_types (.code yL_types cL_types 7 (some .int)) 0 0 3 62 Z [.ref (zA Z (6) (0) (0)), .int (x), .int (3)] S h (nI (tl + 4)) (apL [97, 45, nI (48 + sz % 10), 59] S) h := by
  refine Cq.of rfl rfl rfl (Nat.le_of_ble_eq_true rfl) (fun p e s mi args below meth c A0 Q X hSt hZ K => ?_)
  refine j_at rfl rfl (Ls3 := [(0, .ref (zA Z (6) (0) (0))), (1, .int (x)), (2, .int (3))]) rfl rfl ?_
  refine j_iload_n X dL_types_0 rfl rfl (q := 1) rfl ?_
  refine j_bipush X dL_types_1 rfl (v := 10) (by decide) ?_
  refine j_callQ X hSt hZ (c_L_low l Z S h (x) (10) (by decide)) lk_RL_89 mt_L_low ini_RL mc_L_low md_L_low ⟨Nat.le_of_ble_eq_true rfl, Nat.le_of_ble_eq_true rfl⟩ ⟨Nat.le_of_ble_eq_true rfl, Nat.le_of_ble_eq_true rfl⟩ rfl (Nat.le_of_ble_eq_true rfl) (as := [.int (x), .int (10)]) (rest := []) rfl dL_types_3 rfl ?_
  refine j_topeq (y := (8)) hkd ?_
  refine j_istore_n X dL_types_6 rfl rfl (by decide) (Ls2 := [(3, .int (8)), (0, .ref (zA Z (6) (0) (0))), (1, .int (x)), (2, .int (3))]) rfl ?_
  refine j_iconst X dL_types_7 rfl (v := 0) (by decide) ?_
  refine j_istore X dL_types_8 rfl (by decide) (Ls2 := [(4, .int (0)), (3, .int (8)), (0, .ref (zA Z (6) (0) (0))), (1, .int (x)), (2, .int (3))]) rfl ?_
  refine j_iload_n X dL_types_10 rfl rfl (q := 1) rfl ?_
  refine j_iconst X dL_types_11 rfl (v := 2) (by decide) ?_
  refine j_icmp_ge_t X (tgt := 35) dL_types_12 (by decide) (by decide) ?_
  refine j_iload_n X dL_types_35 rfl rfl (q := 1) rfl ?_
  refine j_bipush X dL_types_36 rfl (v := 8) (by decide) ?_
  refine j_icmp_ge_t X (tgt := 79) dL_types_38 (by decide) (by decide) ?_
  refine j_iload_n X dL_types_79 rfl rfl (q := 3) rfl ?_
  refine j_iconst X dL_types_80 rfl (v := 4) (by decide) ?_
  refine j_ishr X dL_types_81 rfl ?_
  refine j_bipush X dL_types_82 rfl (v := 41) (by decide) ?_
  refine j_callQ X hSt hZ (c_L_low l Z S h ((x) >>> ((4) &&& 31)) (41) (by decide)) lk_RL_89 mt_L_low ini_RL mc_L_low md_L_low ⟨Nat.le_of_ble_eq_true rfl, Nat.le_of_ble_eq_true rfl⟩ ⟨Nat.le_of_ble_eq_true rfl, Nat.le_of_ble_eq_true rfl⟩ rfl (Nat.le_of_ble_eq_true rfl) (as := [.int ((x) >>> ((4) &&& 31)), .int (41)]) (rest := []) rfl dL_types_84 rfl ?_
  refine j_topeq (y := (nI (u))) hu ?_
  refine j_bipush X dL_types_87 rfl (v := 20) (by decide) ?_
  refine j_isub X dL_types_89 rfl ?_
  refine j_istore X dL_types_90 rfl (by decide) (Ls2 := [(5, .int ((nI (u)) - (20))), (4, .int (0)), (3, .int (8)), (0, .ref (zA Z (6) (0) (0))), (1, .int (x)), (2, .int (3))]) rfl ?_
  refine j_aload_n X dL_types_92 rfl rfl (q := 3) rfl ?_
  refine j_bipush X dL_types_93 rfl (v := 97) (by decide) ?_
  refine j_callQW X hSt hZ (w_append l Z S (pAppS S (97)) h (97) _ (c_X5_append l Z S h (97) (by decide) (by decide) (by rw [h_S]; exact okI_nI (by omega) (by decide)) (by show (S 6 0 0 1).toNatClampNeg < 120; rw [h_S, nI_clamp (by omega)]; omega))) lk_RL_94 mt_L_append ini_RL mc_L_append md_L_append ⟨Nat.le_of_ble_eq_true rfl, Nat.le_of_ble_eq_true rfl⟩ ⟨Nat.le_of_ble_eq_true rfl, Nat.le_of_ble_eq_true rfl⟩ rfl (Nat.le_of_ble_eq_true rfl) (as := [.ref (zA Z (6) (0) (0)), .int (97)]) (rest := []) rfl dL_types_95 rfl ?_
  refine j_topeq (y := (nI (tl + 1))) (app_tl h_S (by omega)) ?_
  refine j_name (fun S1 eS1 => ?_)
  have h_S1 : S1 6 0 0 1 = nI (tl + 1) := by rw [eS1]; exact app_tl h_S (by omega)
  refine j_istore X dL_types_98 rfl (by decide) (Ls2 := [(4, .int (nI (tl + 1))), (5, .int ((nI (u)) - (20))), (3, .int (8)), (0, .ref (zA Z (6) (0) (0))), (1, .int (x)), (2, .int (3))]) rfl ?_
  refine j_iload X dL_types_100 rfl (q := 1) rfl ?_
  refine j_if_ge_f X dL_types_102 rfl (tgt := 113) (by decide) (Int32.not_le.mpr (ty_neg u hn).1) ?_
  refine j_aload_n X dL_types_105 rfl rfl (q := 3) rfl ?_
  refine j_bipush X dL_types_106 rfl (v := 45) (by decide) ?_
  refine j_callQW X hSt hZ (w_append l Z S1 (pAppS S1 (45)) h (45) _ (c_X5_append l Z S1 h (45) (by decide) (by decide) (by rw [h_S1]; exact okI_nI (by omega) (by decide)) (by show (S1 6 0 0 1).toNatClampNeg < 120; rw [h_S1, nI_clamp (by omega)]; omega))) lk_RL_94 mt_L_append ini_RL mc_L_append md_L_append ⟨Nat.le_of_ble_eq_true rfl, Nat.le_of_ble_eq_true rfl⟩ ⟨Nat.le_of_ble_eq_true rfl, Nat.le_of_ble_eq_true rfl⟩ rfl (Nat.le_of_ble_eq_true rfl) (as := [.ref (zA Z (6) (0) (0)), .int (45)]) (rest := []) rfl dL_types_108 rfl ?_
  refine j_topeq (y := (nI (tl + 2))) (app_tl h_S1 (by omega)) ?_
  refine j_name (fun S2 eS2 => ?_)
  have h_S2 : S2 6 0 0 1 = nI (tl + 2) := by rw [eS2]; exact app_tl h_S1 (by omega)
  refine j_istore X dL_types_111 rfl (by decide) (Ls2 := [(4, .int (nI (tl + 2))), (5, .int ((nI (u)) - (20))), (3, .int (8)), (0, .ref (zA Z (6) (0) (0))), (1, .int (x)), (2, .int (3))]) rfl ?_
  refine j_iload X dL_types_113 rfl (q := 1) rfl ?_
  refine j_if_ge_f X dL_types_115 rfl (tgt := 124) (by decide) (Int32.not_le.mpr (ty_neg u hn).1) ?_
  refine j_iload X dL_types_118 rfl (q := 1) rfl ?_
  refine j_ineg X dL_types_120 rfl ?_
  refine j_goto X (tgt := 126) dL_types_121 (by decide) ?_
  refine j_topeq (y := nI sz) (by rw [hsz]; exact (ty_neg u hn).2) ?_
  refine j_istore X dL_types_126 rfl (by decide) (Ls2 := [(6, .int (nI (sz))), (4, .int (nI (tl + 2))), (5, .int ((nI (u)) - (20))), (3, .int (8)), (0, .ref (zA Z (6) (0) (0))), (1, .int (x)), (2, .int (3))]) rfl ?_
  refine j_iload X dL_types_128 rfl (q := 0) rfl ?_
  refine j_bipush X dL_types_130 rfl (v := 9) (by decide) ?_
  refine j_icmp_le_t X (tgt := 149) dL_types_132 (by decide) (nI_le (b := 9) (by omega) (by decide)) ?_
  refine j_aload_n X dL_types_149 rfl rfl (q := 4) rfl ?_
  refine j_bipush X dL_types_150 rfl (v := 48) (by decide) ?_
  refine j_iload X dL_types_152 rfl (q := 0) rfl ?_
  refine j_bipush X dL_types_154 rfl (v := 10) (by decide) ?_
  refine j_irem X dL_types_156 rfl (by decide) ?_
  refine j_topeq (y := nI ((sz) % 10)) (pk_rem (by omega) (by decide) (by decide)) ?_
  refine j_iadd X dL_types_157 rfl ?_
  refine j_topeq (y := nI (48 + ((sz) % 10))) (nI_add 48 ((sz) % 10)) ?_
  refine j_callQW X hSt hZ (w_append l Z S2 (pAppS S2 (nI (48 + ((sz) % 10)))) h (nI (48 + ((sz) % 10))) _ (c_X5_append l Z S2 h (nI (48 + ((sz) % 10))) (nI_pos (by omega)) (nI_le (b := 127) (by omega) (by decide)) (by rw [h_S2]; exact okI_nI (by omega) (by decide)) (by show (S2 6 0 0 1).toNatClampNeg < 120; rw [h_S2, nI_clamp (by omega)]; omega))) lk_RL_94 mt_L_append ini_RL mc_L_append md_L_append ⟨Nat.le_of_ble_eq_true rfl, Nat.le_of_ble_eq_true rfl⟩ ⟨Nat.le_of_ble_eq_true rfl, Nat.le_of_ble_eq_true rfl⟩ rfl (Nat.le_of_ble_eq_true rfl) (as := [.ref (zA Z (6) (0) (0)), .int (nI (48 + ((sz) % 10)))]) (rest := []) rfl dL_types_158 rfl ?_
  refine j_topeq (y := (nI (tl + 3))) (app_tl h_S2 (by omega)) ?_
  refine j_name (fun S3 eS3 => ?_)
  have h_S3 : S3 6 0 0 1 = nI (tl + 3) := by rw [eS3]; exact app_tl h_S2 (by omega)
  refine j_istore X dL_types_161 rfl (by decide) (Ls2 := [(4, .int (nI (tl + 3))), (6, .int (nI (sz))), (5, .int ((nI (u)) - (20))), (3, .int (8)), (0, .ref (zA Z (6) (0) (0))), (1, .int (x)), (2, .int (3))]) rfl ?_
  refine j_iload X dL_types_163 rfl (q := 0) rfl ?_
  refine j_if_le_f X dL_types_165 rfl (tgt := 177) (by decide) (nI_nle (by omega) (by omega)) ?_
  refine j_aload_n X dL_types_168 rfl rfl (q := 4) rfl ?_
  refine j_bipush X dL_types_169 rfl (v := 59) (by decide) ?_
  refine j_callQW X hSt hZ (w_append l Z S3 (pAppS S3 (59)) h (59) _ (c_X5_append l Z S3 h (59) (by decide) (by decide) (by rw [h_S3]; exact okI_nI (by omega) (by decide)) (by show (S3 6 0 0 1).toNatClampNeg < 120; rw [h_S3, nI_clamp (by omega)]; omega))) lk_RL_94 mt_L_append ini_RL mc_L_append md_L_append ⟨Nat.le_of_ble_eq_true rfl, Nat.le_of_ble_eq_true rfl⟩ ⟨Nat.le_of_ble_eq_true rfl, Nat.le_of_ble_eq_true rfl⟩ rfl (Nat.le_of_ble_eq_true rfl) (as := [.ref (zA Z (6) (0) (0)), .int (59)]) (rest := []) rfl dL_types_171 rfl ?_
  refine j_topeq (y := (nI (tl + 4))) (app_tl h_S3 (by omega)) ?_
  refine j_name (fun S4 eS4 => ?_)
  have h_S4 : S4 6 0 0 1 = nI (tl + 4) := by rw [eS4]; exact app_tl h_S3 (by omega)
  refine j_goto X (tgt := 178) dL_types_174 (by decide) ?_
  exact j_ret rfl (by subst eS1; subst eS2; subst eS3; subst eS4; rfl) rfl (K _ _ dL_types_178)
set_option maxRecDepth 100000 in
set_option maxHeartbeats 4000000 in
theorem ty_8p2 (l : Launch) (Z : wZ) (S : St) (h : Hl) (x : Int32) (tl : Nat) (h_S : S 6 0 0 1 = nI tl) (htl : tl + 5 ≤ 120) (hkd : pLow x 10 = 8) (u sz : Nat) (hu : pLow (x >>> (4 &&& 31)) 41 = nI u) (hsz : u = sz + 20) (h21 : sz < 21) (h9 : 9 < sz) : Cq l yL_types (.code yL_types cL_types 7 (some .int)) 0 0 3 62 Z [.ref (zA Z (6) (0) (0)), .int (x), .int (3)] S h (nI (tl + 4)) (apL [97, nI (48 + sz / 10), nI (48 + sz % 10), 59] S) h := by
  refine Cq.of rfl rfl rfl (Nat.le_of_ble_eq_true rfl) (fun p e s mi args below meth c A0 Q X hSt hZ K => ?_)
  refine j_at rfl rfl (Ls3 := [(0, .ref (zA Z (6) (0) (0))), (1, .int (x)), (2, .int (3))]) rfl rfl ?_
  refine j_iload_n X dL_types_0 rfl rfl (q := 1) rfl ?_
  refine j_bipush X dL_types_1 rfl (v := 10) (by decide) ?_
  refine j_callQ X hSt hZ (c_L_low l Z S h (x) (10) (by decide)) lk_RL_89 mt_L_low ini_RL mc_L_low md_L_low ⟨Nat.le_of_ble_eq_true rfl, Nat.le_of_ble_eq_true rfl⟩ ⟨Nat.le_of_ble_eq_true rfl, Nat.le_of_ble_eq_true rfl⟩ rfl (Nat.le_of_ble_eq_true rfl) (as := [.int (x), .int (10)]) (rest := []) rfl dL_types_3 rfl ?_
  refine j_topeq (y := (8)) hkd ?_
  refine j_istore_n X dL_types_6 rfl rfl (by decide) (Ls2 := [(3, .int (8)), (0, .ref (zA Z (6) (0) (0))), (1, .int (x)), (2, .int (3))]) rfl ?_
  refine j_iconst X dL_types_7 rfl (v := 0) (by decide) ?_
  refine j_istore X dL_types_8 rfl (by decide) (Ls2 := [(4, .int (0)), (3, .int (8)), (0, .ref (zA Z (6) (0) (0))), (1, .int (x)), (2, .int (3))]) rfl ?_
  refine j_iload_n X dL_types_10 rfl rfl (q := 1) rfl ?_
  refine j_iconst X dL_types_11 rfl (v := 2) (by decide) ?_
  refine j_icmp_ge_t X (tgt := 35) dL_types_12 (by decide) (by decide) ?_
  refine j_iload_n X dL_types_35 rfl rfl (q := 1) rfl ?_
  refine j_bipush X dL_types_36 rfl (v := 8) (by decide) ?_
  refine j_icmp_ge_t X (tgt := 79) dL_types_38 (by decide) (by decide) ?_
  refine j_iload_n X dL_types_79 rfl rfl (q := 3) rfl ?_
  refine j_iconst X dL_types_80 rfl (v := 4) (by decide) ?_
  refine j_ishr X dL_types_81 rfl ?_
  refine j_bipush X dL_types_82 rfl (v := 41) (by decide) ?_
  refine j_callQ X hSt hZ (c_L_low l Z S h ((x) >>> ((4) &&& 31)) (41) (by decide)) lk_RL_89 mt_L_low ini_RL mc_L_low md_L_low ⟨Nat.le_of_ble_eq_true rfl, Nat.le_of_ble_eq_true rfl⟩ ⟨Nat.le_of_ble_eq_true rfl, Nat.le_of_ble_eq_true rfl⟩ rfl (Nat.le_of_ble_eq_true rfl) (as := [.int ((x) >>> ((4) &&& 31)), .int (41)]) (rest := []) rfl dL_types_84 rfl ?_
  refine j_topeq (y := (nI (u))) hu ?_
  refine j_bipush X dL_types_87 rfl (v := 20) (by decide) ?_
  refine j_isub X dL_types_89 rfl ?_
  refine j_topeq (y := nI sz) (by rw [hsz]; exact (ty_pos sz (by omega)).1) ?_
  refine j_istore X dL_types_90 rfl (by decide) (Ls2 := [(5, .int (nI (sz))), (4, .int (0)), (3, .int (8)), (0, .ref (zA Z (6) (0) (0))), (1, .int (x)), (2, .int (3))]) rfl ?_
  refine j_aload_n X dL_types_92 rfl rfl (q := 3) rfl ?_
  refine j_bipush X dL_types_93 rfl (v := 97) (by decide) ?_
  refine j_callQW X hSt hZ (w_append l Z S (pAppS S (97)) h (97) _ (c_X5_append l Z S h (97) (by decide) (by decide) (by rw [h_S]; exact okI_nI (by omega) (by decide)) (by show (S 6 0 0 1).toNatClampNeg < 120; rw [h_S, nI_clamp (by omega)]; omega))) lk_RL_94 mt_L_append ini_RL mc_L_append md_L_append ⟨Nat.le_of_ble_eq_true rfl, Nat.le_of_ble_eq_true rfl⟩ ⟨Nat.le_of_ble_eq_true rfl, Nat.le_of_ble_eq_true rfl⟩ rfl (Nat.le_of_ble_eq_true rfl) (as := [.ref (zA Z (6) (0) (0)), .int (97)]) (rest := []) rfl dL_types_95 rfl ?_
  refine j_topeq (y := (nI (tl + 1))) (app_tl h_S (by omega)) ?_
  refine j_name (fun S1 eS1 => ?_)
  have h_S1 : S1 6 0 0 1 = nI (tl + 1) := by rw [eS1]; exact app_tl h_S (by omega)
  refine j_istore X dL_types_98 rfl (by decide) (Ls2 := [(4, .int (nI (tl + 1))), (5, .int (nI (sz))), (3, .int (8)), (0, .ref (zA Z (6) (0) (0))), (1, .int (x)), (2, .int (3))]) rfl ?_
  refine j_iload X dL_types_100 rfl (q := 1) rfl ?_
  refine j_if_ge_t X (tgt := 113) dL_types_102 (by decide) (nI_pos' (by omega)) ?_
  refine j_iload X dL_types_113 rfl (q := 1) rfl ?_
  refine j_if_ge_t X (tgt := 124) dL_types_115 (by decide) (nI_pos' (by omega)) ?_
  refine j_iload X dL_types_124 rfl (q := 1) rfl ?_
  refine j_istore X dL_types_126 rfl (by decide) (Ls2 := [(6, .int (nI (sz))), (4, .int (nI (tl + 1))), (5, .int (nI (sz))), (3, .int (8)), (0, .ref (zA Z (6) (0) (0))), (1, .int (x)), (2, .int (3))]) rfl ?_
  refine j_iload X dL_types_128 rfl (q := 0) rfl ?_
  refine j_bipush X dL_types_130 rfl (v := 9) (by decide) ?_
  refine j_icmp_le_f X dL_types_132 rfl (tgt := 149) (by decide) (nI_ge (a := 9) (by omega) (by omega)) ?_
  refine j_aload_n X dL_types_135 rfl rfl (q := 4) rfl ?_
  refine j_bipush X dL_types_136 rfl (v := 48) (by decide) ?_
  refine j_iload X dL_types_138 rfl (q := 0) rfl ?_
  refine j_bipush X dL_types_140 rfl (v := 10) (by decide) ?_
  refine j_idiv X dL_types_142 rfl (by decide) ?_
  refine j_iadd X dL_types_143 rfl ?_
  refine j_topeq (y := nI (48 + sz / 10)) (ty_div sz (by omega)) ?_
  refine j_callQW X hSt hZ (w_append l Z S1 (pAppS S1 (nI (48 + sz / 10))) h (nI (48 + sz / 10)) _ (c_X5_append l Z S1 h (nI (48 + sz / 10)) (nI_pos (by omega)) (nI_le (b := 127) (by omega) (by decide)) (by rw [h_S1]; exact okI_nI (by omega) (by decide)) (by show (S1 6 0 0 1).toNatClampNeg < 120; rw [h_S1, nI_clamp (by omega)]; omega))) lk_RL_94 mt_L_append ini_RL mc_L_append md_L_append ⟨Nat.le_of_ble_eq_true rfl, Nat.le_of_ble_eq_true rfl⟩ ⟨Nat.le_of_ble_eq_true rfl, Nat.le_of_ble_eq_true rfl⟩ rfl (Nat.le_of_ble_eq_true rfl) (as := [.ref (zA Z (6) (0) (0)), .int (nI (48 + sz / 10))]) (rest := []) rfl dL_types_144 rfl ?_
  refine j_topeq (y := (nI (tl + 2))) (app_tl h_S1 (by omega)) ?_
  refine j_name (fun S2 eS2 => ?_)
  have h_S2 : S2 6 0 0 1 = nI (tl + 2) := by rw [eS2]; exact app_tl h_S1 (by omega)
  refine j_istore X dL_types_147 rfl (by decide) (Ls2 := [(4, .int (nI (tl + 2))), (6, .int (nI (sz))), (5, .int (nI (sz))), (3, .int (8)), (0, .ref (zA Z (6) (0) (0))), (1, .int (x)), (2, .int (3))]) rfl ?_
  refine j_aload_n X dL_types_149 rfl rfl (q := 4) rfl ?_
  refine j_bipush X dL_types_150 rfl (v := 48) (by decide) ?_
  refine j_iload X dL_types_152 rfl (q := 1) rfl ?_
  refine j_bipush X dL_types_154 rfl (v := 10) (by decide) ?_
  refine j_irem X dL_types_156 rfl (by decide) ?_
  refine j_topeq (y := nI ((sz) % 10)) (pk_rem (by omega) (by decide) (by decide)) ?_
  refine j_iadd X dL_types_157 rfl ?_
  refine j_topeq (y := nI (48 + ((sz) % 10))) (nI_add 48 ((sz) % 10)) ?_
  refine j_callQW X hSt hZ (w_append l Z S2 (pAppS S2 (nI (48 + ((sz) % 10)))) h (nI (48 + ((sz) % 10))) _ (c_X5_append l Z S2 h (nI (48 + ((sz) % 10))) (nI_pos (by omega)) (nI_le (b := 127) (by omega) (by decide)) (by rw [h_S2]; exact okI_nI (by omega) (by decide)) (by show (S2 6 0 0 1).toNatClampNeg < 120; rw [h_S2, nI_clamp (by omega)]; omega))) lk_RL_94 mt_L_append ini_RL mc_L_append md_L_append ⟨Nat.le_of_ble_eq_true rfl, Nat.le_of_ble_eq_true rfl⟩ ⟨Nat.le_of_ble_eq_true rfl, Nat.le_of_ble_eq_true rfl⟩ rfl (Nat.le_of_ble_eq_true rfl) (as := [.ref (zA Z (6) (0) (0)), .int (nI (48 + ((sz) % 10)))]) (rest := []) rfl dL_types_158 rfl ?_
  refine j_topeq (y := (nI (tl + 3))) (app_tl h_S2 (by omega)) ?_
  refine j_name (fun S3 eS3 => ?_)
  have h_S3 : S3 6 0 0 1 = nI (tl + 3) := by rw [eS3]; exact app_tl h_S2 (by omega)
  refine j_istore X dL_types_161 rfl (by decide) (Ls2 := [(4, .int (nI (tl + 3))), (6, .int (nI (sz))), (5, .int (nI (sz))), (3, .int (8)), (0, .ref (zA Z (6) (0) (0))), (1, .int (x)), (2, .int (3))]) rfl ?_
  refine j_iload X dL_types_163 rfl (q := 0) rfl ?_
  refine j_if_le_f X dL_types_165 rfl (tgt := 177) (by decide) (nI_nle (by omega) (by omega)) ?_
  refine j_aload_n X dL_types_168 rfl rfl (q := 4) rfl ?_
  refine j_bipush X dL_types_169 rfl (v := 59) (by decide) ?_
  refine j_callQW X hSt hZ (w_append l Z S3 (pAppS S3 (59)) h (59) _ (c_X5_append l Z S3 h (59) (by decide) (by decide) (by rw [h_S3]; exact okI_nI (by omega) (by decide)) (by show (S3 6 0 0 1).toNatClampNeg < 120; rw [h_S3, nI_clamp (by omega)]; omega))) lk_RL_94 mt_L_append ini_RL mc_L_append md_L_append ⟨Nat.le_of_ble_eq_true rfl, Nat.le_of_ble_eq_true rfl⟩ ⟨Nat.le_of_ble_eq_true rfl, Nat.le_of_ble_eq_true rfl⟩ rfl (Nat.le_of_ble_eq_true rfl) (as := [.ref (zA Z (6) (0) (0)), .int (59)]) (rest := []) rfl dL_types_171 rfl ?_
  refine j_topeq (y := (nI (tl + 4))) (app_tl h_S3 (by omega)) ?_
  refine j_name (fun S4 eS4 => ?_)
  have h_S4 : S4 6 0 0 1 = nI (tl + 4) := by rw [eS4]; exact app_tl h_S3 (by omega)
  refine j_goto X (tgt := 178) dL_types_174 (by decide) ?_
  exact j_ret rfl (by subst eS1; subst eS2; subst eS3; subst eS4; rfl) rfl (K _ _ dL_types_178)
set_option maxRecDepth 100000 in
set_option maxHeartbeats 4000000 in
theorem ty_8p1 (l : Launch) (Z : wZ) (S : St) (h : Hl) (x : Int32) (tl : Nat) (h_S : S 6 0 0 1 = nI tl) (htl : tl + 5 ≤ 120) (hkd : pLow x 10 = 8) (u sz : Nat) (hu : pLow (x >>> (4 &&& 31)) 41 = nI u) (hsz : u = sz + 20) (h21 : sz < 21) (h9 : sz ≤ 9) : Cq l yL_types (.code yL_types cL_types 7 (some .int)) 0 0 3 62 Z [.ref (zA Z (6) (0) (0)), .int (x), .int (3)] S h (nI (tl + 3)) (apL [97, nI (48 + sz % 10), 59] S) h := by
  refine Cq.of rfl rfl rfl (Nat.le_of_ble_eq_true rfl) (fun p e s mi args below meth c A0 Q X hSt hZ K => ?_)
  refine j_at rfl rfl (Ls3 := [(0, .ref (zA Z (6) (0) (0))), (1, .int (x)), (2, .int (3))]) rfl rfl ?_
  refine j_iload_n X dL_types_0 rfl rfl (q := 1) rfl ?_
  refine j_bipush X dL_types_1 rfl (v := 10) (by decide) ?_
  refine j_callQ X hSt hZ (c_L_low l Z S h (x) (10) (by decide)) lk_RL_89 mt_L_low ini_RL mc_L_low md_L_low ⟨Nat.le_of_ble_eq_true rfl, Nat.le_of_ble_eq_true rfl⟩ ⟨Nat.le_of_ble_eq_true rfl, Nat.le_of_ble_eq_true rfl⟩ rfl (Nat.le_of_ble_eq_true rfl) (as := [.int (x), .int (10)]) (rest := []) rfl dL_types_3 rfl ?_
  refine j_topeq (y := (8)) hkd ?_
  refine j_istore_n X dL_types_6 rfl rfl (by decide) (Ls2 := [(3, .int (8)), (0, .ref (zA Z (6) (0) (0))), (1, .int (x)), (2, .int (3))]) rfl ?_
  refine j_iconst X dL_types_7 rfl (v := 0) (by decide) ?_
  refine j_istore X dL_types_8 rfl (by decide) (Ls2 := [(4, .int (0)), (3, .int (8)), (0, .ref (zA Z (6) (0) (0))), (1, .int (x)), (2, .int (3))]) rfl ?_
  refine j_iload_n X dL_types_10 rfl rfl (q := 1) rfl ?_
  refine j_iconst X dL_types_11 rfl (v := 2) (by decide) ?_
  refine j_icmp_ge_t X (tgt := 35) dL_types_12 (by decide) (by decide) ?_
  refine j_iload_n X dL_types_35 rfl rfl (q := 1) rfl ?_
  refine j_bipush X dL_types_36 rfl (v := 8) (by decide) ?_
  refine j_icmp_ge_t X (tgt := 79) dL_types_38 (by decide) (by decide) ?_
  refine j_iload_n X dL_types_79 rfl rfl (q := 3) rfl ?_
  refine j_iconst X dL_types_80 rfl (v := 4) (by decide) ?_
  refine j_ishr X dL_types_81 rfl ?_
  refine j_bipush X dL_types_82 rfl (v := 41) (by decide) ?_
  refine j_callQ X hSt hZ (c_L_low l Z S h ((x) >>> ((4) &&& 31)) (41) (by decide)) lk_RL_89 mt_L_low ini_RL mc_L_low md_L_low ⟨Nat.le_of_ble_eq_true rfl, Nat.le_of_ble_eq_true rfl⟩ ⟨Nat.le_of_ble_eq_true rfl, Nat.le_of_ble_eq_true rfl⟩ rfl (Nat.le_of_ble_eq_true rfl) (as := [.int ((x) >>> ((4) &&& 31)), .int (41)]) (rest := []) rfl dL_types_84 rfl ?_
  refine j_topeq (y := (nI (u))) hu ?_
  refine j_bipush X dL_types_87 rfl (v := 20) (by decide) ?_
  refine j_isub X dL_types_89 rfl ?_
  refine j_topeq (y := nI sz) (by rw [hsz]; exact (ty_pos sz (by omega)).1) ?_
  refine j_istore X dL_types_90 rfl (by decide) (Ls2 := [(5, .int (nI (sz))), (4, .int (0)), (3, .int (8)), (0, .ref (zA Z (6) (0) (0))), (1, .int (x)), (2, .int (3))]) rfl ?_
  refine j_aload_n X dL_types_92 rfl rfl (q := 3) rfl ?_
  refine j_bipush X dL_types_93 rfl (v := 97) (by decide) ?_
  refine j_callQW X hSt hZ (w_append l Z S (pAppS S (97)) h (97) _ (c_X5_append l Z S h (97) (by decide) (by decide) (by rw [h_S]; exact okI_nI (by omega) (by decide)) (by show (S 6 0 0 1).toNatClampNeg < 120; rw [h_S, nI_clamp (by omega)]; omega))) lk_RL_94 mt_L_append ini_RL mc_L_append md_L_append ⟨Nat.le_of_ble_eq_true rfl, Nat.le_of_ble_eq_true rfl⟩ ⟨Nat.le_of_ble_eq_true rfl, Nat.le_of_ble_eq_true rfl⟩ rfl (Nat.le_of_ble_eq_true rfl) (as := [.ref (zA Z (6) (0) (0)), .int (97)]) (rest := []) rfl dL_types_95 rfl ?_
  refine j_topeq (y := (nI (tl + 1))) (app_tl h_S (by omega)) ?_
  refine j_name (fun S1 eS1 => ?_)
  have h_S1 : S1 6 0 0 1 = nI (tl + 1) := by rw [eS1]; exact app_tl h_S (by omega)
  refine j_istore X dL_types_98 rfl (by decide) (Ls2 := [(4, .int (nI (tl + 1))), (5, .int (nI (sz))), (3, .int (8)), (0, .ref (zA Z (6) (0) (0))), (1, .int (x)), (2, .int (3))]) rfl ?_
  refine j_iload X dL_types_100 rfl (q := 1) rfl ?_
  refine j_if_ge_t X (tgt := 113) dL_types_102 (by decide) (nI_pos' (by omega)) ?_
  refine j_iload X dL_types_113 rfl (q := 1) rfl ?_
  refine j_if_ge_t X (tgt := 124) dL_types_115 (by decide) (nI_pos' (by omega)) ?_
  refine j_iload X dL_types_124 rfl (q := 1) rfl ?_
  refine j_istore X dL_types_126 rfl (by decide) (Ls2 := [(6, .int (nI (sz))), (4, .int (nI (tl + 1))), (5, .int (nI (sz))), (3, .int (8)), (0, .ref (zA Z (6) (0) (0))), (1, .int (x)), (2, .int (3))]) rfl ?_
  refine j_iload X dL_types_128 rfl (q := 0) rfl ?_
  refine j_bipush X dL_types_130 rfl (v := 9) (by decide) ?_
  refine j_icmp_le_t X (tgt := 149) dL_types_132 (by decide) (nI_le (b := 9) (by omega) (by decide)) ?_
  refine j_aload_n X dL_types_149 rfl rfl (q := 4) rfl ?_
  refine j_bipush X dL_types_150 rfl (v := 48) (by decide) ?_
  refine j_iload X dL_types_152 rfl (q := 0) rfl ?_
  refine j_bipush X dL_types_154 rfl (v := 10) (by decide) ?_
  refine j_irem X dL_types_156 rfl (by decide) ?_
  refine j_topeq (y := nI ((sz) % 10)) (pk_rem (by omega) (by decide) (by decide)) ?_
  refine j_iadd X dL_types_157 rfl ?_
  refine j_topeq (y := nI (48 + ((sz) % 10))) (nI_add 48 ((sz) % 10)) ?_
  refine j_callQW X hSt hZ (w_append l Z S1 (pAppS S1 (nI (48 + ((sz) % 10)))) h (nI (48 + ((sz) % 10))) _ (c_X5_append l Z S1 h (nI (48 + ((sz) % 10))) (nI_pos (by omega)) (nI_le (b := 127) (by omega) (by decide)) (by rw [h_S1]; exact okI_nI (by omega) (by decide)) (by show (S1 6 0 0 1).toNatClampNeg < 120; rw [h_S1, nI_clamp (by omega)]; omega))) lk_RL_94 mt_L_append ini_RL mc_L_append md_L_append ⟨Nat.le_of_ble_eq_true rfl, Nat.le_of_ble_eq_true rfl⟩ ⟨Nat.le_of_ble_eq_true rfl, Nat.le_of_ble_eq_true rfl⟩ rfl (Nat.le_of_ble_eq_true rfl) (as := [.ref (zA Z (6) (0) (0)), .int (nI (48 + ((sz) % 10)))]) (rest := []) rfl dL_types_158 rfl ?_
  refine j_topeq (y := (nI (tl + 2))) (app_tl h_S1 (by omega)) ?_
  refine j_name (fun S2 eS2 => ?_)
  have h_S2 : S2 6 0 0 1 = nI (tl + 2) := by rw [eS2]; exact app_tl h_S1 (by omega)
  refine j_istore X dL_types_161 rfl (by decide) (Ls2 := [(4, .int (nI (tl + 2))), (6, .int (nI (sz))), (5, .int (nI (sz))), (3, .int (8)), (0, .ref (zA Z (6) (0) (0))), (1, .int (x)), (2, .int (3))]) rfl ?_
  refine j_iload X dL_types_163 rfl (q := 0) rfl ?_
  refine j_if_le_f X dL_types_165 rfl (tgt := 177) (by decide) (nI_nle (by omega) (by omega)) ?_
  refine j_aload_n X dL_types_168 rfl rfl (q := 4) rfl ?_
  refine j_bipush X dL_types_169 rfl (v := 59) (by decide) ?_
  refine j_callQW X hSt hZ (w_append l Z S2 (pAppS S2 (59)) h (59) _ (c_X5_append l Z S2 h (59) (by decide) (by decide) (by rw [h_S2]; exact okI_nI (by omega) (by decide)) (by show (S2 6 0 0 1).toNatClampNeg < 120; rw [h_S2, nI_clamp (by omega)]; omega))) lk_RL_94 mt_L_append ini_RL mc_L_append md_L_append ⟨Nat.le_of_ble_eq_true rfl, Nat.le_of_ble_eq_true rfl⟩ ⟨Nat.le_of_ble_eq_true rfl, Nat.le_of_ble_eq_true rfl⟩ rfl (Nat.le_of_ble_eq_true rfl) (as := [.ref (zA Z (6) (0) (0)), .int (59)]) (rest := []) rfl dL_types_171 rfl ?_
  refine j_topeq (y := (nI (tl + 3))) (app_tl h_S2 (by omega)) ?_
  refine j_name (fun S3 eS3 => ?_)
  have h_S3 : S3 6 0 0 1 = nI (tl + 3) := by rw [eS3]; exact app_tl h_S2 (by omega)
  refine j_goto X (tgt := 178) dL_types_174 (by decide) ?_
  exact j_ret rfl (by subst eS1; subst eS2; subst eS3; rfl) rfl (K _ _ dL_types_178)
set_option maxRecDepth 100000 in
set_option maxHeartbeats 4000000 in
theorem ty_9n2 (l : Launch) (Z : wZ) (S : St) (h : Hl) (x : Int32) (tl : Nat) (h_S : S 6 0 0 1 = nI tl) (htl : tl + 5 ≤ 120) (hkd : pLow x 10 = 9) (u sz : Nat) (hu : pLow (x >>> (4 &&& 31)) 41 = nI u) (hn : u < 20) (hsz : sz = 20 - u) (h9 : 9 < sz) : Cq l yL_types (.code yL_types cL_types 7 (some .int)) 0 0 3 62 Z [.ref (zA Z (6) (0) (0)), .int (x), .int (3)] S h (nI (tl + 5)) (apL [97, 45, nI (48 + sz / 10), nI (48 + sz % 10), 59] S) h := by
  refine Cq.of rfl rfl rfl (Nat.le_of_ble_eq_true rfl) (fun p e s mi args below meth c A0 Q X hSt hZ K => ?_)
  refine j_at rfl rfl (Ls3 := [(0, .ref (zA Z (6) (0) (0))), (1, .int (x)), (2, .int (3))]) rfl rfl ?_
  refine j_iload_n X dL_types_0 rfl rfl (q := 1) rfl ?_
  refine j_bipush X dL_types_1 rfl (v := 10) (by decide) ?_
  refine j_callQ X hSt hZ (c_L_low l Z S h (x) (10) (by decide)) lk_RL_89 mt_L_low ini_RL mc_L_low md_L_low ⟨Nat.le_of_ble_eq_true rfl, Nat.le_of_ble_eq_true rfl⟩ ⟨Nat.le_of_ble_eq_true rfl, Nat.le_of_ble_eq_true rfl⟩ rfl (Nat.le_of_ble_eq_true rfl) (as := [.int (x), .int (10)]) (rest := []) rfl dL_types_3 rfl ?_
  refine j_topeq (y := (9)) hkd ?_
  refine j_istore_n X dL_types_6 rfl rfl (by decide) (Ls2 := [(3, .int (9)), (0, .ref (zA Z (6) (0) (0))), (1, .int (x)), (2, .int (3))]) rfl ?_
  refine j_iconst X dL_types_7 rfl (v := 0) (by decide) ?_
  refine j_istore X dL_types_8 rfl (by decide) (Ls2 := [(4, .int (0)), (3, .int (9)), (0, .ref (zA Z (6) (0) (0))), (1, .int (x)), (2, .int (3))]) rfl ?_
  refine j_iload_n X dL_types_10 rfl rfl (q := 1) rfl ?_
  refine j_iconst X dL_types_11 rfl (v := 2) (by decide) ?_
  refine j_icmp_ge_t X (tgt := 35) dL_types_12 (by decide) (by decide) ?_
  refine j_iload_n X dL_types_35 rfl rfl (q := 1) rfl ?_
  refine j_bipush X dL_types_36 rfl (v := 8) (by decide) ?_
  refine j_icmp_ge_t X (tgt := 79) dL_types_38 (by decide) (by decide) ?_
  refine j_iload_n X dL_types_79 rfl rfl (q := 3) rfl ?_
  refine j_iconst X dL_types_80 rfl (v := 4) (by decide) ?_
  refine j_ishr X dL_types_81 rfl ?_
  refine j_bipush X dL_types_82 rfl (v := 41) (by decide) ?_
  refine j_callQ X hSt hZ (c_L_low l Z S h ((x) >>> ((4) &&& 31)) (41) (by decide)) lk_RL_89 mt_L_low ini_RL mc_L_low md_L_low ⟨Nat.le_of_ble_eq_true rfl, Nat.le_of_ble_eq_true rfl⟩ ⟨Nat.le_of_ble_eq_true rfl, Nat.le_of_ble_eq_true rfl⟩ rfl (Nat.le_of_ble_eq_true rfl) (as := [.int ((x) >>> ((4) &&& 31)), .int (41)]) (rest := []) rfl dL_types_84 rfl ?_
  refine j_topeq (y := (nI (u))) hu ?_
  refine j_bipush X dL_types_87 rfl (v := 20) (by decide) ?_
  refine j_isub X dL_types_89 rfl ?_
  refine j_istore X dL_types_90 rfl (by decide) (Ls2 := [(5, .int ((nI (u)) - (20))), (4, .int (0)), (3, .int (9)), (0, .ref (zA Z (6) (0) (0))), (1, .int (x)), (2, .int (3))]) rfl ?_
  refine j_aload_n X dL_types_92 rfl rfl (q := 3) rfl ?_
  refine j_bipush X dL_types_93 rfl (v := 97) (by decide) ?_
  refine j_callQW X hSt hZ (w_append l Z S (pAppS S (97)) h (97) _ (c_X5_append l Z S h (97) (by decide) (by decide) (by rw [h_S]; exact okI_nI (by omega) (by decide)) (by show (S 6 0 0 1).toNatClampNeg < 120; rw [h_S, nI_clamp (by omega)]; omega))) lk_RL_94 mt_L_append ini_RL mc_L_append md_L_append ⟨Nat.le_of_ble_eq_true rfl, Nat.le_of_ble_eq_true rfl⟩ ⟨Nat.le_of_ble_eq_true rfl, Nat.le_of_ble_eq_true rfl⟩ rfl (Nat.le_of_ble_eq_true rfl) (as := [.ref (zA Z (6) (0) (0)), .int (97)]) (rest := []) rfl dL_types_95 rfl ?_
  refine j_topeq (y := (nI (tl + 1))) (app_tl h_S (by omega)) ?_
  refine j_name (fun S1 eS1 => ?_)
  have h_S1 : S1 6 0 0 1 = nI (tl + 1) := by rw [eS1]; exact app_tl h_S (by omega)
  refine j_istore X dL_types_98 rfl (by decide) (Ls2 := [(4, .int (nI (tl + 1))), (5, .int ((nI (u)) - (20))), (3, .int (9)), (0, .ref (zA Z (6) (0) (0))), (1, .int (x)), (2, .int (3))]) rfl ?_
  refine j_iload X dL_types_100 rfl (q := 1) rfl ?_
  refine j_if_ge_f X dL_types_102 rfl (tgt := 113) (by decide) (Int32.not_le.mpr (ty_neg u hn).1) ?_
  refine j_aload_n X dL_types_105 rfl rfl (q := 3) rfl ?_
  refine j_bipush X dL_types_106 rfl (v := 45) (by decide) ?_
  refine j_callQW X hSt hZ (w_append l Z S1 (pAppS S1 (45)) h (45) _ (c_X5_append l Z S1 h (45) (by decide) (by decide) (by rw [h_S1]; exact okI_nI (by omega) (by decide)) (by show (S1 6 0 0 1).toNatClampNeg < 120; rw [h_S1, nI_clamp (by omega)]; omega))) lk_RL_94 mt_L_append ini_RL mc_L_append md_L_append ⟨Nat.le_of_ble_eq_true rfl, Nat.le_of_ble_eq_true rfl⟩ ⟨Nat.le_of_ble_eq_true rfl, Nat.le_of_ble_eq_true rfl⟩ rfl (Nat.le_of_ble_eq_true rfl) (as := [.ref (zA Z (6) (0) (0)), .int (45)]) (rest := []) rfl dL_types_108 rfl ?_
  refine j_topeq (y := (nI (tl + 2))) (app_tl h_S1 (by omega)) ?_
  refine j_name (fun S2 eS2 => ?_)
  have h_S2 : S2 6 0 0 1 = nI (tl + 2) := by rw [eS2]; exact app_tl h_S1 (by omega)
  refine j_istore X dL_types_111 rfl (by decide) (Ls2 := [(4, .int (nI (tl + 2))), (5, .int ((nI (u)) - (20))), (3, .int (9)), (0, .ref (zA Z (6) (0) (0))), (1, .int (x)), (2, .int (3))]) rfl ?_
  refine j_iload X dL_types_113 rfl (q := 1) rfl ?_
  refine j_if_ge_f X dL_types_115 rfl (tgt := 124) (by decide) (Int32.not_le.mpr (ty_neg u hn).1) ?_
  refine j_iload X dL_types_118 rfl (q := 1) rfl ?_
  refine j_ineg X dL_types_120 rfl ?_
  refine j_goto X (tgt := 126) dL_types_121 (by decide) ?_
  refine j_topeq (y := nI sz) (by rw [hsz]; exact (ty_neg u hn).2) ?_
  refine j_istore X dL_types_126 rfl (by decide) (Ls2 := [(6, .int (nI (sz))), (4, .int (nI (tl + 2))), (5, .int ((nI (u)) - (20))), (3, .int (9)), (0, .ref (zA Z (6) (0) (0))), (1, .int (x)), (2, .int (3))]) rfl ?_
  refine j_iload X dL_types_128 rfl (q := 0) rfl ?_
  refine j_bipush X dL_types_130 rfl (v := 9) (by decide) ?_
  refine j_icmp_le_f X dL_types_132 rfl (tgt := 149) (by decide) (nI_ge (a := 9) (by omega) (by omega)) ?_
  refine j_aload_n X dL_types_135 rfl rfl (q := 4) rfl ?_
  refine j_bipush X dL_types_136 rfl (v := 48) (by decide) ?_
  refine j_iload X dL_types_138 rfl (q := 0) rfl ?_
  refine j_bipush X dL_types_140 rfl (v := 10) (by decide) ?_
  refine j_idiv X dL_types_142 rfl (by decide) ?_
  refine j_iadd X dL_types_143 rfl ?_
  refine j_topeq (y := nI (48 + sz / 10)) (ty_div sz (by omega)) ?_
  refine j_callQW X hSt hZ (w_append l Z S2 (pAppS S2 (nI (48 + sz / 10))) h (nI (48 + sz / 10)) _ (c_X5_append l Z S2 h (nI (48 + sz / 10)) (nI_pos (by omega)) (nI_le (b := 127) (by omega) (by decide)) (by rw [h_S2]; exact okI_nI (by omega) (by decide)) (by show (S2 6 0 0 1).toNatClampNeg < 120; rw [h_S2, nI_clamp (by omega)]; omega))) lk_RL_94 mt_L_append ini_RL mc_L_append md_L_append ⟨Nat.le_of_ble_eq_true rfl, Nat.le_of_ble_eq_true rfl⟩ ⟨Nat.le_of_ble_eq_true rfl, Nat.le_of_ble_eq_true rfl⟩ rfl (Nat.le_of_ble_eq_true rfl) (as := [.ref (zA Z (6) (0) (0)), .int (nI (48 + sz / 10))]) (rest := []) rfl dL_types_144 rfl ?_
  refine j_topeq (y := (nI (tl + 3))) (app_tl h_S2 (by omega)) ?_
  refine j_name (fun S3 eS3 => ?_)
  have h_S3 : S3 6 0 0 1 = nI (tl + 3) := by rw [eS3]; exact app_tl h_S2 (by omega)
  refine j_istore X dL_types_147 rfl (by decide) (Ls2 := [(4, .int (nI (tl + 3))), (6, .int (nI (sz))), (5, .int ((nI (u)) - (20))), (3, .int (9)), (0, .ref (zA Z (6) (0) (0))), (1, .int (x)), (2, .int (3))]) rfl ?_
  refine j_aload_n X dL_types_149 rfl rfl (q := 4) rfl ?_
  refine j_bipush X dL_types_150 rfl (v := 48) (by decide) ?_
  refine j_iload X dL_types_152 rfl (q := 1) rfl ?_
  refine j_bipush X dL_types_154 rfl (v := 10) (by decide) ?_
  refine j_irem X dL_types_156 rfl (by decide) ?_
  refine j_topeq (y := nI ((sz) % 10)) (pk_rem (by omega) (by decide) (by decide)) ?_
  refine j_iadd X dL_types_157 rfl ?_
  refine j_topeq (y := nI (48 + ((sz) % 10))) (nI_add 48 ((sz) % 10)) ?_
  refine j_callQW X hSt hZ (w_append l Z S3 (pAppS S3 (nI (48 + ((sz) % 10)))) h (nI (48 + ((sz) % 10))) _ (c_X5_append l Z S3 h (nI (48 + ((sz) % 10))) (nI_pos (by omega)) (nI_le (b := 127) (by omega) (by decide)) (by rw [h_S3]; exact okI_nI (by omega) (by decide)) (by show (S3 6 0 0 1).toNatClampNeg < 120; rw [h_S3, nI_clamp (by omega)]; omega))) lk_RL_94 mt_L_append ini_RL mc_L_append md_L_append ⟨Nat.le_of_ble_eq_true rfl, Nat.le_of_ble_eq_true rfl⟩ ⟨Nat.le_of_ble_eq_true rfl, Nat.le_of_ble_eq_true rfl⟩ rfl (Nat.le_of_ble_eq_true rfl) (as := [.ref (zA Z (6) (0) (0)), .int (nI (48 + ((sz) % 10)))]) (rest := []) rfl dL_types_158 rfl ?_
  refine j_topeq (y := (nI (tl + 4))) (app_tl h_S3 (by omega)) ?_
  refine j_name (fun S4 eS4 => ?_)
  have h_S4 : S4 6 0 0 1 = nI (tl + 4) := by rw [eS4]; exact app_tl h_S3 (by omega)
  refine j_istore X dL_types_161 rfl (by decide) (Ls2 := [(4, .int (nI (tl + 4))), (6, .int (nI (sz))), (5, .int ((nI (u)) - (20))), (3, .int (9)), (0, .ref (zA Z (6) (0) (0))), (1, .int (x)), (2, .int (3))]) rfl ?_
  refine j_iload X dL_types_163 rfl (q := 0) rfl ?_
  refine j_if_le_f X dL_types_165 rfl (tgt := 177) (by decide) (nI_nle (by omega) (by omega)) ?_
  refine j_aload_n X dL_types_168 rfl rfl (q := 4) rfl ?_
  refine j_bipush X dL_types_169 rfl (v := 59) (by decide) ?_
  refine j_callQW X hSt hZ (w_append l Z S4 (pAppS S4 (59)) h (59) _ (c_X5_append l Z S4 h (59) (by decide) (by decide) (by rw [h_S4]; exact okI_nI (by omega) (by decide)) (by show (S4 6 0 0 1).toNatClampNeg < 120; rw [h_S4, nI_clamp (by omega)]; omega))) lk_RL_94 mt_L_append ini_RL mc_L_append md_L_append ⟨Nat.le_of_ble_eq_true rfl, Nat.le_of_ble_eq_true rfl⟩ ⟨Nat.le_of_ble_eq_true rfl, Nat.le_of_ble_eq_true rfl⟩ rfl (Nat.le_of_ble_eq_true rfl) (as := [.ref (zA Z (6) (0) (0)), .int (59)]) (rest := []) rfl dL_types_171 rfl ?_
  refine j_topeq (y := (nI (tl + 5))) (app_tl h_S4 (by omega)) ?_
  refine j_name (fun S5 eS5 => ?_)
  have h_S5 : S5 6 0 0 1 = nI (tl + 5) := by rw [eS5]; exact app_tl h_S4 (by omega)
  refine j_goto X (tgt := 178) dL_types_174 (by decide) ?_
  exact j_ret rfl (by subst eS1; subst eS2; subst eS3; subst eS4; subst eS5; rfl) rfl (K _ _ dL_types_178)
set_option maxRecDepth 100000 in
set_option maxHeartbeats 4000000 in
theorem ty_9n1 (l : Launch) (Z : wZ) (S : St) (h : Hl) (x : Int32) (tl : Nat) (h_S : S 6 0 0 1 = nI tl) (htl : tl + 5 ≤ 120) (hkd : pLow x 10 = 9) (u sz : Nat) (hu : pLow (x >>> (4 &&& 31)) 41 = nI u) (hn : u < 20) (hsz : sz = 20 - u) (h9 : sz ≤ 9) : Cq l yL_types (.code yL_types cL_types 7 (some .int)) 0 0 3 62 Z [.ref (zA Z (6) (0) (0)), .int (x), .int (3)] S h (nI (tl + 4)) (apL [97, 45, nI (48 + sz % 10), 59] S) h := by
  refine Cq.of rfl rfl rfl (Nat.le_of_ble_eq_true rfl) (fun p e s mi args below meth c A0 Q X hSt hZ K => ?_)
  refine j_at rfl rfl (Ls3 := [(0, .ref (zA Z (6) (0) (0))), (1, .int (x)), (2, .int (3))]) rfl rfl ?_
  refine j_iload_n X dL_types_0 rfl rfl (q := 1) rfl ?_
  refine j_bipush X dL_types_1 rfl (v := 10) (by decide) ?_
  refine j_callQ X hSt hZ (c_L_low l Z S h (x) (10) (by decide)) lk_RL_89 mt_L_low ini_RL mc_L_low md_L_low ⟨Nat.le_of_ble_eq_true rfl, Nat.le_of_ble_eq_true rfl⟩ ⟨Nat.le_of_ble_eq_true rfl, Nat.le_of_ble_eq_true rfl⟩ rfl (Nat.le_of_ble_eq_true rfl) (as := [.int (x), .int (10)]) (rest := []) rfl dL_types_3 rfl ?_
  refine j_topeq (y := (9)) hkd ?_
  refine j_istore_n X dL_types_6 rfl rfl (by decide) (Ls2 := [(3, .int (9)), (0, .ref (zA Z (6) (0) (0))), (1, .int (x)), (2, .int (3))]) rfl ?_
  refine j_iconst X dL_types_7 rfl (v := 0) (by decide) ?_
  refine j_istore X dL_types_8 rfl (by decide) (Ls2 := [(4, .int (0)), (3, .int (9)), (0, .ref (zA Z (6) (0) (0))), (1, .int (x)), (2, .int (3))]) rfl ?_
  refine j_iload_n X dL_types_10 rfl rfl (q := 1) rfl ?_
  refine j_iconst X dL_types_11 rfl (v := 2) (by decide) ?_
  refine j_icmp_ge_t X (tgt := 35) dL_types_12 (by decide) (by decide) ?_
  refine j_iload_n X dL_types_35 rfl rfl (q := 1) rfl ?_
  refine j_bipush X dL_types_36 rfl (v := 8) (by decide) ?_
  refine j_icmp_ge_t X (tgt := 79) dL_types_38 (by decide) (by decide) ?_
  refine j_iload_n X dL_types_79 rfl rfl (q := 3) rfl ?_
  refine j_iconst X dL_types_80 rfl (v := 4) (by decide) ?_
  refine j_ishr X dL_types_81 rfl ?_
  refine j_bipush X dL_types_82 rfl (v := 41) (by decide) ?_
  refine j_callQ X hSt hZ (c_L_low l Z S h ((x) >>> ((4) &&& 31)) (41) (by decide)) lk_RL_89 mt_L_low ini_RL mc_L_low md_L_low ⟨Nat.le_of_ble_eq_true rfl, Nat.le_of_ble_eq_true rfl⟩ ⟨Nat.le_of_ble_eq_true rfl, Nat.le_of_ble_eq_true rfl⟩ rfl (Nat.le_of_ble_eq_true rfl) (as := [.int ((x) >>> ((4) &&& 31)), .int (41)]) (rest := []) rfl dL_types_84 rfl ?_
  refine j_topeq (y := (nI (u))) hu ?_
  refine j_bipush X dL_types_87 rfl (v := 20) (by decide) ?_
  refine j_isub X dL_types_89 rfl ?_
  refine j_istore X dL_types_90 rfl (by decide) (Ls2 := [(5, .int ((nI (u)) - (20))), (4, .int (0)), (3, .int (9)), (0, .ref (zA Z (6) (0) (0))), (1, .int (x)), (2, .int (3))]) rfl ?_
  refine j_aload_n X dL_types_92 rfl rfl (q := 3) rfl ?_
  refine j_bipush X dL_types_93 rfl (v := 97) (by decide) ?_
  refine j_callQW X hSt hZ (w_append l Z S (pAppS S (97)) h (97) _ (c_X5_append l Z S h (97) (by decide) (by decide) (by rw [h_S]; exact okI_nI (by omega) (by decide)) (by show (S 6 0 0 1).toNatClampNeg < 120; rw [h_S, nI_clamp (by omega)]; omega))) lk_RL_94 mt_L_append ini_RL mc_L_append md_L_append ⟨Nat.le_of_ble_eq_true rfl, Nat.le_of_ble_eq_true rfl⟩ ⟨Nat.le_of_ble_eq_true rfl, Nat.le_of_ble_eq_true rfl⟩ rfl (Nat.le_of_ble_eq_true rfl) (as := [.ref (zA Z (6) (0) (0)), .int (97)]) (rest := []) rfl dL_types_95 rfl ?_
  refine j_topeq (y := (nI (tl + 1))) (app_tl h_S (by omega)) ?_
  refine j_name (fun S1 eS1 => ?_)
  have h_S1 : S1 6 0 0 1 = nI (tl + 1) := by rw [eS1]; exact app_tl h_S (by omega)
  refine j_istore X dL_types_98 rfl (by decide) (Ls2 := [(4, .int (nI (tl + 1))), (5, .int ((nI (u)) - (20))), (3, .int (9)), (0, .ref (zA Z (6) (0) (0))), (1, .int (x)), (2, .int (3))]) rfl ?_
  refine j_iload X dL_types_100 rfl (q := 1) rfl ?_
  refine j_if_ge_f X dL_types_102 rfl (tgt := 113) (by decide) (Int32.not_le.mpr (ty_neg u hn).1) ?_
  refine j_aload_n X dL_types_105 rfl rfl (q := 3) rfl ?_
  refine j_bipush X dL_types_106 rfl (v := 45) (by decide) ?_
  refine j_callQW X hSt hZ (w_append l Z S1 (pAppS S1 (45)) h (45) _ (c_X5_append l Z S1 h (45) (by decide) (by decide) (by rw [h_S1]; exact okI_nI (by omega) (by decide)) (by show (S1 6 0 0 1).toNatClampNeg < 120; rw [h_S1, nI_clamp (by omega)]; omega))) lk_RL_94 mt_L_append ini_RL mc_L_append md_L_append ⟨Nat.le_of_ble_eq_true rfl, Nat.le_of_ble_eq_true rfl⟩ ⟨Nat.le_of_ble_eq_true rfl, Nat.le_of_ble_eq_true rfl⟩ rfl (Nat.le_of_ble_eq_true rfl) (as := [.ref (zA Z (6) (0) (0)), .int (45)]) (rest := []) rfl dL_types_108 rfl ?_
  refine j_topeq (y := (nI (tl + 2))) (app_tl h_S1 (by omega)) ?_
  refine j_name (fun S2 eS2 => ?_)
  have h_S2 : S2 6 0 0 1 = nI (tl + 2) := by rw [eS2]; exact app_tl h_S1 (by omega)
  refine j_istore X dL_types_111 rfl (by decide) (Ls2 := [(4, .int (nI (tl + 2))), (5, .int ((nI (u)) - (20))), (3, .int (9)), (0, .ref (zA Z (6) (0) (0))), (1, .int (x)), (2, .int (3))]) rfl ?_
  refine j_iload X dL_types_113 rfl (q := 1) rfl ?_
  refine j_if_ge_f X dL_types_115 rfl (tgt := 124) (by decide) (Int32.not_le.mpr (ty_neg u hn).1) ?_
  refine j_iload X dL_types_118 rfl (q := 1) rfl ?_
  refine j_ineg X dL_types_120 rfl ?_
  refine j_goto X (tgt := 126) dL_types_121 (by decide) ?_
  refine j_topeq (y := nI sz) (by rw [hsz]; exact (ty_neg u hn).2) ?_
  refine j_istore X dL_types_126 rfl (by decide) (Ls2 := [(6, .int (nI (sz))), (4, .int (nI (tl + 2))), (5, .int ((nI (u)) - (20))), (3, .int (9)), (0, .ref (zA Z (6) (0) (0))), (1, .int (x)), (2, .int (3))]) rfl ?_
  refine j_iload X dL_types_128 rfl (q := 0) rfl ?_
  refine j_bipush X dL_types_130 rfl (v := 9) (by decide) ?_
  refine j_icmp_le_t X (tgt := 149) dL_types_132 (by decide) (nI_le (b := 9) (by omega) (by decide)) ?_
  refine j_aload_n X dL_types_149 rfl rfl (q := 4) rfl ?_
  refine j_bipush X dL_types_150 rfl (v := 48) (by decide) ?_
  refine j_iload X dL_types_152 rfl (q := 0) rfl ?_
  refine j_bipush X dL_types_154 rfl (v := 10) (by decide) ?_
  refine j_irem X dL_types_156 rfl (by decide) ?_
  refine j_topeq (y := nI ((sz) % 10)) (pk_rem (by omega) (by decide) (by decide)) ?_
  refine j_iadd X dL_types_157 rfl ?_
  refine j_topeq (y := nI (48 + ((sz) % 10))) (nI_add 48 ((sz) % 10)) ?_
  refine j_callQW X hSt hZ (w_append l Z S2 (pAppS S2 (nI (48 + ((sz) % 10)))) h (nI (48 + ((sz) % 10))) _ (c_X5_append l Z S2 h (nI (48 + ((sz) % 10))) (nI_pos (by omega)) (nI_le (b := 127) (by omega) (by decide)) (by rw [h_S2]; exact okI_nI (by omega) (by decide)) (by show (S2 6 0 0 1).toNatClampNeg < 120; rw [h_S2, nI_clamp (by omega)]; omega))) lk_RL_94 mt_L_append ini_RL mc_L_append md_L_append ⟨Nat.le_of_ble_eq_true rfl, Nat.le_of_ble_eq_true rfl⟩ ⟨Nat.le_of_ble_eq_true rfl, Nat.le_of_ble_eq_true rfl⟩ rfl (Nat.le_of_ble_eq_true rfl) (as := [.ref (zA Z (6) (0) (0)), .int (nI (48 + ((sz) % 10)))]) (rest := []) rfl dL_types_158 rfl ?_
  refine j_topeq (y := (nI (tl + 3))) (app_tl h_S2 (by omega)) ?_
  refine j_name (fun S3 eS3 => ?_)
  have h_S3 : S3 6 0 0 1 = nI (tl + 3) := by rw [eS3]; exact app_tl h_S2 (by omega)
  refine j_istore X dL_types_161 rfl (by decide) (Ls2 := [(4, .int (nI (tl + 3))), (6, .int (nI (sz))), (5, .int ((nI (u)) - (20))), (3, .int (9)), (0, .ref (zA Z (6) (0) (0))), (1, .int (x)), (2, .int (3))]) rfl ?_
  refine j_iload X dL_types_163 rfl (q := 0) rfl ?_
  refine j_if_le_f X dL_types_165 rfl (tgt := 177) (by decide) (nI_nle (by omega) (by omega)) ?_
  refine j_aload_n X dL_types_168 rfl rfl (q := 4) rfl ?_
  refine j_bipush X dL_types_169 rfl (v := 59) (by decide) ?_
  refine j_callQW X hSt hZ (w_append l Z S3 (pAppS S3 (59)) h (59) _ (c_X5_append l Z S3 h (59) (by decide) (by decide) (by rw [h_S3]; exact okI_nI (by omega) (by decide)) (by show (S3 6 0 0 1).toNatClampNeg < 120; rw [h_S3, nI_clamp (by omega)]; omega))) lk_RL_94 mt_L_append ini_RL mc_L_append md_L_append ⟨Nat.le_of_ble_eq_true rfl, Nat.le_of_ble_eq_true rfl⟩ ⟨Nat.le_of_ble_eq_true rfl, Nat.le_of_ble_eq_true rfl⟩ rfl (Nat.le_of_ble_eq_true rfl) (as := [.ref (zA Z (6) (0) (0)), .int (59)]) (rest := []) rfl dL_types_171 rfl ?_
  refine j_topeq (y := (nI (tl + 4))) (app_tl h_S3 (by omega)) ?_
  refine j_name (fun S4 eS4 => ?_)
  have h_S4 : S4 6 0 0 1 = nI (tl + 4) := by rw [eS4]; exact app_tl h_S3 (by omega)
  refine j_goto X (tgt := 178) dL_types_174 (by decide) ?_
  exact j_ret rfl (by subst eS1; subst eS2; subst eS3; subst eS4; rfl) rfl (K _ _ dL_types_178)
set_option maxRecDepth 100000 in
set_option maxHeartbeats 4000000 in
theorem ty_9p2 (l : Launch) (Z : wZ) (S : St) (h : Hl) (x : Int32) (tl : Nat) (h_S : S 6 0 0 1 = nI tl) (htl : tl + 5 ≤ 120) (hkd : pLow x 10 = 9) (u sz : Nat) (hu : pLow (x >>> (4 &&& 31)) 41 = nI u) (hsz : u = sz + 20) (h21 : sz < 21) (h9 : 9 < sz) : Cq l yL_types (.code yL_types cL_types 7 (some .int)) 0 0 3 62 Z [.ref (zA Z (6) (0) (0)), .int (x), .int (3)] S h (nI (tl + 4)) (apL [97, nI (48 + sz / 10), nI (48 + sz % 10), 59] S) h := by
  refine Cq.of rfl rfl rfl (Nat.le_of_ble_eq_true rfl) (fun p e s mi args below meth c A0 Q X hSt hZ K => ?_)
  refine j_at rfl rfl (Ls3 := [(0, .ref (zA Z (6) (0) (0))), (1, .int (x)), (2, .int (3))]) rfl rfl ?_
  refine j_iload_n X dL_types_0 rfl rfl (q := 1) rfl ?_
  refine j_bipush X dL_types_1 rfl (v := 10) (by decide) ?_
  refine j_callQ X hSt hZ (c_L_low l Z S h (x) (10) (by decide)) lk_RL_89 mt_L_low ini_RL mc_L_low md_L_low ⟨Nat.le_of_ble_eq_true rfl, Nat.le_of_ble_eq_true rfl⟩ ⟨Nat.le_of_ble_eq_true rfl, Nat.le_of_ble_eq_true rfl⟩ rfl (Nat.le_of_ble_eq_true rfl) (as := [.int (x), .int (10)]) (rest := []) rfl dL_types_3 rfl ?_
  refine j_topeq (y := (9)) hkd ?_
  refine j_istore_n X dL_types_6 rfl rfl (by decide) (Ls2 := [(3, .int (9)), (0, .ref (zA Z (6) (0) (0))), (1, .int (x)), (2, .int (3))]) rfl ?_
  refine j_iconst X dL_types_7 rfl (v := 0) (by decide) ?_
  refine j_istore X dL_types_8 rfl (by decide) (Ls2 := [(4, .int (0)), (3, .int (9)), (0, .ref (zA Z (6) (0) (0))), (1, .int (x)), (2, .int (3))]) rfl ?_
  refine j_iload_n X dL_types_10 rfl rfl (q := 1) rfl ?_
  refine j_iconst X dL_types_11 rfl (v := 2) (by decide) ?_
  refine j_icmp_ge_t X (tgt := 35) dL_types_12 (by decide) (by decide) ?_
  refine j_iload_n X dL_types_35 rfl rfl (q := 1) rfl ?_
  refine j_bipush X dL_types_36 rfl (v := 8) (by decide) ?_
  refine j_icmp_ge_t X (tgt := 79) dL_types_38 (by decide) (by decide) ?_
  refine j_iload_n X dL_types_79 rfl rfl (q := 3) rfl ?_
  refine j_iconst X dL_types_80 rfl (v := 4) (by decide) ?_
  refine j_ishr X dL_types_81 rfl ?_
  refine j_bipush X dL_types_82 rfl (v := 41) (by decide) ?_
  refine j_callQ X hSt hZ (c_L_low l Z S h ((x) >>> ((4) &&& 31)) (41) (by decide)) lk_RL_89 mt_L_low ini_RL mc_L_low md_L_low ⟨Nat.le_of_ble_eq_true rfl, Nat.le_of_ble_eq_true rfl⟩ ⟨Nat.le_of_ble_eq_true rfl, Nat.le_of_ble_eq_true rfl⟩ rfl (Nat.le_of_ble_eq_true rfl) (as := [.int ((x) >>> ((4) &&& 31)), .int (41)]) (rest := []) rfl dL_types_84 rfl ?_
  refine j_topeq (y := (nI (u))) hu ?_
  refine j_bipush X dL_types_87 rfl (v := 20) (by decide) ?_
  refine j_isub X dL_types_89 rfl ?_
  refine j_topeq (y := nI sz) (by rw [hsz]; exact (ty_pos sz (by omega)).1) ?_
  refine j_istore X dL_types_90 rfl (by decide) (Ls2 := [(5, .int (nI (sz))), (4, .int (0)), (3, .int (9)), (0, .ref (zA Z (6) (0) (0))), (1, .int (x)), (2, .int (3))]) rfl ?_
  refine j_aload_n X dL_types_92 rfl rfl (q := 3) rfl ?_
  refine j_bipush X dL_types_93 rfl (v := 97) (by decide) ?_
  refine j_callQW X hSt hZ (w_append l Z S (pAppS S (97)) h (97) _ (c_X5_append l Z S h (97) (by decide) (by decide) (by rw [h_S]; exact okI_nI (by omega) (by decide)) (by show (S 6 0 0 1).toNatClampNeg < 120; rw [h_S, nI_clamp (by omega)]; omega))) lk_RL_94 mt_L_append ini_RL mc_L_append md_L_append ⟨Nat.le_of_ble_eq_true rfl, Nat.le_of_ble_eq_true rfl⟩ ⟨Nat.le_of_ble_eq_true rfl, Nat.le_of_ble_eq_true rfl⟩ rfl (Nat.le_of_ble_eq_true rfl) (as := [.ref (zA Z (6) (0) (0)), .int (97)]) (rest := []) rfl dL_types_95 rfl ?_
  refine j_topeq (y := (nI (tl + 1))) (app_tl h_S (by omega)) ?_
  refine j_name (fun S1 eS1 => ?_)
  have h_S1 : S1 6 0 0 1 = nI (tl + 1) := by rw [eS1]; exact app_tl h_S (by omega)
  refine j_istore X dL_types_98 rfl (by decide) (Ls2 := [(4, .int (nI (tl + 1))), (5, .int (nI (sz))), (3, .int (9)), (0, .ref (zA Z (6) (0) (0))), (1, .int (x)), (2, .int (3))]) rfl ?_
  refine j_iload X dL_types_100 rfl (q := 1) rfl ?_
  refine j_if_ge_t X (tgt := 113) dL_types_102 (by decide) (nI_pos' (by omega)) ?_
  refine j_iload X dL_types_113 rfl (q := 1) rfl ?_
  refine j_if_ge_t X (tgt := 124) dL_types_115 (by decide) (nI_pos' (by omega)) ?_
  refine j_iload X dL_types_124 rfl (q := 1) rfl ?_
  refine j_istore X dL_types_126 rfl (by decide) (Ls2 := [(6, .int (nI (sz))), (4, .int (nI (tl + 1))), (5, .int (nI (sz))), (3, .int (9)), (0, .ref (zA Z (6) (0) (0))), (1, .int (x)), (2, .int (3))]) rfl ?_
  refine j_iload X dL_types_128 rfl (q := 0) rfl ?_
  refine j_bipush X dL_types_130 rfl (v := 9) (by decide) ?_
  refine j_icmp_le_f X dL_types_132 rfl (tgt := 149) (by decide) (nI_ge (a := 9) (by omega) (by omega)) ?_
  refine j_aload_n X dL_types_135 rfl rfl (q := 4) rfl ?_
  refine j_bipush X dL_types_136 rfl (v := 48) (by decide) ?_
  refine j_iload X dL_types_138 rfl (q := 0) rfl ?_
  refine j_bipush X dL_types_140 rfl (v := 10) (by decide) ?_
  refine j_idiv X dL_types_142 rfl (by decide) ?_
  refine j_iadd X dL_types_143 rfl ?_
  refine j_topeq (y := nI (48 + sz / 10)) (ty_div sz (by omega)) ?_
  refine j_callQW X hSt hZ (w_append l Z S1 (pAppS S1 (nI (48 + sz / 10))) h (nI (48 + sz / 10)) _ (c_X5_append l Z S1 h (nI (48 + sz / 10)) (nI_pos (by omega)) (nI_le (b := 127) (by omega) (by decide)) (by rw [h_S1]; exact okI_nI (by omega) (by decide)) (by show (S1 6 0 0 1).toNatClampNeg < 120; rw [h_S1, nI_clamp (by omega)]; omega))) lk_RL_94 mt_L_append ini_RL mc_L_append md_L_append ⟨Nat.le_of_ble_eq_true rfl, Nat.le_of_ble_eq_true rfl⟩ ⟨Nat.le_of_ble_eq_true rfl, Nat.le_of_ble_eq_true rfl⟩ rfl (Nat.le_of_ble_eq_true rfl) (as := [.ref (zA Z (6) (0) (0)), .int (nI (48 + sz / 10))]) (rest := []) rfl dL_types_144 rfl ?_
  refine j_topeq (y := (nI (tl + 2))) (app_tl h_S1 (by omega)) ?_
  refine j_name (fun S2 eS2 => ?_)
  have h_S2 : S2 6 0 0 1 = nI (tl + 2) := by rw [eS2]; exact app_tl h_S1 (by omega)
  refine j_istore X dL_types_147 rfl (by decide) (Ls2 := [(4, .int (nI (tl + 2))), (6, .int (nI (sz))), (5, .int (nI (sz))), (3, .int (9)), (0, .ref (zA Z (6) (0) (0))), (1, .int (x)), (2, .int (3))]) rfl ?_
  refine j_aload_n X dL_types_149 rfl rfl (q := 4) rfl ?_
  refine j_bipush X dL_types_150 rfl (v := 48) (by decide) ?_
  refine j_iload X dL_types_152 rfl (q := 1) rfl ?_
  refine j_bipush X dL_types_154 rfl (v := 10) (by decide) ?_
  refine j_irem X dL_types_156 rfl (by decide) ?_
  refine j_topeq (y := nI ((sz) % 10)) (pk_rem (by omega) (by decide) (by decide)) ?_
  refine j_iadd X dL_types_157 rfl ?_
  refine j_topeq (y := nI (48 + ((sz) % 10))) (nI_add 48 ((sz) % 10)) ?_
  refine j_callQW X hSt hZ (w_append l Z S2 (pAppS S2 (nI (48 + ((sz) % 10)))) h (nI (48 + ((sz) % 10))) _ (c_X5_append l Z S2 h (nI (48 + ((sz) % 10))) (nI_pos (by omega)) (nI_le (b := 127) (by omega) (by decide)) (by rw [h_S2]; exact okI_nI (by omega) (by decide)) (by show (S2 6 0 0 1).toNatClampNeg < 120; rw [h_S2, nI_clamp (by omega)]; omega))) lk_RL_94 mt_L_append ini_RL mc_L_append md_L_append ⟨Nat.le_of_ble_eq_true rfl, Nat.le_of_ble_eq_true rfl⟩ ⟨Nat.le_of_ble_eq_true rfl, Nat.le_of_ble_eq_true rfl⟩ rfl (Nat.le_of_ble_eq_true rfl) (as := [.ref (zA Z (6) (0) (0)), .int (nI (48 + ((sz) % 10)))]) (rest := []) rfl dL_types_158 rfl ?_
  refine j_topeq (y := (nI (tl + 3))) (app_tl h_S2 (by omega)) ?_
  refine j_name (fun S3 eS3 => ?_)
  have h_S3 : S3 6 0 0 1 = nI (tl + 3) := by rw [eS3]; exact app_tl h_S2 (by omega)
  refine j_istore X dL_types_161 rfl (by decide) (Ls2 := [(4, .int (nI (tl + 3))), (6, .int (nI (sz))), (5, .int (nI (sz))), (3, .int (9)), (0, .ref (zA Z (6) (0) (0))), (1, .int (x)), (2, .int (3))]) rfl ?_
  refine j_iload X dL_types_163 rfl (q := 0) rfl ?_
  refine j_if_le_f X dL_types_165 rfl (tgt := 177) (by decide) (nI_nle (by omega) (by omega)) ?_
  refine j_aload_n X dL_types_168 rfl rfl (q := 4) rfl ?_
  refine j_bipush X dL_types_169 rfl (v := 59) (by decide) ?_
  refine j_callQW X hSt hZ (w_append l Z S3 (pAppS S3 (59)) h (59) _ (c_X5_append l Z S3 h (59) (by decide) (by decide) (by rw [h_S3]; exact okI_nI (by omega) (by decide)) (by show (S3 6 0 0 1).toNatClampNeg < 120; rw [h_S3, nI_clamp (by omega)]; omega))) lk_RL_94 mt_L_append ini_RL mc_L_append md_L_append ⟨Nat.le_of_ble_eq_true rfl, Nat.le_of_ble_eq_true rfl⟩ ⟨Nat.le_of_ble_eq_true rfl, Nat.le_of_ble_eq_true rfl⟩ rfl (Nat.le_of_ble_eq_true rfl) (as := [.ref (zA Z (6) (0) (0)), .int (59)]) (rest := []) rfl dL_types_171 rfl ?_
  refine j_topeq (y := (nI (tl + 4))) (app_tl h_S3 (by omega)) ?_
  refine j_name (fun S4 eS4 => ?_)
  have h_S4 : S4 6 0 0 1 = nI (tl + 4) := by rw [eS4]; exact app_tl h_S3 (by omega)
  refine j_goto X (tgt := 178) dL_types_174 (by decide) ?_
  exact j_ret rfl (by subst eS1; subst eS2; subst eS3; subst eS4; rfl) rfl (K _ _ dL_types_178)
set_option maxRecDepth 100000 in
set_option maxHeartbeats 4000000 in
theorem ty_9p1 (l : Launch) (Z : wZ) (S : St) (h : Hl) (x : Int32) (tl : Nat) (h_S : S 6 0 0 1 = nI tl) (htl : tl + 5 ≤ 120) (hkd : pLow x 10 = 9) (u sz : Nat) (hu : pLow (x >>> (4 &&& 31)) 41 = nI u) (hsz : u = sz + 20) (h21 : sz < 21) (h9 : sz ≤ 9) : Cq l yL_types (.code yL_types cL_types 7 (some .int)) 0 0 3 62 Z [.ref (zA Z (6) (0) (0)), .int (x), .int (3)] S h (nI (tl + 3)) (apL [97, nI (48 + sz % 10), 59] S) h := by
  refine Cq.of rfl rfl rfl (Nat.le_of_ble_eq_true rfl) (fun p e s mi args below meth c A0 Q X hSt hZ K => ?_)
  refine j_at rfl rfl (Ls3 := [(0, .ref (zA Z (6) (0) (0))), (1, .int (x)), (2, .int (3))]) rfl rfl ?_
  refine j_iload_n X dL_types_0 rfl rfl (q := 1) rfl ?_
  refine j_bipush X dL_types_1 rfl (v := 10) (by decide) ?_
  refine j_callQ X hSt hZ (c_L_low l Z S h (x) (10) (by decide)) lk_RL_89 mt_L_low ini_RL mc_L_low md_L_low ⟨Nat.le_of_ble_eq_true rfl, Nat.le_of_ble_eq_true rfl⟩ ⟨Nat.le_of_ble_eq_true rfl, Nat.le_of_ble_eq_true rfl⟩ rfl (Nat.le_of_ble_eq_true rfl) (as := [.int (x), .int (10)]) (rest := []) rfl dL_types_3 rfl ?_
  refine j_topeq (y := (9)) hkd ?_
  refine j_istore_n X dL_types_6 rfl rfl (by decide) (Ls2 := [(3, .int (9)), (0, .ref (zA Z (6) (0) (0))), (1, .int (x)), (2, .int (3))]) rfl ?_
  refine j_iconst X dL_types_7 rfl (v := 0) (by decide) ?_
  refine j_istore X dL_types_8 rfl (by decide) (Ls2 := [(4, .int (0)), (3, .int (9)), (0, .ref (zA Z (6) (0) (0))), (1, .int (x)), (2, .int (3))]) rfl ?_
  refine j_iload_n X dL_types_10 rfl rfl (q := 1) rfl ?_
  refine j_iconst X dL_types_11 rfl (v := 2) (by decide) ?_
  refine j_icmp_ge_t X (tgt := 35) dL_types_12 (by decide) (by decide) ?_
  refine j_iload_n X dL_types_35 rfl rfl (q := 1) rfl ?_
  refine j_bipush X dL_types_36 rfl (v := 8) (by decide) ?_
  refine j_icmp_ge_t X (tgt := 79) dL_types_38 (by decide) (by decide) ?_
  refine j_iload_n X dL_types_79 rfl rfl (q := 3) rfl ?_
  refine j_iconst X dL_types_80 rfl (v := 4) (by decide) ?_
  refine j_ishr X dL_types_81 rfl ?_
  refine j_bipush X dL_types_82 rfl (v := 41) (by decide) ?_
  refine j_callQ X hSt hZ (c_L_low l Z S h ((x) >>> ((4) &&& 31)) (41) (by decide)) lk_RL_89 mt_L_low ini_RL mc_L_low md_L_low ⟨Nat.le_of_ble_eq_true rfl, Nat.le_of_ble_eq_true rfl⟩ ⟨Nat.le_of_ble_eq_true rfl, Nat.le_of_ble_eq_true rfl⟩ rfl (Nat.le_of_ble_eq_true rfl) (as := [.int ((x) >>> ((4) &&& 31)), .int (41)]) (rest := []) rfl dL_types_84 rfl ?_
  refine j_topeq (y := (nI (u))) hu ?_
  refine j_bipush X dL_types_87 rfl (v := 20) (by decide) ?_
  refine j_isub X dL_types_89 rfl ?_
  refine j_topeq (y := nI sz) (by rw [hsz]; exact (ty_pos sz (by omega)).1) ?_
  refine j_istore X dL_types_90 rfl (by decide) (Ls2 := [(5, .int (nI (sz))), (4, .int (0)), (3, .int (9)), (0, .ref (zA Z (6) (0) (0))), (1, .int (x)), (2, .int (3))]) rfl ?_
  refine j_aload_n X dL_types_92 rfl rfl (q := 3) rfl ?_
  refine j_bipush X dL_types_93 rfl (v := 97) (by decide) ?_
  refine j_callQW X hSt hZ (w_append l Z S (pAppS S (97)) h (97) _ (c_X5_append l Z S h (97) (by decide) (by decide) (by rw [h_S]; exact okI_nI (by omega) (by decide)) (by show (S 6 0 0 1).toNatClampNeg < 120; rw [h_S, nI_clamp (by omega)]; omega))) lk_RL_94 mt_L_append ini_RL mc_L_append md_L_append ⟨Nat.le_of_ble_eq_true rfl, Nat.le_of_ble_eq_true rfl⟩ ⟨Nat.le_of_ble_eq_true rfl, Nat.le_of_ble_eq_true rfl⟩ rfl (Nat.le_of_ble_eq_true rfl) (as := [.ref (zA Z (6) (0) (0)), .int (97)]) (rest := []) rfl dL_types_95 rfl ?_
  refine j_topeq (y := (nI (tl + 1))) (app_tl h_S (by omega)) ?_
  refine j_name (fun S1 eS1 => ?_)
  have h_S1 : S1 6 0 0 1 = nI (tl + 1) := by rw [eS1]; exact app_tl h_S (by omega)
  refine j_istore X dL_types_98 rfl (by decide) (Ls2 := [(4, .int (nI (tl + 1))), (5, .int (nI (sz))), (3, .int (9)), (0, .ref (zA Z (6) (0) (0))), (1, .int (x)), (2, .int (3))]) rfl ?_
  refine j_iload X dL_types_100 rfl (q := 1) rfl ?_
  refine j_if_ge_t X (tgt := 113) dL_types_102 (by decide) (nI_pos' (by omega)) ?_
  refine j_iload X dL_types_113 rfl (q := 1) rfl ?_
  refine j_if_ge_t X (tgt := 124) dL_types_115 (by decide) (nI_pos' (by omega)) ?_
  refine j_iload X dL_types_124 rfl (q := 1) rfl ?_
  refine j_istore X dL_types_126 rfl (by decide) (Ls2 := [(6, .int (nI (sz))), (4, .int (nI (tl + 1))), (5, .int (nI (sz))), (3, .int (9)), (0, .ref (zA Z (6) (0) (0))), (1, .int (x)), (2, .int (3))]) rfl ?_
  refine j_iload X dL_types_128 rfl (q := 0) rfl ?_
  refine j_bipush X dL_types_130 rfl (v := 9) (by decide) ?_
  refine j_icmp_le_t X (tgt := 149) dL_types_132 (by decide) (nI_le (b := 9) (by omega) (by decide)) ?_
  refine j_aload_n X dL_types_149 rfl rfl (q := 4) rfl ?_
  refine j_bipush X dL_types_150 rfl (v := 48) (by decide) ?_
  refine j_iload X dL_types_152 rfl (q := 0) rfl ?_
  refine j_bipush X dL_types_154 rfl (v := 10) (by decide) ?_
  refine j_irem X dL_types_156 rfl (by decide) ?_
  refine j_topeq (y := nI ((sz) % 10)) (pk_rem (by omega) (by decide) (by decide)) ?_
  refine j_iadd X dL_types_157 rfl ?_
  refine j_topeq (y := nI (48 + ((sz) % 10))) (nI_add 48 ((sz) % 10)) ?_
  refine j_callQW X hSt hZ (w_append l Z S1 (pAppS S1 (nI (48 + ((sz) % 10)))) h (nI (48 + ((sz) % 10))) _ (c_X5_append l Z S1 h (nI (48 + ((sz) % 10))) (nI_pos (by omega)) (nI_le (b := 127) (by omega) (by decide)) (by rw [h_S1]; exact okI_nI (by omega) (by decide)) (by show (S1 6 0 0 1).toNatClampNeg < 120; rw [h_S1, nI_clamp (by omega)]; omega))) lk_RL_94 mt_L_append ini_RL mc_L_append md_L_append ⟨Nat.le_of_ble_eq_true rfl, Nat.le_of_ble_eq_true rfl⟩ ⟨Nat.le_of_ble_eq_true rfl, Nat.le_of_ble_eq_true rfl⟩ rfl (Nat.le_of_ble_eq_true rfl) (as := [.ref (zA Z (6) (0) (0)), .int (nI (48 + ((sz) % 10)))]) (rest := []) rfl dL_types_158 rfl ?_
  refine j_topeq (y := (nI (tl + 2))) (app_tl h_S1 (by omega)) ?_
  refine j_name (fun S2 eS2 => ?_)
  have h_S2 : S2 6 0 0 1 = nI (tl + 2) := by rw [eS2]; exact app_tl h_S1 (by omega)
  refine j_istore X dL_types_161 rfl (by decide) (Ls2 := [(4, .int (nI (tl + 2))), (6, .int (nI (sz))), (5, .int (nI (sz))), (3, .int (9)), (0, .ref (zA Z (6) (0) (0))), (1, .int (x)), (2, .int (3))]) rfl ?_
  refine j_iload X dL_types_163 rfl (q := 0) rfl ?_
  refine j_if_le_f X dL_types_165 rfl (tgt := 177) (by decide) (nI_nle (by omega) (by omega)) ?_
  refine j_aload_n X dL_types_168 rfl rfl (q := 4) rfl ?_
  refine j_bipush X dL_types_169 rfl (v := 59) (by decide) ?_
  refine j_callQW X hSt hZ (w_append l Z S2 (pAppS S2 (59)) h (59) _ (c_X5_append l Z S2 h (59) (by decide) (by decide) (by rw [h_S2]; exact okI_nI (by omega) (by decide)) (by show (S2 6 0 0 1).toNatClampNeg < 120; rw [h_S2, nI_clamp (by omega)]; omega))) lk_RL_94 mt_L_append ini_RL mc_L_append md_L_append ⟨Nat.le_of_ble_eq_true rfl, Nat.le_of_ble_eq_true rfl⟩ ⟨Nat.le_of_ble_eq_true rfl, Nat.le_of_ble_eq_true rfl⟩ rfl (Nat.le_of_ble_eq_true rfl) (as := [.ref (zA Z (6) (0) (0)), .int (59)]) (rest := []) rfl dL_types_171 rfl ?_
  refine j_topeq (y := (nI (tl + 3))) (app_tl h_S2 (by omega)) ?_
  refine j_name (fun S3 eS3 => ?_)
  have h_S3 : S3 6 0 0 1 = nI (tl + 3) := by rw [eS3]; exact app_tl h_S2 (by omega)
  refine j_goto X (tgt := 178) dL_types_174 (by decide) ?_
  exact j_ret rfl (by subst eS1; subst eS2; subst eS3; rfl) rfl (K _ _ dL_types_178)

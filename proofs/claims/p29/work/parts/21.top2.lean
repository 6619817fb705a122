def pDgA (S : St) (a : Nat) (k : Nat) (x : Int64) : Int64 := pMix x (pCFact S 0 a k)
def pDgB (S : St) (a : Nat) (k : Nat) (x : Int64) : Int64 := pMix (pMix x (S 0 a 1 k)) (pCached S a k)
def pDgC (S : St) (x : Int64) (a : Nat) : Int64 := lp (pDgB S a) 8 0 (pMix (pMix (lp (pDgA S a) 6 0 x) (S 0 a 0 9)) (S 0 a 0 10))
def pDg1 (S : St) (k : Nat) (x : Int64) : Int64 := pMix x (pMFact S 0 k)
def pDg2 (S : St) (k : Nat) (x : Int64) : Int64 := pDgC S x k
def pDg3 (S : St) (k : Nat) (x : Int64) : Int64 := pMix x (S 0 4 2 k)
def pDg4 (S : St) (k : Nat) (x : Int64) : Int64 := pMix x (pCom S 0 k)
def pDg5 (S : St) (k : Nat) (x : Int64) : Int64 := pMix x (S 0 4 3 k)
def pDigest (S : St) : Int64 :=
  pMix (pMix (lp (pDg5 S) 8 0 (lp (pDg4 S) 8 0 (lp (pDg3 S) 8 0 (lp (pDg2 S) (pCC S 0) 0 (pMix (lp (pDg1 S) 5 0 (pMix 3011 (S 6 0 0 1))) (S 0 4 0 7)))))) (S 0 4 4 7)) (S 6 0 0 7)
theorem pHasC_ok {S : St} {m a : Nat} (hcc : okI (S m 4 0 4) 4) (ha : a < pCC S m) : pHasC S m (nI a) = true := by
  have h4 : pCC S m ≤ 4 := hcc.2
  have e : S m 4 0 4 = nI (pCC S m) := hcc.1
  unfold pHasC
  rw [e]
  simp only [Bool.and_eq_true, Bool.not_eq_true', decide_eq_false_iff_not]
  exact ⟨nI_pos (by omega), nI_ge ha (by omega), nI_ge (b := 4) (by omega) (by decide)⟩
set_option maxRecDepth 100000 in
set_option maxHeartbeats 4000000 in
theorem c_X5_commit (l : Launch) (Z : wZ) (S : St) (h : Hl) (ei : Nat) (hei : ei < rmI 0) (he : pHasE S 0 (nI ei) = true) (k : Nat) (hk : k < 4) : Ci l yX5_commit cX5_commit 3 .int 1 22 Z [.ref (zA Z (6) (0) (0)), .int (nI (ei)), .int (nI (k))] S h (pLFact S 0 ei k) (S) (h) := by
  refine Ci.of rfl rfl (Nat.le_of_ble_eq_true rfl) (fun p e s mi args below meth c A0 Q X K => ?_)
  refine j_at rfl rfl (Ls3 := [(0, .ref (zA Z (6) (0) (0))), (1, .int (nI (ei))), (2, .int (nI (k)))]) rfl rfl ?_
  refine j_aload_n X dX5_commit_0 rfl rfl (q := 0) rfl ?_
  refine jg_top X 3 (by decide) lk_RX5_29 rfl rfl dX5_commit_1 rfl ?_
  refine jgN_mach X (by decide) 3 (by decide) nk_RX5_63 rfl rfl dX5_commit_4 rfl ?_
  refine j_iload_n X dX5_commit_7 rfl rfl (q := 1) rfl ?_
  refine j_callNi X (c_X1_hasEntry l Z S h 0 (by decide) (nI (ei))) (wm_mach (by decide) (by decide)) (wE_mach (by decide) 4 _) rfl nk_RX5_196 mi_X1_hasEntry ms_X1_hasEntry ini_RX1 mc_X1_hasEntry md_X1_hasEntry ⟨Nat.le_of_ble_eq_true rfl, Nat.le_of_ble_eq_true rfl⟩ ⟨Nat.le_of_ble_eq_true rfl, Nat.le_of_ble_eq_true rfl⟩ rfl (Nat.le_of_ble_eq_true rfl) (as := [.int (nI (ei))]) (rest := []) rfl dX5_commit_8 rfl ?_
  refine j_if_ne_t X (tgt := 24) dX5_commit_11 (by decide) (by rw [he]; decide) ?_
  refine j_iload_n X dX5_commit_24 rfl rfl (q := 2) rfl ?_
  refine j_if_lt_f X dX5_commit_25 rfl (tgt := 33) (by decide) (nI_pos (by omega)) ?_
  refine j_iload_n X dX5_commit_28 rfl rfl (q := 2) rfl ?_
  refine j_iconst X dX5_commit_29 rfl (v := 4) (by decide) ?_
  refine j_icmp_lt_t X (tgt := 43) dX5_commit_30 (by decide) (nI_lt hk (by decide)) ?_
  refine j_aload_n X dX5_commit_43 rfl rfl (q := 0) rfl ?_
  refine jg_top X 3 (by decide) lk_RX5_29 rfl rfl dX5_commit_44 rfl ?_
  refine jgN_mach X (by decide) 3 (by decide) nk_RX5_63 rfl rfl dX5_commit_47 rfl ?_
  refine j_iload_n X dX5_commit_50 rfl rfl (q := 1) rfl ?_
  refine j_iload_n X dX5_commit_51 rfl rfl (q := 2) rfl ?_
  refine j_callNi X (c_X1_fact l Z S h 0 (by decide) ei hei k hk) (wm_mach (by decide) (by decide)) (wE_mach (by decide) 4 _) rfl nk_RX5_201 mi_X1_fact ms_X1_fact ini_RX1 mc_X1_fact md_X1_fact ⟨Nat.le_of_ble_eq_true rfl, Nat.le_of_ble_eq_true rfl⟩ ⟨Nat.le_of_ble_eq_true rfl, Nat.le_of_ble_eq_true rfl⟩ rfl (Nat.le_of_ble_eq_true rfl) (as := [.int (nI (ei)), .int (nI (k))]) (rest := []) rfl dX5_commit_52 rfl ?_
  exact j_ret (by first | with_reducible rfl | (simp []; done) | (simp_all []; done) | rfl) (by first | with_reducible rfl | (simp []; done) | (simp_all []; done) | rfl) rfl (K _ _ dX5_commit_55)
set_option maxRecDepth 100000 in
set_option maxHeartbeats 4000000 in
theorem c_X5_commitValue (l : Launch) (Z : wZ) (S : St) (h : Hl) (ei : Nat) (hei : ei < rmI 0) (he : pHasE S 0 (nI ei) = true) (j : Nat) (hj : j < 8) (w : Bool) : Ci l yX5_commitValue cX5_commitValue 4 .int 1 23 Z [.ref (zA Z (6) (0) (0)), .int (nI (ei)), .int (nI (j)), .int (bI (w))] S h (pLVal S 0 ei j w) (S) (h) := by
  refine Ci.of rfl rfl (Nat.le_of_ble_eq_true rfl) (fun p e s mi args below meth c A0 Q X K => ?_)
  refine j_at rfl rfl (Ls3 := [(0, .ref (zA Z (6) (0) (0))), (1, .int (nI (ei))), (2, .int (nI (j))), (3, .int (bI (w)))]) rfl rfl ?_
  refine j_aload_n X dX5_commitValue_0 rfl rfl (q := 0) rfl ?_
  refine jg_top X 3 (by decide) lk_RX5_29 rfl rfl dX5_commitValue_1 rfl ?_
  refine jgN_mach X (by decide) 3 (by decide) nk_RX5_63 rfl rfl dX5_commitValue_4 rfl ?_
  refine j_iload_n X dX5_commitValue_7 rfl rfl (q := 1) rfl ?_
  refine j_callNi X (c_X1_hasEntry l Z S h 0 (by decide) (nI (ei))) (wm_mach (by decide) (by decide)) (wE_mach (by decide) 4 _) rfl nk_RX5_196 mi_X1_hasEntry ms_X1_hasEntry ini_RX1 mc_X1_hasEntry md_X1_hasEntry ⟨Nat.le_of_ble_eq_true rfl, Nat.le_of_ble_eq_true rfl⟩ ⟨Nat.le_of_ble_eq_true rfl, Nat.le_of_ble_eq_true rfl⟩ rfl (Nat.le_of_ble_eq_true rfl) (as := [.int (nI (ei))]) (rest := []) rfl dX5_commitValue_8 rfl ?_
  refine j_if_eq_f X dX5_commitValue_11 rfl (tgt := 21) (by decide) (by rw [he]; decide) ?_
  refine j_iload_n X dX5_commitValue_14 rfl rfl (q := 2) rfl ?_
  refine j_callSi X (c_X5_isLine l Z S h (nI (j))) lk_RX5_158 mt_X5_isLine ini_RX5 mc_X5_isLine md_X5_isLine ⟨Nat.le_of_ble_eq_true rfl, Nat.le_of_ble_eq_true rfl⟩ ⟨Nat.le_of_ble_eq_true rfl, Nat.le_of_ble_eq_true rfl⟩ rfl (Nat.le_of_ble_eq_true rfl) (as := [.int (nI (j))]) (rest := []) rfl dX5_commitValue_15 rfl ?_
  refine j_if_ne_t X (tgt := 31) dX5_commitValue_18 (by decide) (by rw [pIsLine_ok hj]; decide) ?_
  refine j_aload_n X dX5_commitValue_31 rfl rfl (q := 0) rfl ?_
  refine jg_top X 3 (by decide) lk_RX5_29 rfl rfl dX5_commitValue_32 rfl ?_
  refine jgN_mach X (by decide) 3 (by decide) nk_RX5_63 rfl rfl dX5_commitValue_35 rfl ?_
  refine j_iload_n X dX5_commitValue_38 rfl rfl (q := 1) rfl ?_
  refine j_iload_n X dX5_commitValue_39 rfl rfl (q := 2) rfl ?_
  refine j_iload_n X dX5_commitValue_40 rfl rfl (q := 3) rfl ?_
  refine j_callNi X (c_X1_lineValue l Z S h 0 (by decide) ei j hei hj w) (wm_mach (by decide) (by decide)) (wE_mach (by decide) 4 _) rfl nk_RX5_205 mi_X1_lineValue ms_X1_lineValue ini_RX1 mc_X1_lineValue md_X1_lineValue ⟨Nat.le_of_ble_eq_true rfl, Nat.le_of_ble_eq_true rfl⟩ ⟨Nat.le_of_ble_eq_true rfl, Nat.le_of_ble_eq_true rfl⟩ rfl (Nat.le_of_ble_eq_true rfl) (as := [.int (nI (ei)), .int (nI (j)), .int (bI (w))]) (rest := []) rfl dX5_commitValue_41 rfl ?_
  exact j_ret (by first | with_reducible rfl | (simp []; done) | (simp_all []; done) | rfl) (by first | with_reducible rfl | (simp []; done) | (simp_all []; done) | rfl) rfl (K _ _ dX5_commitValue_44)
set_option maxRecDepth 100000 in
set_option maxHeartbeats 4000000 in
theorem c_X5_serializable (l : Launch) (Z : wZ) (S : St) (h : Hl) (hq : okI (S 0 4 4 7) 400) : Ci l yX5_serializable cX5_serializable 1 .boolean 3 68 Z [.ref (zA Z (6) (0) (0))] S h (bI (pReplay S 0 6 0 7).1) ((pReplay S 0 6 0 7).2) (h) := by
  refine Ci.of rfl (bI_nar _) (Nat.le_of_ble_eq_true rfl) (fun p e s mi args below meth c A0 Q X K => ?_)
  refine j_at rfl rfl (Ls3 := [(0, .ref (zA Z (6) (0) (0)))]) rfl rfl ?_
  refine j_aload_n X dX5_serializable_0 rfl rfl (q := 0) rfl ?_
  refine jg_top X 3 (by decide) lk_RX5_29 rfl rfl dX5_serializable_1 rfl ?_
  refine jgN_mach X (by decide) 3 (by decide) nk_RX5_63 rfl rfl dX5_serializable_4 rfl ?_
  refine j_aload_n X dX5_serializable_7 rfl rfl (q := 0) rfl ?_
  refine jg_top X 8 (by decide) lk_RX5_46 rfl rfl dX5_serializable_8 rfl ?_
  refine j_callNi X (c_X1_replaysOn l Z S h 0 (by decide) (by decide) hq (show pQ S 0 ≤ rmI 0 from hq.2)) (wm_mach (by decide) (by decide)) (wE_mach (by decide) 4 _) rfl nk_RX5_209 mi_X1_replaysOn ms_X1_replaysOn ini_RX1 mc_X1_replaysOn md_X1_replaysOn ⟨Nat.le_of_ble_eq_true rfl, Nat.le_of_ble_eq_true rfl⟩ ⟨Nat.le_of_ble_eq_true rfl, Nat.le_of_ble_eq_true rfl⟩ rfl (Nat.le_of_ble_eq_true rfl) (as := [.ref (zA Z (6) (0) (7))]) (rest := []) rfl dX5_serializable_11 rfl ?_
  refine j_name (fun S1 eS1 => ?_)
  exact j_ret (by subst eS1; first | with_reducible rfl | (simp []; done) | (simp_all []; done) | rfl) (by subst eS1; first | with_reducible rfl | (simp []; done) | (simp_all []; done) | rfl) rfl (K _ _ dX5_serializable_14)
set_option maxRecDepth 100000 in
set_option maxHeartbeats 4000000 in
theorem c_X5_undo (l : Launch) (Z : wZ) (S : St) (h : Hl) (hn0 : 1 ≤ pNs S) (ho : okI (S 6 0 0 6) 3) (hn : okI (S 6 0 0 7) 4) (hqs : okI (S (((pOs S + (pNs S - 1)) % 4) + 2) 4 4 7) 400) : Ci l yX5_undo cX5_undo 1 .int 4 82 Z [.ref (zA Z (6) (0) (0))] S h (pUndo S 6 0 0 7) (pUndo S) (h) := by
  have ho3 : pOs S ≤ 3 := ho.2
  have hn4 : pNs S ≤ 4 := hn.2
  have hG : (pOs S + (pNs S - 1)) % 4 < 4 := Nat.mod_lt _ (by decide)
  refine Ci.of rfl rfl (Nat.le_of_ble_eq_true rfl) (fun p e s mi args below meth c A0 Q X K => ?_)
  refine j_at rfl rfl (Ls3 := [(0, .ref (zA Z (6) (0) (0)))]) rfl rfl ?_
  refine j_aload_n X dX5_undo_0 rfl rfl (q := 0) rfl ?_
  refine jg_top X 7 (by decide) lk_RX5_43 rfl rfl dX5_undo_1 rfl ?_
  refine j_topeq (y := (nI (pNs S))) (hn.1) ?_
  refine j_if_gt_t X (tgt := 17) dX5_undo_4 (by decide) (nI_lt (a := 0) (by omega) (by omega)) ?_
  refine j_aload_n X dX5_undo_17 rfl rfl (q := 0) rfl ?_
  refine j_dup X dX5_undo_18 rfl rfl ?_
  refine jg_top X 7 (by decide) lk_RX5_43 rfl rfl dX5_undo_19 rfl ?_
  refine j_topeq (y := (nI (pNs S))) (hn.1) ?_
  refine j_iconst X dX5_undo_22 rfl (v := 1) (by decide) ?_
  refine j_isub X dX5_undo_23 rfl ?_
  refine j_topeq (y := nI (pNs S - 1)) (pk_sub hn0) ?_
  refine jp_top X 7 (by decide) lk_RX5_43 rfl rfl rfl (vp_nar_int _) rfl rfl dX5_undo_24 rfl ?_
  refine j_name (fun S1 eS1 => ?_)
  refine j_aload_n X dX5_undo_27 rfl rfl (q := 0) rfl ?_
  refine jg_top X 3 (by decide) lk_RX5_29 rfl rfl dX5_undo_28 rfl ?_
  refine j_aload_n X dX5_undo_31 rfl rfl (q := 0) rfl ?_
  refine jg_top X 5 (by decide) lk_RX5_36 rfl rfl dX5_undo_32 rfl ?_
  refine j_aload_n X dX5_undo_35 rfl rfl (q := 0) rfl ?_
  refine jg_top X 6 (by decide) lk_RX5_40 rfl rfl dX5_undo_36 rfl ?_
  refine j_topeq (y := (nI (pOs S))) (by subst eS1; simp [setF_at] <;> exact ho.1) ?_
  refine j_aload_n X dX5_undo_39 rfl rfl (q := 0) rfl ?_
  refine jg_top X 7 (by decide) lk_RX5_43 rfl rfl dX5_undo_40 rfl ?_
  refine j_topeq (y := nI (pNs S - 1)) (by rw [eS1, setF_at, if_pos ⟨rfl, rfl, rfl, rfl⟩]) ?_
  refine j_iadd X dX5_undo_43 rfl ?_
  refine j_topeq (y := nI ((pOs S) + (pNs S - 1))) (nI_add (pOs S) (pNs S - 1)) ?_
  refine j_iconst X dX5_undo_44 rfl (v := 4) (by decide) ?_
  refine j_irem X dX5_undo_45 rfl (by decide) ?_
  refine j_topeq (y := nI (((pOs S) + (pNs S - 1)) % 4)) (pk_rem (by omega) (by decide) (by decide)) ?_
  refine j_aldMN X (g := ((pOs S) + (pNs S - 1)) % 4) (Nat.mod_lt _ (by decide)) dX5_undo_46 rfl ?_
  refine j_callNv X (c_X2_copyFrom l Z S1 h 0 (((pOs S) + (pNs S - 1)) % 4 + 2) (by decide) (by omega) (by subst eS1; rw [setF_m (show _ + 2 ≠ 6 by omega)]; exact hqs) (by subst eS1; show (setF S 6 0 0 7 _ _ 4 4 7).toNatClampNeg ≤ _; rw [setF_m (show _ + 2 ≠ 6 by omega)]; unfold rmI; rw [if_neg (by omega)]; exact hqs.2)) (wm_mach (by decide) (by decide)) (wE_mach (by decide) 0 _) rfl nk_RX5_224 mi_X2_copyFrom ms_X2_copyFrom ini_RX2 mc_X2_copyFrom md_X2_copyFrom ⟨Nat.le_of_ble_eq_true rfl, Nat.le_of_ble_eq_true rfl⟩ ⟨Nat.le_of_ble_eq_true rfl, Nat.le_of_ble_eq_true rfl⟩ rfl (Nat.le_of_ble_eq_true rfl) (as := [.ref (zA Z (((pOs S) + (pNs S - 1)) % 4 + 2) (4) (0))]) (rest := []) rfl dX5_undo_47 rfl ?_
  refine j_name (fun S2 eS2 => ?_)
  refine j_aload_n X dX5_undo_50 rfl rfl (q := 0) rfl ?_
  refine jg_top X 7 (by decide) lk_RX5_43 rfl rfl dX5_undo_51 rfl ?_
  exact j_ret (by subst eS1; subst eS2; first | with_reducible rfl | (simp [pUndo]; done) | (simp_all [pUndo]; done) | rfl) (by subst eS1; subst eS2; first | with_reducible rfl | (simp [pUndo]; done) | (simp_all [pUndo]; done) | rfl) rfl (K _ _ dX5_undo_54)
set_option maxRecDepth 100000 in
set_option maxHeartbeats 4000000 in
theorem L_mixA (l : Launch) (Z : wZ) (h : Hl) (S : St) (a : Nat) (ha : a < 4) (hc : pHasC S 0 (nI a) = true) {p : Program} {e : Env} {s : State} {mi : MethodId} {args : Array Value} {below : List Frame} {meth : Method} {c : Code} {A0 : Nat → Prop} {Q : State → Prop} (X : JX p s mi args meth c cX5_mixCore 7 yX5_mixCore.cls Z A0) : ∀ (n k : Nat) (hv : Int64), k + n = 6 → J p l e { frames := 2, cells := 0, slots := 0, locals := 44 } s mi args below meth c 7 Z A0 0 0 Q (S) h [(4, .long ((lp (pDgA S a) n k hv))), (0, .ref (zA Z (6) (0) (0))), (3, .int (nI (a)))] 33 [] → J p l e { frames := 2, cells := 0, slots := 0, locals := 44 } s mi args below meth c 7 Z A0 0 0 Q S h [(6, .int (nI (k))), (4, .long (hv)), (0, .ref (zA Z (6) (0) (0))), (3, .int (nI (a)))] 6 [] := by
  intro n
  induction n with
  | zero =>
    intro k hv hkn hk
    have hkN : 6 = k := by omega
    subst hkN
    refine j_iload X dX5_mixCore_6 rfl (q := 0) rfl ?_
    refine j_bipush X dX5_mixCore_8 rfl (v := 6) (by decide) ?_
    refine j_icmp_ge_t X (tgt := 33) dX5_mixCore_10 (by decide) (nI_le (Nat.le_refl _) (by decide)) ?_
    refine j_sub [1, 2, 3] (Ls2 := [(4, .long (hv)), (0, .ref (zA Z (6) (0) (0))), (3, .int (nI (a)))]) rfl ?_
    exact hk
  | succ n ih =>
    intro k hv hkn hk
    have hlt : k < 6 := by omega
    refine j_iload X dX5_mixCore_6 rfl (q := 0) rfl ?_
    refine j_bipush X dX5_mixCore_8 rfl (v := 6) (by decide) ?_
    refine j_icmp_ge_f X dX5_mixCore_10 rfl (tgt := 33) (by decide) (nI_ge hlt (by decide)) ?_
    refine j_lload X dX5_mixCore_13 rfl (q := 1) rfl ?_
    refine j_aload_n X dX5_mixCore_15 rfl rfl (q := 2) rfl ?_
    refine j_iload_n X dX5_mixCore_16 rfl rfl (q := 3) rfl ?_
    refine j_iload X dX5_mixCore_17 rfl (q := 0) rfl ?_
    refine j_calli X (c_X5_core l Z S h a ha hc k (by omega)) (wm_top (by decide)) ((fun _ => rfl) _) rfl lk_RX5_244 mi_X5_core ms_X5_core ini_RX5 mc_X5_core md_X5_core ⟨Nat.le_of_ble_eq_true rfl, Nat.le_of_ble_eq_true rfl⟩ ⟨Nat.le_of_ble_eq_true rfl, Nat.le_of_ble_eq_true rfl⟩ rfl (Nat.le_of_ble_eq_true rfl) (as := [.int (nI (a)), .int (nI (k))]) (rest := [.long (hv)]) rfl dX5_mixCore_19 rfl ?_
    refine j_callSl X (c_X5_mix l Z S h (hv) (pCFact S 0 a k)) lk_RX5_230 mt_X5_mix ini_RX5 mc_X5_mix md_X5_mix ⟨Nat.le_of_ble_eq_true rfl, Nat.le_of_ble_eq_true rfl⟩ ⟨Nat.le_of_ble_eq_true rfl, Nat.le_of_ble_eq_true rfl⟩ rfl (Nat.le_of_ble_eq_true rfl) (as := [.long (hv), .int (pCFact S 0 a k)]) (rest := []) rfl dX5_mixCore_22 rfl ?_
    refine j_lstore X dX5_mixCore_25 rfl (by decide) (Ls2 := [(4, .long (pMix (hv) (pCFact S 0 a k))), (6, .int (nI (k))), (0, .ref (zA Z (6) (0) (0))), (3, .int (nI (a)))]) rfl ?_
    refine j_iinc X dX5_mixCore_27 rfl (q := 1) rfl (v := (nI (k + 1))) (nI_1 _) (by decide) (Ls2 := [(6, .int (nI (k + 1))), (4, .long (pMix (hv) (pCFact S 0 a k))), (0, .ref (zA Z (6) (0) (0))), (3, .int (nI (a)))]) rfl ?_
    refine j_goto X (tgt := 6) dX5_mixCore_30 (by decide) ?_
    refine j_sub [0, 1, 2, 3] (Ls2 := [(6, .int (nI (k + 1))), (4, .long (pMix (hv) (pCFact S 0 a k))), (0, .ref (zA Z (6) (0) (0))), (3, .int (nI (a)))]) rfl ?_
    have eB : (pDgA S a) k hv = (pMix (hv) (pCFact S 0 a k)) := by first | with_reducible rfl | (simp [pDgA]; done) | (simp_all [pDgA]; done) | rfl
    have eL : lp (pDgA S a) (n + 1) k hv = lp (pDgA S a) n (k + 1) (pMix (hv) (pCFact S 0 a k)) := congrArg (lp (pDgA S a) n (k + 1)) eB
    rw [eL] at hk
    exact ih (k + 1) ((pMix (hv) (pCFact S 0 a k))) (by omega) hk
set_option maxRecDepth 100000 in
set_option maxHeartbeats 4000000 in
theorem L_mixB (l : Launch) (Z : wZ) (h : Hl) (S : St) (a : Nat) (ha : a < 4) (hc : pHasC S 0 (nI a) = true) {p : Program} {e : Env} {s : State} {mi : MethodId} {args : Array Value} {below : List Frame} {meth : Method} {c : Code} {A0 : Nat → Prop} {Q : State → Prop} (X : JX p s mi args meth c cX5_mixCore 7 yX5_mixCore.cls Z A0) : ∀ (n k : Nat) (hv : Int64), k + n = 8 → J p l e { frames := 2, cells := 0, slots := 0, locals := 44 } s mi args below meth c 7 Z A0 0 0 Q (S) h [(4, .long ((lp (pDgB S a) n k hv)))] 103 [] → J p l e { frames := 2, cells := 0, slots := 0, locals := 44 } s mi args below meth c 7 Z A0 0 0 Q S h [(6, .int (nI (k))), (4, .long (hv)), (0, .ref (zA Z (6) (0) (0))), (3, .int (nI (a)))] 62 [] := by
  intro n
  induction n with
  | zero =>
    intro k hv hkn hk
    have hkN : 8 = k := by omega
    subst hkN
    refine j_iload X dX5_mixCore_62 rfl (q := 0) rfl ?_
    refine j_bipush X dX5_mixCore_64 rfl (v := 8) (by decide) ?_
    refine j_icmp_ge_t X (tgt := 103) dX5_mixCore_66 (by decide) (nI_le (Nat.le_refl _) (by decide)) ?_
    refine j_sub [1] (Ls2 := [(4, .long (hv))]) rfl ?_
    exact hk
  | succ n ih =>
    intro k hv hkn hk
    have hlt : k < 8 := by omega
    refine j_iload X dX5_mixCore_62 rfl (q := 0) rfl ?_
    refine j_bipush X dX5_mixCore_64 rfl (v := 8) (by decide) ?_
    refine j_icmp_ge_f X dX5_mixCore_66 rfl (tgt := 103) (by decide) (nI_ge hlt (by decide)) ?_
    refine j_lload X dX5_mixCore_69 rfl (q := 1) rfl ?_
    refine j_aload_n X dX5_mixCore_71 rfl rfl (q := 2) rfl ?_
    refine j_iload_n X dX5_mixCore_72 rfl rfl (q := 3) rfl ?_
    refine j_iload X dX5_mixCore_73 rfl (q := 0) rfl ?_
    refine j_calli X (c_X5_state l Z S h a ha hc k (by omega)) (wm_top (by decide)) ((fun _ => rfl) _) rfl lk_RX5_250 mi_X5_state ms_X5_state ini_RX5 mc_X5_state md_X5_state ⟨Nat.le_of_ble_eq_true rfl, Nat.le_of_ble_eq_true rfl⟩ ⟨Nat.le_of_ble_eq_true rfl, Nat.le_of_ble_eq_true rfl⟩ rfl (Nat.le_of_ble_eq_true rfl) (as := [.int (nI (a)), .int (nI (k))]) (rest := [.long (hv)]) rfl dX5_mixCore_75 rfl ?_
    refine j_callSl X (c_X5_mix l Z S h (hv) (S 0 a 1 k)) lk_RX5_230 mt_X5_mix ini_RX5 mc_X5_mix md_X5_mix ⟨Nat.le_of_ble_eq_true rfl, Nat.le_of_ble_eq_true rfl⟩ ⟨Nat.le_of_ble_eq_true rfl, Nat.le_of_ble_eq_true rfl⟩ rfl (Nat.le_of_ble_eq_true rfl) (as := [.long (hv), .int (S 0 a 1 k)]) (rest := []) rfl dX5_mixCore_78 rfl ?_
    refine j_lstore X dX5_mixCore_81 rfl (by decide) (Ls2 := [(4, .long (pMix (hv) (S 0 a 1 k))), (6, .int (nI (k))), (0, .ref (zA Z (6) (0) (0))), (3, .int (nI (a)))]) rfl ?_
    refine j_lload X dX5_mixCore_83 rfl (q := 0) rfl ?_
    refine j_aload_n X dX5_mixCore_85 rfl rfl (q := 2) rfl ?_
    refine j_iload_n X dX5_mixCore_86 rfl rfl (q := 3) rfl ?_
    refine j_iload X dX5_mixCore_87 rfl (q := 1) rfl ?_
    refine j_calli X (c_X5_cached l Z S h a ha hc k (by omega)) (wm_top (by decide)) ((fun _ => rfl) _) rfl lk_RX5_253 mi_X5_cached ms_X5_cached ini_RX5 mc_X5_cached md_X5_cached ⟨Nat.le_of_ble_eq_true rfl, Nat.le_of_ble_eq_true rfl⟩ ⟨Nat.le_of_ble_eq_true rfl, Nat.le_of_ble_eq_true rfl⟩ rfl (Nat.le_of_ble_eq_true rfl) (as := [.int (nI (a)), .int (nI (k))]) (rest := [.long (pMix (hv) (S 0 a 1 k))]) rfl dX5_mixCore_89 rfl ?_
    refine j_callSl X (c_X5_mix l Z S h (pMix (hv) (S 0 a 1 k)) (pCached S a k)) lk_RX5_230 mt_X5_mix ini_RX5 mc_X5_mix md_X5_mix ⟨Nat.le_of_ble_eq_true rfl, Nat.le_of_ble_eq_true rfl⟩ ⟨Nat.le_of_ble_eq_true rfl, Nat.le_of_ble_eq_true rfl⟩ rfl (Nat.le_of_ble_eq_true rfl) (as := [.long (pMix (hv) (S 0 a 1 k)), .int (pCached S a k)]) (rest := []) rfl dX5_mixCore_92 rfl ?_
    refine j_lstore X dX5_mixCore_95 rfl (by decide) (Ls2 := [(4, .long (pMix (pMix (hv) (S 0 a 1 k)) (pCached S a k))), (6, .int (nI (k))), (0, .ref (zA Z (6) (0) (0))), (3, .int (nI (a)))]) rfl ?_
    refine j_iinc X dX5_mixCore_97 rfl (q := 1) rfl (v := (nI (k + 1))) (nI_1 _) (by decide) (Ls2 := [(6, .int (nI (k + 1))), (4, .long (pMix (pMix (hv) (S 0 a 1 k)) (pCached S a k))), (0, .ref (zA Z (6) (0) (0))), (3, .int (nI (a)))]) rfl ?_
    refine j_goto X (tgt := 62) dX5_mixCore_100 (by decide) ?_
    refine j_sub [0, 1, 2, 3] (Ls2 := [(6, .int (nI (k + 1))), (4, .long (pMix (pMix (hv) (S 0 a 1 k)) (pCached S a k))), (0, .ref (zA Z (6) (0) (0))), (3, .int (nI (a)))]) rfl ?_
    have eB : (pDgB S a) k hv = (pMix (pMix (hv) (S 0 a 1 k)) (pCached S a k)) := by first | with_reducible rfl | (simp [pDgB]; done) | (simp_all [pDgB]; done) | rfl
    have eL : lp (pDgB S a) (n + 1) k hv = lp (pDgB S a) n (k + 1) (pMix (pMix (hv) (S 0 a 1 k)) (pCached S a k)) := congrArg (lp (pDgB S a) n (k + 1)) eB
    rw [eL] at hk
    exact ih (k + 1) ((pMix (pMix (hv) (S 0 a 1 k)) (pCached S a k))) (by omega) hk
set_option maxRecDepth 100000 in
set_option maxHeartbeats 4000000 in
theorem c_X5_mixCore (l : Launch) (Z : wZ) (S : St) (h : Hl) (a : Nat) (ha : a < 4) (hc : pHasC S 0 (nI a) = true) (hv : Int64) : Cl l yX5_mixCore cX5_mixCore 7 2 44 Z [.ref (zA Z (6) (0) (0)), .long (hv), .int (nI (a))] S h (pDgC S hv a) (S) (h) := by
  refine Cl.of rfl (Nat.le_of_ble_eq_true rfl) (fun p e s mi args below meth c A0 Q X K => ?_)
  refine j_at rfl rfl (Ls3 := [(0, .ref (zA Z (6) (0) (0))), (1, .long (hv)), (3, .int (nI (a)))]) rfl rfl ?_
  refine j_lload_n X dX5_mixCore_0 rfl rfl (q := 1) rfl ?_
  refine j_lstore X dX5_mixCore_1 rfl (by decide) (Ls2 := [(4, .long (hv)), (0, .ref (zA Z (6) (0) (0))), (1, .long (hv)), (3, .int (nI (a)))]) rfl ?_
  refine j_iconst X dX5_mixCore_3 rfl (v := 0) (by decide) ?_
  refine j_istore X dX5_mixCore_4 rfl (by decide) (Ls2 := [(6, .int (0)), (4, .long (hv)), (0, .ref (zA Z (6) (0) (0))), (1, .long (hv)), (3, .int (nI (a)))]) rfl ?_
  refine j_sub [0, 1, 2, 4] (Ls2 := [(6, .int (0)), (4, .long (hv)), (0, .ref (zA Z (6) (0) (0))), (3, .int (nI (a)))]) rfl ?_
  refine L_mixA l Z h S a ha hc X 6 0 ((hv)) (by omega) ?_
  refine j_lload X dX5_mixCore_33 rfl (q := 0) rfl ?_
  refine j_aload_n X dX5_mixCore_35 rfl rfl (q := 1) rfl ?_
  refine j_iload_n X dX5_mixCore_36 rfl rfl (q := 2) rfl ?_
  refine j_iconst X dX5_mixCore_37 rfl (v := 0) (by decide) ?_
  refine j_calli X (c_X5_set l Z S h a ha hc false) (wm_top (by decide)) ((fun _ => rfl) _) rfl lk_RX5_247 mi_X5_set ms_X5_set ini_RX5 mc_X5_set md_X5_set ⟨Nat.le_of_ble_eq_true rfl, Nat.le_of_ble_eq_true rfl⟩ ⟨Nat.le_of_ble_eq_true rfl, Nat.le_of_ble_eq_true rfl⟩ rfl (Nat.le_of_ble_eq_true rfl) (as := [.int (nI (a)), .int (0)]) (rest := [.long ((lp (pDgA S a) 6 0 (hv)))]) rfl dX5_mixCore_38 rfl ?_
  refine j_callSl X (c_X5_mix l Z S h ((lp (pDgA S a) 6 0 (hv))) (if false = true then S 0 a 0 10 else S 0 a 0 9)) lk_RX5_230 mt_X5_mix ini_RX5 mc_X5_mix md_X5_mix ⟨Nat.le_of_ble_eq_true rfl, Nat.le_of_ble_eq_true rfl⟩ ⟨Nat.le_of_ble_eq_true rfl, Nat.le_of_ble_eq_true rfl⟩ rfl (Nat.le_of_ble_eq_true rfl) (as := [.long ((lp (pDgA S a) 6 0 (hv))), .int (if false = true then S 0 a 0 10 else S 0 a 0 9)]) (rest := []) rfl dX5_mixCore_41 rfl ?_
  refine j_lstore X dX5_mixCore_44 rfl (by decide) (Ls2 := [(4, .long (pMix ((lp (pDgA S a) 6 0 (hv))) (if false = true then S 0 a 0 10 else S 0 a 0 9))), (0, .ref (zA Z (6) (0) (0))), (3, .int (nI (a)))]) rfl ?_
  refine j_lload X dX5_mixCore_46 rfl (q := 0) rfl ?_
  refine j_aload_n X dX5_mixCore_48 rfl rfl (q := 1) rfl ?_
  refine j_iload_n X dX5_mixCore_49 rfl rfl (q := 2) rfl ?_
  refine j_iconst X dX5_mixCore_50 rfl (v := 1) (by decide) ?_
  refine j_calli X (c_X5_set l Z S h a ha hc true) (wm_top (by decide)) ((fun _ => rfl) _) rfl lk_RX5_247 mi_X5_set ms_X5_set ini_RX5 mc_X5_set md_X5_set ⟨Nat.le_of_ble_eq_true rfl, Nat.le_of_ble_eq_true rfl⟩ ⟨Nat.le_of_ble_eq_true rfl, Nat.le_of_ble_eq_true rfl⟩ rfl (Nat.le_of_ble_eq_true rfl) (as := [.int (nI (a)), .int (1)]) (rest := [.long (pMix ((lp (pDgA S a) 6 0 (hv))) (if false = true then S 0 a 0 10 else S 0 a 0 9))]) rfl dX5_mixCore_51 rfl ?_
  refine j_callSl X (c_X5_mix l Z S h (pMix ((lp (pDgA S a) 6 0 (hv))) (if false = true then S 0 a 0 10 else S 0 a 0 9)) (if true = true then S 0 a 0 10 else S 0 a 0 9)) lk_RX5_230 mt_X5_mix ini_RX5 mc_X5_mix md_X5_mix ⟨Nat.le_of_ble_eq_true rfl, Nat.le_of_ble_eq_true rfl⟩ ⟨Nat.le_of_ble_eq_true rfl, Nat.le_of_ble_eq_true rfl⟩ rfl (Nat.le_of_ble_eq_true rfl) (as := [.long (pMix ((lp (pDgA S a) 6 0 (hv))) (if false = true then S 0 a 0 10 else S 0 a 0 9)), .int (if true = true then S 0 a 0 10 else S 0 a 0 9)]) (rest := []) rfl dX5_mixCore_54 rfl ?_
  refine j_lstore X dX5_mixCore_57 rfl (by decide) (Ls2 := [(4, .long (pMix (pMix ((lp (pDgA S a) 6 0 (hv))) (if false = true then S 0 a 0 10 else S 0 a 0 9)) (if true = true then S 0 a 0 10 else S 0 a 0 9))), (0, .ref (zA Z (6) (0) (0))), (3, .int (nI (a)))]) rfl ?_
  refine j_iconst X dX5_mixCore_59 rfl (v := 0) (by decide) ?_
  refine j_istore X dX5_mixCore_60 rfl (by decide) (Ls2 := [(6, .int (0)), (4, .long (pMix (pMix ((lp (pDgA S a) 6 0 (hv))) (if false = true then S 0 a 0 10 else S 0 a 0 9)) (if true = true then S 0 a 0 10 else S 0 a 0 9))), (0, .ref (zA Z (6) (0) (0))), (3, .int (nI (a)))]) rfl ?_
  refine j_sub [0, 1, 2, 3] (Ls2 := [(6, .int (0)), (4, .long (pMix (pMix ((lp (pDgA S a) 6 0 (hv))) (if false = true then S 0 a 0 10 else S 0 a 0 9)) (if true = true then S 0 a 0 10 else S 0 a 0 9))), (0, .ref (zA Z (6) (0) (0))), (3, .int (nI (a)))]) rfl ?_
  refine L_mixB l Z h S a ha hc X 8 0 ((pMix (pMix ((lp (pDgA S a) 6 0 (hv))) (if false = true then S 0 a 0 10 else S 0 a 0 9)) (if true = true then S 0 a 0 10 else S 0 a 0 9))) (by omega) ?_
  refine j_lload X dX5_mixCore_103 rfl (q := 0) rfl ?_
  exact j_retl (by first | with_reducible rfl | (simp [pDgC]; done) | (simp_all [pDgC]; done) | rfl) (by first | with_reducible rfl | (simp [pDgC]; done) | (simp_all [pDgC]; done) | rfl) rfl (K _ _ dX5_mixCore_105)
set_option maxRecDepth 100000 in
set_option maxHeartbeats 4000000 in
theorem L_dg1 (l : Launch) (Z : wZ) (h : Hl) (S : St) (hcc : okI (S 0 4 0 4) 4) {p : Program} {e : Env} {s : State} {mi : MethodId} {args : Array Value} {below : List Frame} {meth : Method} {c : Code} {A0 : Nat → Prop} {Q : State → Prop} (X : JX p s mi args meth c cX5_digest 4 yX5_digest.cls Z A0) : ∀ (n k : Nat) (hv : Int64), k + n = 5 → J p l e { frames := 3, cells := 0, slots := 0, locals := 70 } s mi args below meth c 4 Z A0 0 0 Q (S) h [(1, .long ((lp (pDg1 S) n k hv))), (0, .ref (zA Z (6) (0) (0)))] 37 [] → J p l e { frames := 3, cells := 0, slots := 0, locals := 70 } s mi args below meth c 4 Z A0 0 0 Q S h [(3, .int (nI (k))), (1, .long (hv)), (0, .ref (zA Z (6) (0) (0)))] 13 [] := by
  intro n
  induction n with
  | zero =>
    intro k hv hkn hk
    have hkN : 5 = k := by omega
    subst hkN
    refine j_iload_n X dX5_digest_13 rfl rfl (q := 0) rfl ?_
    refine j_iconst X dX5_digest_14 rfl (v := 5) (by decide) ?_
    refine j_icmp_ge_t X (tgt := 37) dX5_digest_15 (by decide) (nI_le (Nat.le_refl _) (by decide)) ?_
    refine j_sub [1, 2] (Ls2 := [(1, .long (hv)), (0, .ref (zA Z (6) (0) (0)))]) rfl ?_
    exact hk
  | succ n ih =>
    intro k hv hkn hk
    have hlt : k < 5 := by omega
    refine j_iload_n X dX5_digest_13 rfl rfl (q := 0) rfl ?_
    refine j_iconst X dX5_digest_14 rfl (v := 5) (by decide) ?_
    refine j_icmp_ge_f X dX5_digest_15 rfl (tgt := 37) (by decide) (nI_ge hlt (by decide)) ?_
    refine j_lload_n X dX5_digest_18 rfl rfl (q := 1) rfl ?_
    refine j_aload_n X dX5_digest_19 rfl rfl (q := 2) rfl ?_
    refine jg_top X 3 (by decide) lk_RX5_29 rfl rfl dX5_digest_20 rfl ?_
    refine j_iload_n X dX5_digest_23 rfl rfl (q := 0) rfl ?_
    refine j_callNi X (c_X2_fact l Z S h 0 (by decide) hcc k (by omega)) (wm_mach (by decide) (by decide)) (wE_mach (by decide) 0 _) rfl nk_RX5_192 mi_X2_fact ms_X2_fact ini_RX2 mc_X2_fact md_X2_fact ⟨Nat.le_of_ble_eq_true rfl, Nat.le_of_ble_eq_true rfl⟩ ⟨Nat.le_of_ble_eq_true rfl, Nat.le_of_ble_eq_true rfl⟩ rfl (Nat.le_of_ble_eq_true rfl) (as := [.int (nI (k))]) (rest := [.long (hv)]) rfl dX5_digest_24 rfl ?_
    refine j_callSl X (c_X5_mix l Z S h (hv) (pMFact S 0 k)) lk_RX5_230 mt_X5_mix ini_RX5 mc_X5_mix md_X5_mix ⟨Nat.le_of_ble_eq_true rfl, Nat.le_of_ble_eq_true rfl⟩ ⟨Nat.le_of_ble_eq_true rfl, Nat.le_of_ble_eq_true rfl⟩ rfl (Nat.le_of_ble_eq_true rfl) (as := [.long (hv), .int (pMFact S 0 k)]) (rest := []) rfl dX5_digest_27 rfl ?_
    refine j_lstore_n X dX5_digest_30 rfl rfl (by decide) (Ls2 := [(1, .long (pMix (hv) (pMFact S 0 k))), (3, .int (nI (k))), (0, .ref (zA Z (6) (0) (0)))]) rfl ?_
    refine j_iinc X dX5_digest_31 rfl (q := 1) rfl (v := (nI (k + 1))) (nI_1 _) (by decide) (Ls2 := [(3, .int (nI (k + 1))), (1, .long (pMix (hv) (pMFact S 0 k))), (0, .ref (zA Z (6) (0) (0)))]) rfl ?_
    refine j_goto X (tgt := 13) dX5_digest_34 (by decide) ?_
    refine j_sub [0, 1, 2] (Ls2 := [(3, .int (nI (k + 1))), (1, .long (pMix (hv) (pMFact S 0 k))), (0, .ref (zA Z (6) (0) (0)))]) rfl ?_
    have eB : (pDg1 S) k hv = (pMix (hv) (pMFact S 0 k)) := by first | with_reducible rfl | (simp [pDg1]; done) | (simp_all [pDg1]; done) | rfl
    have eL : lp (pDg1 S) (n + 1) k hv = lp (pDg1 S) n (k + 1) (pMix (hv) (pMFact S 0 k)) := congrArg (lp (pDg1 S) n (k + 1)) eB
    rw [eL] at hk
    exact ih (k + 1) ((pMix (hv) (pMFact S 0 k))) (by omega) hk
set_option maxRecDepth 100000 in
set_option maxHeartbeats 4000000 in
theorem L_dg2 (l : Launch) (Z : wZ) (h : Hl) (S : St) (hcc : okI (S 0 4 0 4) 4) {p : Program} {e : Env} {s : State} {mi : MethodId} {args : Array Value} {below : List Frame} {meth : Method} {c : Code} {A0 : Nat → Prop} {Q : State → Prop} (X : JX p s mi args meth c cX5_digest 4 yX5_digest.cls Z A0) : ∀ (n k : Nat) (hv : Int64), k + n = pCC S 0 → J p l e { frames := 3, cells := 0, slots := 0, locals := 70 } s mi args below meth c 4 Z A0 0 0 Q (S) h [(1, .long ((lp (pDg2 S) n k hv))), (0, .ref (zA Z (6) (0) (0)))] 75 [] → J p l e { frames := 3, cells := 0, slots := 0, locals := 70 } s mi args below meth c 4 Z A0 0 0 Q S h [(3, .int (nI (k))), (1, .long (hv)), (0, .ref (zA Z (6) (0) (0)))] 51 [] := by
  have hc4 : pCC S 0 ≤ 4 := hcc.2
  intro n
  induction n with
  | zero =>
    intro k hv hkn hk
    have hkN : pCC S 0 = k := by omega
    subst hkN
    refine j_iload_n X dX5_digest_51 rfl rfl (q := 0) rfl ?_
    refine j_aload_n X dX5_digest_52 rfl rfl (q := 2) rfl ?_
    refine jg_top X 3 (by decide) lk_RX5_29 rfl rfl dX5_digest_53 rfl ?_
    refine jgN_mach X (by decide) 4 (by decide) nk_RX5_234 rfl rfl dX5_digest_56 rfl ?_
    refine j_topeq (y := (nI (pCC S 0))) (hcc.1) ?_
    refine j_icmp_ge_t X (tgt := 75) dX5_digest_59 (by decide) (nI_le (Nat.le_refl _) (by have : pCC S 0 ≤ 4 := hcc.2; omega)) ?_
    refine j_sub [1, 2] (Ls2 := [(1, .long (hv)), (0, .ref (zA Z (6) (0) (0)))]) rfl ?_
    exact hk
  | succ n ih =>
    intro k hv hkn hk
    have hlt : k < pCC S 0 := by omega
    refine j_iload_n X dX5_digest_51 rfl rfl (q := 0) rfl ?_
    refine j_aload_n X dX5_digest_52 rfl rfl (q := 2) rfl ?_
    refine jg_top X 3 (by decide) lk_RX5_29 rfl rfl dX5_digest_53 rfl ?_
    refine jgN_mach X (by decide) 4 (by decide) nk_RX5_234 rfl rfl dX5_digest_56 rfl ?_
    refine j_topeq (y := (nI (pCC S 0))) (hcc.1) ?_
    refine j_icmp_ge_f X dX5_digest_59 rfl (tgt := 75) (by decide) (nI_ge hlt (by have : pCC S 0 ≤ 4 := hcc.2; omega)) ?_
    refine j_aload_n X dX5_digest_62 rfl rfl (q := 2) rfl ?_
    refine j_lload_n X dX5_digest_63 rfl rfl (q := 1) rfl ?_
    refine j_iload_n X dX5_digest_64 rfl rfl (q := 0) rfl ?_
    refine j_calll X (c_X5_mixCore l Z S h k (by omega) (pHasC_ok hcc (by omega)) hv) (wm_top (by decide)) ((fun _ => rfl) _) rfl lk_RX5_237 mi_X5_mixCore ms_X5_mixCore ini_RX5 mc_X5_mixCore md_X5_mixCore ⟨Nat.le_of_ble_eq_true rfl, Nat.le_of_ble_eq_true rfl⟩ ⟨Nat.le_of_ble_eq_true rfl, Nat.le_of_ble_eq_true rfl⟩ rfl (Nat.le_of_ble_eq_true rfl) (as := [.long (hv), .int (nI (k))]) (rest := []) rfl dX5_digest_65 rfl ?_
    refine j_lstore_n X dX5_digest_68 rfl rfl (by decide) (Ls2 := [(1, .long (pDgC S hv k)), (3, .int (nI (k))), (0, .ref (zA Z (6) (0) (0)))]) rfl ?_
    refine j_iinc X dX5_digest_69 rfl (q := 1) rfl (v := (nI (k + 1))) (nI_1 _) (by decide) (Ls2 := [(3, .int (nI (k + 1))), (1, .long (pDgC S hv k)), (0, .ref (zA Z (6) (0) (0)))]) rfl ?_
    refine j_goto X (tgt := 51) dX5_digest_72 (by decide) ?_
    refine j_sub [0, 1, 2] (Ls2 := [(3, .int (nI (k + 1))), (1, .long (pDgC S hv k)), (0, .ref (zA Z (6) (0) (0)))]) rfl ?_
    have eB : (pDg2 S) k hv = (pDgC S hv k) := by first | with_reducible rfl | (simp [pDg2]; done) | (simp_all [pDg2]; done) | rfl
    have eL : lp (pDg2 S) (n + 1) k hv = lp (pDg2 S) n (k + 1) (pDgC S hv k) := congrArg (lp (pDg2 S) n (k + 1)) eB
    rw [eL] at hk
    exact ih (k + 1) ((pDgC S hv k)) (by omega) hk
set_option maxRecDepth 100000 in
set_option maxHeartbeats 4000000 in
theorem L_dg3 (l : Launch) (Z : wZ) (h : Hl) (S : St) (hcc : okI (S 0 4 0 4) 4) {p : Program} {e : Env} {s : State} {mi : MethodId} {args : Array Value} {below : List Frame} {meth : Method} {c : Code} {A0 : Nat → Prop} {Q : State → Prop} (X : JX p s mi args meth c cX5_digest 4 yX5_digest.cls Z A0) : ∀ (n k : Nat) (hv : Int64), k + n = 8 → J p l e { frames := 3, cells := 0, slots := 0, locals := 70 } s mi args below meth c 4 Z A0 0 0 Q (S) h [(1, .long ((lp (pDg3 S) n k hv))), (0, .ref (zA Z (6) (0) (0)))] 100 [] → J p l e { frames := 3, cells := 0, slots := 0, locals := 70 } s mi args below meth c 4 Z A0 0 0 Q S h [(3, .int (nI (k))), (1, .long (hv)), (0, .ref (zA Z (6) (0) (0)))] 77 [] := by
  intro n
  induction n with
  | zero =>
    intro k hv hkn hk
    have hkN : 8 = k := by omega
    subst hkN
    refine j_iload_n X dX5_digest_77 rfl rfl (q := 0) rfl ?_
    refine j_bipush X dX5_digest_78 rfl (v := 8) (by decide) ?_
    refine j_icmp_ge_t X (tgt := 100) dX5_digest_80 (by decide) (nI_le (Nat.le_refl _) (by decide)) ?_
    refine j_sub [1, 2] (Ls2 := [(1, .long (hv)), (0, .ref (zA Z (6) (0) (0)))]) rfl ?_
    exact hk
  | succ n ih =>
    intro k hv hkn hk
    have hlt : k < 8 := by omega
    refine j_iload_n X dX5_digest_77 rfl rfl (q := 0) rfl ?_
    refine j_bipush X dX5_digest_78 rfl (v := 8) (by decide) ?_
    refine j_icmp_ge_f X dX5_digest_80 rfl (tgt := 100) (by decide) (nI_ge hlt (by decide)) ?_
    refine j_lload_n X dX5_digest_83 rfl rfl (q := 1) rfl ?_
    refine j_aload_n X dX5_digest_84 rfl rfl (q := 2) rfl ?_
    refine j_iload_n X dX5_digest_85 rfl rfl (q := 0) rfl ?_
    refine j_iconst X dX5_digest_86 rfl (v := 0) (by decide) ?_
    refine j_calli X (c_X5_memory l Z S h k (by omega) false hcc) (wm_top (by decide)) ((fun _ => rfl) _) rfl lk_RX5_240 mi_X5_memory ms_X5_memory ini_RX5 mc_X5_memory md_X5_memory ⟨Nat.le_of_ble_eq_true rfl, Nat.le_of_ble_eq_true rfl⟩ ⟨Nat.le_of_ble_eq_true rfl, Nat.le_of_ble_eq_true rfl⟩ rfl (Nat.le_of_ble_eq_true rfl) (as := [.int (nI (k)), .int (0)]) (rest := [.long (hv)]) rfl dX5_digest_87 rfl ?_
    refine j_callSl X (c_X5_mix l Z S h (hv) (if false = true then pCom S 0 k else S 0 4 2 k)) lk_RX5_230 mt_X5_mix ini_RX5 mc_X5_mix md_X5_mix ⟨Nat.le_of_ble_eq_true rfl, Nat.le_of_ble_eq_true rfl⟩ ⟨Nat.le_of_ble_eq_true rfl, Nat.le_of_ble_eq_true rfl⟩ rfl (Nat.le_of_ble_eq_true rfl) (as := [.long (hv), .int (if false = true then pCom S 0 k else S 0 4 2 k)]) (rest := []) rfl dX5_digest_90 rfl ?_
    refine j_lstore_n X dX5_digest_93 rfl rfl (by decide) (Ls2 := [(1, .long (pMix (hv) (if false = true then pCom S 0 k else S 0 4 2 k))), (3, .int (nI (k))), (0, .ref (zA Z (6) (0) (0)))]) rfl ?_
    refine j_iinc X dX5_digest_94 rfl (q := 1) rfl (v := (nI (k + 1))) (nI_1 _) (by decide) (Ls2 := [(3, .int (nI (k + 1))), (1, .long (pMix (hv) (if false = true then pCom S 0 k else S 0 4 2 k))), (0, .ref (zA Z (6) (0) (0)))]) rfl ?_
    refine j_goto X (tgt := 77) dX5_digest_97 (by decide) ?_
    refine j_sub [0, 1, 2] (Ls2 := [(3, .int (nI (k + 1))), (1, .long (pMix (hv) (if false = true then pCom S 0 k else S 0 4 2 k))), (0, .ref (zA Z (6) (0) (0)))]) rfl ?_
    have eB : (pDg3 S) k hv = (pMix (hv) (if false = true then pCom S 0 k else S 0 4 2 k)) := by first | with_reducible rfl | (simp [pDg3]; done) | (simp_all [pDg3]; done) | rfl
    have eL : lp (pDg3 S) (n + 1) k hv = lp (pDg3 S) n (k + 1) (pMix (hv) (if false = true then pCom S 0 k else S 0 4 2 k)) := congrArg (lp (pDg3 S) n (k + 1)) eB
    rw [eL] at hk
    exact ih (k + 1) ((pMix (hv) (if false = true then pCom S 0 k else S 0 4 2 k))) (by omega) hk
set_option maxRecDepth 100000 in
set_option maxHeartbeats 4000000 in
theorem L_dg4 (l : Launch) (Z : wZ) (h : Hl) (S : St) (hcc : okI (S 0 4 0 4) 4) {p : Program} {e : Env} {s : State} {mi : MethodId} {args : Array Value} {below : List Frame} {meth : Method} {c : Code} {A0 : Nat → Prop} {Q : State → Prop} (X : JX p s mi args meth c cX5_digest 4 yX5_digest.cls Z A0) : ∀ (n k : Nat) (hv : Int64), k + n = 8 → J p l e { frames := 3, cells := 0, slots := 0, locals := 70 } s mi args below meth c 4 Z A0 0 0 Q (S) h [(1, .long ((lp (pDg4 S) n k hv))), (0, .ref (zA Z (6) (0) (0)))] 125 [] → J p l e { frames := 3, cells := 0, slots := 0, locals := 70 } s mi args below meth c 4 Z A0 0 0 Q S h [(3, .int (nI (k))), (1, .long (hv)), (0, .ref (zA Z (6) (0) (0)))] 102 [] := by
  intro n
  induction n with
  | zero =>
    intro k hv hkn hk
    have hkN : 8 = k := by omega
    subst hkN
    refine j_iload_n X dX5_digest_102 rfl rfl (q := 0) rfl ?_
    refine j_bipush X dX5_digest_103 rfl (v := 8) (by decide) ?_
    refine j_icmp_ge_t X (tgt := 125) dX5_digest_105 (by decide) (nI_le (Nat.le_refl _) (by decide)) ?_
    refine j_sub [1, 2] (Ls2 := [(1, .long (hv)), (0, .ref (zA Z (6) (0) (0)))]) rfl ?_
    exact hk
  | succ n ih =>
    intro k hv hkn hk
    have hlt : k < 8 := by omega
    refine j_iload_n X dX5_digest_102 rfl rfl (q := 0) rfl ?_
    refine j_bipush X dX5_digest_103 rfl (v := 8) (by decide) ?_
    refine j_icmp_ge_f X dX5_digest_105 rfl (tgt := 125) (by decide) (nI_ge hlt (by decide)) ?_
    refine j_lload_n X dX5_digest_108 rfl rfl (q := 1) rfl ?_
    refine j_aload_n X dX5_digest_109 rfl rfl (q := 2) rfl ?_
    refine j_iload_n X dX5_digest_110 rfl rfl (q := 0) rfl ?_
    refine j_iconst X dX5_digest_111 rfl (v := 1) (by decide) ?_
    refine j_calli X (c_X5_memory l Z S h k (by omega) true hcc) (wm_top (by decide)) ((fun _ => rfl) _) rfl lk_RX5_240 mi_X5_memory ms_X5_memory ini_RX5 mc_X5_memory md_X5_memory ⟨Nat.le_of_ble_eq_true rfl, Nat.le_of_ble_eq_true rfl⟩ ⟨Nat.le_of_ble_eq_true rfl, Nat.le_of_ble_eq_true rfl⟩ rfl (Nat.le_of_ble_eq_true rfl) (as := [.int (nI (k)), .int (1)]) (rest := [.long (hv)]) rfl dX5_digest_112 rfl ?_
    refine j_callSl X (c_X5_mix l Z S h (hv) (if true = true then pCom S 0 k else S 0 4 2 k)) lk_RX5_230 mt_X5_mix ini_RX5 mc_X5_mix md_X5_mix ⟨Nat.le_of_ble_eq_true rfl, Nat.le_of_ble_eq_true rfl⟩ ⟨Nat.le_of_ble_eq_true rfl, Nat.le_of_ble_eq_true rfl⟩ rfl (Nat.le_of_ble_eq_true rfl) (as := [.long (hv), .int (if true = true then pCom S 0 k else S 0 4 2 k)]) (rest := []) rfl dX5_digest_115 rfl ?_
    refine j_lstore_n X dX5_digest_118 rfl rfl (by decide) (Ls2 := [(1, .long (pMix (hv) (if true = true then pCom S 0 k else S 0 4 2 k))), (3, .int (nI (k))), (0, .ref (zA Z (6) (0) (0)))]) rfl ?_
    refine j_iinc X dX5_digest_119 rfl (q := 1) rfl (v := (nI (k + 1))) (nI_1 _) (by decide) (Ls2 := [(3, .int (nI (k + 1))), (1, .long (pMix (hv) (if true = true then pCom S 0 k else S 0 4 2 k))), (0, .ref (zA Z (6) (0) (0)))]) rfl ?_
    refine j_goto X (tgt := 102) dX5_digest_122 (by decide) ?_
    refine j_sub [0, 1, 2] (Ls2 := [(3, .int (nI (k + 1))), (1, .long (pMix (hv) (if true = true then pCom S 0 k else S 0 4 2 k))), (0, .ref (zA Z (6) (0) (0)))]) rfl ?_
    have eB : (pDg4 S) k hv = (pMix (hv) (if true = true then pCom S 0 k else S 0 4 2 k)) := by first | with_reducible rfl | (simp [pDg4]; done) | (simp_all [pDg4]; done) | rfl
    have eL : lp (pDg4 S) (n + 1) k hv = lp (pDg4 S) n (k + 1) (pMix (hv) (if true = true then pCom S 0 k else S 0 4 2 k)) := congrArg (lp (pDg4 S) n (k + 1)) eB
    rw [eL] at hk
    exact ih (k + 1) ((pMix (hv) (if true = true then pCom S 0 k else S 0 4 2 k))) (by omega) hk
set_option maxRecDepth 100000 in
set_option maxHeartbeats 4000000 in
theorem L_dg5 (l : Launch) (Z : wZ) (h : Hl) (S : St) (hcc : okI (S 0 4 0 4) 4) {p : Program} {e : Env} {s : State} {mi : MethodId} {args : Array Value} {below : List Frame} {meth : Method} {c : Code} {A0 : Nat → Prop} {Q : State → Prop} (X : JX p s mi args meth c cX5_digest 4 yX5_digest.cls Z A0) : ∀ (n k : Nat) (hv : Int64), k + n = 8 → J p l e { frames := 3, cells := 0, slots := 0, locals := 70 } s mi args below meth c 4 Z A0 0 0 Q (S) h [(1, .long ((lp (pDg5 S) n k hv))), (0, .ref (zA Z (6) (0) (0)))] 153 [] → J p l e { frames := 3, cells := 0, slots := 0, locals := 70 } s mi args below meth c 4 Z A0 0 0 Q S h [(3, .int (nI (k))), (1, .long (hv)), (0, .ref (zA Z (6) (0) (0)))] 127 [] := by
  intro n
  induction n with
  | zero =>
    intro k hv hkn hk
    have hkN : 8 = k := by omega
    subst hkN
    refine j_iload_n X dX5_digest_127 rfl rfl (q := 0) rfl ?_
    refine j_bipush X dX5_digest_128 rfl (v := 8) (by decide) ?_
    refine j_icmp_ge_t X (tgt := 153) dX5_digest_130 (by decide) (nI_le (Nat.le_refl _) (by decide)) ?_
    refine j_sub [1, 2] (Ls2 := [(1, .long (hv)), (0, .ref (zA Z (6) (0) (0)))]) rfl ?_
    exact hk
  | succ n ih =>
    intro k hv hkn hk
    have hlt : k < 8 := by omega
    refine j_iload_n X dX5_digest_127 rfl rfl (q := 0) rfl ?_
    refine j_bipush X dX5_digest_128 rfl (v := 8) (by decide) ?_
    refine j_icmp_ge_f X dX5_digest_130 rfl (tgt := 153) (by decide) (nI_ge hlt (by decide)) ?_
    refine j_lload_n X dX5_digest_133 rfl rfl (q := 1) rfl ?_
    refine j_aload_n X dX5_digest_134 rfl rfl (q := 2) rfl ?_
    refine jg_top X 3 (by decide) lk_RX5_29 rfl rfl dX5_digest_135 rfl ?_
    refine jgN_mach X (by decide) 2 (by decide) nk_RX5_193 rfl rfl dX5_digest_138 rfl ?_
    refine j_iload_n X dX5_digest_141 rfl rfl (q := 0) rfl ?_
    refine j_ialdN X (k := k) (wm_mach (by decide) (by decide)) (wE_mach (by decide) 3 _) hlt (by decide) dX5_digest_142 rfl ?_
    refine j_callSl X (c_X5_mix l Z S h (hv) (S 0 4 3 k)) lk_RX5_230 mt_X5_mix ini_RX5 mc_X5_mix md_X5_mix ⟨Nat.le_of_ble_eq_true rfl, Nat.le_of_ble_eq_true rfl⟩ ⟨Nat.le_of_ble_eq_true rfl, Nat.le_of_ble_eq_true rfl⟩ rfl (Nat.le_of_ble_eq_true rfl) (as := [.long (hv), .int (S 0 4 3 k)]) (rest := []) rfl dX5_digest_143 rfl ?_
    refine j_lstore_n X dX5_digest_146 rfl rfl (by decide) (Ls2 := [(1, .long (pMix (hv) (S 0 4 3 k))), (3, .int (nI (k))), (0, .ref (zA Z (6) (0) (0)))]) rfl ?_
    refine j_iinc X dX5_digest_147 rfl (q := 1) rfl (v := (nI (k + 1))) (nI_1 _) (by decide) (Ls2 := [(3, .int (nI (k + 1))), (1, .long (pMix (hv) (S 0 4 3 k))), (0, .ref (zA Z (6) (0) (0)))]) rfl ?_
    refine j_goto X (tgt := 127) dX5_digest_150 (by decide) ?_
    refine j_sub [0, 1, 2] (Ls2 := [(3, .int (nI (k + 1))), (1, .long (pMix (hv) (S 0 4 3 k))), (0, .ref (zA Z (6) (0) (0)))]) rfl ?_
    have eB : (pDg5 S) k hv = (pMix (hv) (S 0 4 3 k)) := by first | with_reducible rfl | (simp [pDg5]; done) | (simp_all [pDg5]; done) | rfl
    have eL : lp (pDg5 S) (n + 1) k hv = lp (pDg5 S) n (k + 1) (pMix (hv) (S 0 4 3 k)) := congrArg (lp (pDg5 S) n (k + 1)) eB
    rw [eL] at hk
    exact ih (k + 1) ((pMix (hv) (S 0 4 3 k))) (by omega) hk
set_option maxRecDepth 100000 in
set_option maxHeartbeats 4000000 in
theorem c_X5_digest (l : Launch) (Z : wZ) (S : St) (h : Hl) (hcc : okI (S 0 4 0 4) 4) : Cl l yX5_digest cX5_digest 4 3 70 Z [.ref (zA Z (6) (0) (0))] S h (pDigest S) (S) (h) := by
  refine Cl.of rfl (Nat.le_of_ble_eq_true rfl) (fun p e s mi args below meth c A0 Q X K => ?_)
  refine j_at rfl rfl (Ls3 := [(0, .ref (zA Z (6) (0) (0)))]) rfl rfl ?_
  refine j_ldc2 X (v := 3011) dX5_digest_0 rfl (List.mem_of_getElem? (i := 297) (by decide +kernel)) ?_
  refine j_aload_n X dX5_digest_3 rfl rfl (q := 0) rfl ?_
  refine jg_top X 1 (by decide) lk_RX5_13 rfl rfl dX5_digest_4 rfl ?_
  refine j_callSl X (c_X5_mix l Z S h (3011) (S 6 0 0 1)) lk_RX5_230 mt_X5_mix ini_RX5 mc_X5_mix md_X5_mix ⟨Nat.le_of_ble_eq_true rfl, Nat.le_of_ble_eq_true rfl⟩ ⟨Nat.le_of_ble_eq_true rfl, Nat.le_of_ble_eq_true rfl⟩ rfl (Nat.le_of_ble_eq_true rfl) (as := [.long (3011), .int (S 6 0 0 1)]) (rest := []) rfl dX5_digest_7 rfl ?_
  refine j_lstore_n X dX5_digest_10 rfl rfl (by decide) (Ls2 := [(1, .long (pMix (3011) (S 6 0 0 1))), (0, .ref (zA Z (6) (0) (0)))]) rfl ?_
  refine j_iconst X dX5_digest_11 rfl (v := 0) (by decide) ?_
  refine j_istore_n X dX5_digest_12 rfl rfl (by decide) (Ls2 := [(3, .int (0)), (1, .long (pMix (3011) (S 6 0 0 1))), (0, .ref (zA Z (6) (0) (0)))]) rfl ?_
  refine j_sub [0, 1, 2] (Ls2 := [(3, .int (0)), (1, .long (pMix (3011) (S 6 0 0 1))), (0, .ref (zA Z (6) (0) (0)))]) rfl ?_
  refine L_dg1 l Z h S hcc X 5 0 ((pMix (3011) (S 6 0 0 1))) (by omega) ?_
  refine j_lload_n X dX5_digest_37 rfl rfl (q := 0) rfl ?_
  refine j_aload_n X dX5_digest_38 rfl rfl (q := 1) rfl ?_
  refine jg_top X 3 (by decide) lk_RX5_29 rfl rfl dX5_digest_39 rfl ?_
  refine jgN_mach X (by decide) 7 (by decide) nk_RX5_84 rfl rfl dX5_digest_42 rfl ?_
  refine j_callSl X (c_X5_mix l Z S h ((lp (pDg1 S) 5 0 (pMix (3011) (S 6 0 0 1)))) (S 0 4 0 7)) lk_RX5_230 mt_X5_mix ini_RX5 mc_X5_mix md_X5_mix ⟨Nat.le_of_ble_eq_true rfl, Nat.le_of_ble_eq_true rfl⟩ ⟨Nat.le_of_ble_eq_true rfl, Nat.le_of_ble_eq_true rfl⟩ rfl (Nat.le_of_ble_eq_true rfl) (as := [.long ((lp (pDg1 S) 5 0 (pMix (3011) (S 6 0 0 1)))), .int (S 0 4 0 7)]) (rest := []) rfl dX5_digest_45 rfl ?_
  refine j_lstore_n X dX5_digest_48 rfl rfl (by decide) (Ls2 := [(1, .long (pMix ((lp (pDg1 S) 5 0 (pMix (3011) (S 6 0 0 1)))) (S 0 4 0 7))), (0, .ref (zA Z (6) (0) (0)))]) rfl ?_
  refine j_iconst X dX5_digest_49 rfl (v := 0) (by decide) ?_
  refine j_istore_n X dX5_digest_50 rfl rfl (by decide) (Ls2 := [(3, .int (0)), (1, .long (pMix ((lp (pDg1 S) 5 0 (pMix (3011) (S 6 0 0 1)))) (S 0 4 0 7))), (0, .ref (zA Z (6) (0) (0)))]) rfl ?_
  refine j_sub [0, 1, 2] (Ls2 := [(3, .int (0)), (1, .long (pMix ((lp (pDg1 S) 5 0 (pMix (3011) (S 6 0 0 1)))) (S 0 4 0 7))), (0, .ref (zA Z (6) (0) (0)))]) rfl ?_
  refine L_dg2 l Z h S hcc X (pCC S 0) 0 ((pMix ((lp (pDg1 S) 5 0 (pMix (3011) (S 6 0 0 1)))) (S 0 4 0 7))) (by omega) ?_
  refine j_iconst X dX5_digest_75 rfl (v := 0) (by decide) ?_
  refine j_istore_n X dX5_digest_76 rfl rfl (by decide) (Ls2 := [(3, .int (0)), (1, .long ((lp (pDg2 S) (pCC S 0) 0 (pMix ((lp (pDg1 S) 5 0 (pMix (3011) (S 6 0 0 1)))) (S 0 4 0 7))))), (0, .ref (zA Z (6) (0) (0)))]) rfl ?_
  refine j_sub [0, 1, 2] (Ls2 := [(3, .int (0)), (1, .long ((lp (pDg2 S) (pCC S 0) 0 (pMix ((lp (pDg1 S) 5 0 (pMix (3011) (S 6 0 0 1)))) (S 0 4 0 7))))), (0, .ref (zA Z (6) (0) (0)))]) rfl ?_
  refine L_dg3 l Z h S hcc X 8 0 (((lp (pDg2 S) (pCC S 0) 0 (pMix ((lp (pDg1 S) 5 0 (pMix (3011) (S 6 0 0 1)))) (S 0 4 0 7))))) (by omega) ?_
  refine j_iconst X dX5_digest_100 rfl (v := 0) (by decide) ?_
  refine j_istore_n X dX5_digest_101 rfl rfl (by decide) (Ls2 := [(3, .int (0)), (1, .long ((lp (pDg3 S) 8 0 ((lp (pDg2 S) (pCC S 0) 0 (pMix ((lp (pDg1 S) 5 0 (pMix (3011) (S 6 0 0 1)))) (S 0 4 0 7))))))), (0, .ref (zA Z (6) (0) (0)))]) rfl ?_
  refine j_sub [0, 1, 2] (Ls2 := [(3, .int (0)), (1, .long ((lp (pDg3 S) 8 0 ((lp (pDg2 S) (pCC S 0) 0 (pMix ((lp (pDg1 S) 5 0 (pMix (3011) (S 6 0 0 1)))) (S 0 4 0 7))))))), (0, .ref (zA Z (6) (0) (0)))]) rfl ?_
  refine L_dg4 l Z h S hcc X 8 0 (((lp (pDg3 S) 8 0 ((lp (pDg2 S) (pCC S 0) 0 (pMix ((lp (pDg1 S) 5 0 (pMix (3011) (S 6 0 0 1)))) (S 0 4 0 7))))))) (by omega) ?_
  refine j_iconst X dX5_digest_125 rfl (v := 0) (by decide) ?_
  refine j_istore_n X dX5_digest_126 rfl rfl (by decide) (Ls2 := [(3, .int (0)), (1, .long ((lp (pDg4 S) 8 0 ((lp (pDg3 S) 8 0 ((lp (pDg2 S) (pCC S 0) 0 (pMix ((lp (pDg1 S) 5 0 (pMix (3011) (S 6 0 0 1)))) (S 0 4 0 7))))))))), (0, .ref (zA Z (6) (0) (0)))]) rfl ?_
  refine j_sub [0, 1, 2] (Ls2 := [(3, .int (0)), (1, .long ((lp (pDg4 S) 8 0 ((lp (pDg3 S) 8 0 ((lp (pDg2 S) (pCC S 0) 0 (pMix ((lp (pDg1 S) 5 0 (pMix (3011) (S 6 0 0 1)))) (S 0 4 0 7))))))))), (0, .ref (zA Z (6) (0) (0)))]) rfl ?_
  refine L_dg5 l Z h S hcc X 8 0 (((lp (pDg4 S) 8 0 ((lp (pDg3 S) 8 0 ((lp (pDg2 S) (pCC S 0) 0 (pMix ((lp (pDg1 S) 5 0 (pMix (3011) (S 6 0 0 1)))) (S 0 4 0 7))))))))) (by omega) ?_
  refine j_lload_n X dX5_digest_153 rfl rfl (q := 0) rfl ?_
  refine j_aload_n X dX5_digest_154 rfl rfl (q := 1) rfl ?_
  refine jg_top X 3 (by decide) lk_RX5_29 rfl rfl dX5_digest_155 rfl ?_
  refine jgN_mach X (by decide) 3 (by decide) nk_RX5_63 rfl rfl dX5_digest_158 rfl ?_
  refine jgN_log X (by decide) 7 (by decide) nk_RX5_67 rfl rfl dX5_digest_161 rfl ?_
  refine j_callSl X (c_X5_mix l Z S h ((lp (pDg5 S) 8 0 ((lp (pDg4 S) 8 0 ((lp (pDg3 S) 8 0 ((lp (pDg2 S) (pCC S 0) 0 (pMix ((lp (pDg1 S) 5 0 (pMix (3011) (S 6 0 0 1)))) (S 0 4 0 7)))))))))) (S 0 4 4 7)) lk_RX5_230 mt_X5_mix ini_RX5 mc_X5_mix md_X5_mix ⟨Nat.le_of_ble_eq_true rfl, Nat.le_of_ble_eq_true rfl⟩ ⟨Nat.le_of_ble_eq_true rfl, Nat.le_of_ble_eq_true rfl⟩ rfl (Nat.le_of_ble_eq_true rfl) (as := [.long ((lp (pDg5 S) 8 0 ((lp (pDg4 S) 8 0 ((lp (pDg3 S) 8 0 ((lp (pDg2 S) (pCC S 0) 0 (pMix ((lp (pDg1 S) 5 0 (pMix (3011) (S 6 0 0 1)))) (S 0 4 0 7)))))))))), .int (S 0 4 4 7)]) (rest := []) rfl dX5_digest_164 rfl ?_
  refine j_lstore_n X dX5_digest_167 rfl rfl (by decide) (Ls2 := [(1, .long (pMix ((lp (pDg5 S) 8 0 ((lp (pDg4 S) 8 0 ((lp (pDg3 S) 8 0 ((lp (pDg2 S) (pCC S 0) 0 (pMix ((lp (pDg1 S) 5 0 (pMix (3011) (S 6 0 0 1)))) (S 0 4 0 7)))))))))) (S 0 4 4 7))), (0, .ref (zA Z (6) (0) (0)))]) rfl ?_
  refine j_lload_n X dX5_digest_168 rfl rfl (q := 0) rfl ?_
  refine j_aload_n X dX5_digest_169 rfl rfl (q := 1) rfl ?_
  refine jg_top X 7 (by decide) lk_RX5_43 rfl rfl dX5_digest_170 rfl ?_
  refine j_callSl X (c_X5_mix l Z S h (pMix ((lp (pDg5 S) 8 0 ((lp (pDg4 S) 8 0 ((lp (pDg3 S) 8 0 ((lp (pDg2 S) (pCC S 0) 0 (pMix ((lp (pDg1 S) 5 0 (pMix (3011) (S 6 0 0 1)))) (S 0 4 0 7)))))))))) (S 0 4 4 7)) (S 6 0 0 7)) lk_RX5_230 mt_X5_mix ini_RX5 mc_X5_mix md_X5_mix ⟨Nat.le_of_ble_eq_true rfl, Nat.le_of_ble_eq_true rfl⟩ ⟨Nat.le_of_ble_eq_true rfl, Nat.le_of_ble_eq_true rfl⟩ rfl (Nat.le_of_ble_eq_true rfl) (as := [.long (pMix ((lp (pDg5 S) 8 0 ((lp (pDg4 S) 8 0 ((lp (pDg3 S) 8 0 ((lp (pDg2 S) (pCC S 0) 0 (pMix ((lp (pDg1 S) 5 0 (pMix (3011) (S 6 0 0 1)))) (S 0 4 0 7)))))))))) (S 0 4 4 7)), .int (S 6 0 0 7)]) (rest := []) rfl dX5_digest_173 rfl ?_
  exact j_retl (by first | with_reducible rfl | (simp [pDigest]; done) | (simp_all [pDigest]; done) | rfl) (by first | with_reducible rfl | (simp [pDigest]; done) | (simp_all [pDigest]; done) | rfl) rfl (K _ _ dX5_digest_176)

set_option maxRecDepth 100000 in
set_option maxHeartbeats 4000000 in
theorem L_all (l : Launch) (Z : wZ) (h : Hl) {p : Program} {e : Env} {s : State} {mi : MethodId} {args : Array Value} {below : List Frame} {meth : Method} {c : Code} {A0 : Nat → Prop} {Q : State → Prop} (X : JX p s mi args meth c cX6_readAll 2 yX6_readAll.cls Z A0) : ∀ (n : Nat) (S : St), rdOK S → okI (S 7 0 0 11) 30 → rTL S - rRd S ≤ n → J p l e { frames := 4, cells := 0, slots := 0, locals := 88 } s mi args below meth c 2 Z A0 0 0 Q (rAllL n S).2 h [(1, .int (bI (rAllL n S).1)), (0, .ref (zA Z 7 0 0))] 35 [] → J p l e { frames := 4, cells := 0, slots := 0, locals := 88 } s mi args below meth c 2 Z A0 0 0 Q S h [(1, .int (bI (true))), (0, .ref (zA Z (7) (0) (0)))] 12 [] := by
  intro n
  induction n with
  | zero =>
    intro S hr hi hn hk
    have htl : rTL S ≤ 120 := hr.2.1.2
    have hrd : rRd S ≤ 120 := hr.1.2
    refine j_iload_n X dX6_readAll_12 rfl rfl (q := 0) rfl ?_
    refine j_if_eq_f X dX6_readAll_13 rfl (tgt := 35) (by decide) (by decide) ?_
    refine j_aload_n X dX6_readAll_16 rfl rfl (q := 1) rfl ?_
    refine jg_model X 10 (by decide) lk_RX6_70 rfl rfl dX6_readAll_17 rfl ?_
    refine j_topeq (y := (nI (rRd S))) (hr.1.1) ?_
    refine j_aload_n X dX6_readAll_20 rfl rfl (q := 1) rfl ?_
    refine jg_model X 7 (by decide) lk_RX6_67 rfl rfl dX6_readAll_21 rfl ?_
    refine j_topeq (y := (nI (rTL S))) (hr.2.1.1) ?_
    refine j_icmp_ge_t X (tgt := 35) dX6_readAll_24 (by decide) (nI_le (by omega) (by omega)) ?_
    exact hk
  | succ n ih =>
    intro S hr hi hn hk
    have htl : rTL S ≤ 120 := hr.2.1.2
    have hrd : rRd S ≤ 120 := hr.1.2
    refine j_iload_n X dX6_readAll_12 rfl rfl (q := 0) rfl ?_
    refine j_if_eq_f X dX6_readAll_13 rfl (tgt := 35) (by decide) (by decide) ?_
    refine j_aload_n X dX6_readAll_16 rfl rfl (q := 1) rfl ?_
    refine jg_model X 10 (by decide) lk_RX6_70 rfl rfl dX6_readAll_17 rfl ?_
    refine j_topeq (y := (nI (rRd S))) (hr.1.1) ?_
    refine j_aload_n X dX6_readAll_20 rfl rfl (q := 1) rfl ?_
    refine jg_model X 7 (by decide) lk_RX6_67 rfl rfl dX6_readAll_21 rfl ?_
    refine j_topeq (y := (nI (rTL S))) (hr.2.1.1) ?_
    refine j_icmpN_ge X (a := rRd S) (b := rTL S) (by omega) (by omega) dX6_readAll_24 rfl (tgt := 35) (by decide) (fun c_24 => ?_) (fun c_24 => ?_)
    · have eL : rAllL (n + 1) S = (true, S) := by rw [rAllL, if_pos c_24]
      rw [eL] at hk
      exact hk
    · refine j_aload_n X dX6_readAll_27 rfl rfl (q := 1) rfl ?_
      refine j_calli X (c_X6_readInstruction l Z S h hr hi) (wm_ref (by decide)) ((fun _ => rfl) _) rfl lk_RX6_91 mi_X6_readInstruction ms_X6_readInstruction ini_RX6 mc_X6_readInstruction md_X6_readInstruction ⟨Nat.le_of_ble_eq_true rfl, Nat.le_of_ble_eq_true rfl⟩ ⟨Nat.le_of_ble_eq_true rfl, Nat.le_of_ble_eq_true rfl⟩ rfl (Nat.le_of_ble_eq_true rfl) (as := []) (rest := []) rfl dX6_readAll_28 rfl ?_
      refine j_name (fun S1 eS1 => ?_)
      refine j_istore_n X dX6_readAll_31 rfl rfl (by decide) (Ls2 := [(1, .int (bI ((rIns S).1))), (0, .ref (zA Z (7) (0) (0)))]) rfl ?_
      refine j_goto X (tgt := 12) dX6_readAll_32 (by decide) ?_
      have hK := rIns_K hr hi
      rw [eS1]
      cases hb : (rIns S).1 with
      | false =>
        have eL : rAllL (n + 1) S = (false, (rIns S).2) := by rw [rAllL, if_neg c_24, if_neg (by rw [hb]; decide)]
        rw [eL] at hk
        refine j_at rfl rfl (Ls3 := [(1, .int (0)), (0, .ref (zA Z 7 0 0))]) rfl rfl ?_
        refine j_iload_n X dX6_readAll_12 rfl rfl (q := 0) rfl ?_
        refine j_if_eq_t X (tgt := 35) dX6_readAll_13 (by decide) (by decide) ?_
        exact hk
      | true =>
        have hlt := hK.2.2.2 hb
        have eL : rAllL (n + 1) S = rAllL n (rIns S).2 := by rw [rAllL, if_neg c_24, if_pos hb]
        rw [eL] at hk
        exact ih (rIns S).2 hK.1 hK.2.1 (by have : rTL (rIns S).2 = rTL S := by { show ((rIns S).2 7 0 0 7).toNatClampNeg = _; rw [hK.2.2.1] }; omega) hk
set_option maxRecDepth 100000 in
set_option maxHeartbeats 4000000 in
theorem c_X6_readAll (l : Launch) (Z : wZ) (S : St) (h : Hl) (htl : okI (S 7 0 0 7) 120) : Ci l yX6_readAll cX6_readAll 2 .boolean 4 88 Z [.ref (zA Z (7) (0) (0))] S h (bI (rAll S).1) ((rAll S).2) (h) := by
  refine Ci.of rfl (bI_nar _) (Nat.le_of_ble_eq_true rfl) (fun p e s mi args below meth c A0 Q X K => ?_)
  refine j_at rfl rfl (Ls3 := [(0, .ref (zA Z (7) (0) (0)))]) rfl rfl ?_
  refine j_aload_n X dX6_readAll_0 rfl rfl (q := 0) rfl ?_
  refine j_iconst X dX6_readAll_1 rfl (v := 0) (by decide) ?_
  refine jp_model X 10 (by decide) lk_RX6_70 rfl rfl rfl (vp_nar_int _) rfl rfl dX6_readAll_2 rfl ?_
  refine j_name (fun S1 eS1 => ?_)
  refine j_aload_n X dX6_readAll_5 rfl rfl (q := 0) rfl ?_
  refine j_iconst X dX6_readAll_6 rfl (v := 0) (by decide) ?_
  refine jp_model X 11 (by decide) lk_RX6_77 rfl rfl rfl (vp_nar_int _) rfl rfl dX6_readAll_7 rfl ?_
  refine j_name (fun S2 eS2 => ?_)
  refine j_iconst X dX6_readAll_10 rfl (v := 1) (by decide) ?_
  refine j_istore_n X dX6_readAll_11 rfl rfl (by decide) (Ls2 := [(1, .int (1)), (0, .ref (zA Z (7) (0) (0)))]) rfl ?_
  refine j_at rfl rfl (Ls3 := [(1, .int (bI true)), (0, .ref (zA Z 7 0 0))]) rfl rfl ?_
  have e10 : S2 7 0 0 10 = 0 := by subst eS1; subst eS2; simp [setF_at]
  have e7 : S2 7 0 0 7 = S 7 0 0 7 := by subst eS1; subst eS2; simp [setF_at]
  have e11 : S2 7 0 0 11 = 0 := by subst eS1; subst eS2; simp [setF_at]
  have h0 : okI (0 : Int32) 30 := okI_lit (k := 0) (by omega) (by omega) _ rfl
  have h00 : okI (0 : Int32) 120 := okI_lit (k := 0) (by omega) (by omega) _ rfl
  have hb7 : rTL S2 ≤ 120 := by show (S2 7 0 0 7).toNatClampNeg ≤ 120; rw [e7]; exact htl.2
  refine L_all l Z h X 120 S2 ⟨by rw [e10]; exact h00, by rw [e7]; exact htl, by show (S2 7 0 0 10).toNatClampNeg ≤ _; rw [e10]; exact Nat.zero_le _⟩ (by rw [e11]; exact h0) (by omega) ?_
  have eA : rAllL 120 S2 = rAll S := by subst eS1; subst eS2; rfl
  rw [eA]
  refine j_name (fun S3 eS3 => ?_)
  refine j_iload_n X dX6_readAll_35 rfl rfl (q := 0) rfl ?_
  exact j_ret rfl eS3 rfl (K _ _ dX6_readAll_36)

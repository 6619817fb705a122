theorem rAllL_K : ∀ (n : Nat) {S : St}, rdOK S → okI (S 7 0 0 11) 30 → rdOK (rAllL n S).2 ∧ okI ((rAllL n S).2 7 0 0 11) 30 ∧ (rAllL n S).2 7 0 0 7 = S 7 0 0 7
  | 0, _, h, hi => ⟨h, hi, rfl⟩
  | n + 1, S, h, hi => by
    rw [rAllL]
    split
    · exact ⟨h, hi, rfl⟩
    · have hK := rIns_K h hi
      split
      · have h2 := rAllL_K n hK.1 hK.2.1
        exact ⟨h2.1, h2.2.1, h2.2.2.trans hK.2.2.1⟩
      · exact ⟨hK.1, hK.2.1, hK.2.2.1⟩
theorem rAll_K {S : St} (htl : okI (S 7 0 0 7) 120) : rdOK (rAll S).2 ∧ okI ((rAll S).2 7 0 0 11) 30 ∧ (rAll S).2 7 0 0 7 = S 7 0 0 7 := by
  have e10 : setF (setF S 7 0 0 10 0) 7 0 0 11 0 7 0 0 10 = 0 := by simp [setF_at]
  have e7 : setF (setF S 7 0 0 10 0) 7 0 0 11 0 7 0 0 7 = S 7 0 0 7 := by simp [setF_at]
  have e11 : setF (setF S 7 0 0 10 0) 7 0 0 11 0 7 0 0 11 = 0 := by simp [setF_at]
  have h0 : okI (0 : Int32) 30 := okI_lit (k := 0) (by omega) (by omega) _ rfl
  have h00 : okI (0 : Int32) 120 := okI_lit (k := 0) (by omega) (by omega) _ rfl
  have h := rAllL_K 120 (S := setF (setF S 7 0 0 10 0) 7 0 0 11 0) ⟨by rw [e10]; exact h00, by rw [e7]; exact htl, by show (setF (setF S 7 0 0 10 0) 7 0 0 11 0 7 0 0 10).toNatClampNeg ≤ _; rw [e10]; exact Nat.zero_le _⟩ (by rw [e11]; exact h0)
  rw [e7] at h
  unfold rAll
  exact h
def rLdF (a : Nat) (k : Nat) (S : St) : St := rPut S a (36 + k) (S 7 0 7 k)
def rLdR (S : St) : Bool × St := rAll (rCd S 0)
def rLdT (T : St) (a : Nat) : St := rPut (rPut (rPut (rPut T a 2 (T 7 0 0 11)) a 1 0) a 0 0) a 4 (-1)
def rLdL (T : St) (a : Nat) : St := lp (rLdF a) (2 * rIs T) 0 T
def rLdE (S : St) (a : Nat) : St := rLdT (rLdL (rKeep (rLdR S).2) a) a
def rLoadQ (S : St) (a : Nat) : Int32 × St := if rOf S a 3 = 1 then (0, rCd S 2) else if (rLdR S).1 = true then (rLdE S a 7 0 0 11, rLdE S a) else (-10 - (rLdR S).2 7 0 0 10, (rLdR S).2)
def rStepQ (S : St) (a : Nat) : Int32 × St := if rFin S a = true then (0, rCd S 2) else rGo (rKeep (rCd S 0)) a
theorem rKC_m {S : St} {v : Int32} : rKeep (rCd S v) 7 0 1 = S 7 0 1 := by rw [rKeep_m, rCd_m (by decide)]
theorem wfE_KC {S : St} {a : Nat} {v : Int32} (h : wfE S a) : wfE (rKeep (rCd S v)) a := wfE_eq h (by rw [rKC_m]) (by rw [rKC_m]) (fun w => by show rKeep (rCd S v) 7 0 1 _ = _; rw [rKC_m])
def rPokF (j : Nat) (k : Nat) (S : St) : St := rPut (rPut (if rWay S k (nI j) true = true then rAbort S k 5 else S) k (20 + j) 0) k (28 + j) 0
def rPok1 (S : St) : St := setF (rKeep (rCd S 0)) 7 0 0 13 0
def rPok2 (S : St) (j : Nat) (v : Int32) : St := setF (lp (rPokF j) (rCC (rPok1 S)) 0 (rPok1 S)) 7 0 1 (5 + j) v
def rPok3 (S : St) (j : Nat) (v : Int32) : St := rLogX (rPok2 S j v) (1 <<< (nI j &&& 31))
def rPokS (S : St) (j : Nat) (v : Int32) : St := if 406 + 19 * rQ (rPok2 S j v) < 406 + 19 * rQ (rPok3 S j v) then setF (rPok3 S j v) 7 0 1 (406 + 19 * rQ (rPok2 S j v) + 11 + j) v else rPok3 S j v
theorem rPokF_k {S : St} {j k k2 : Nat} (hk : loK k2) : rPokF j k S 7 0 1 k2 = S 7 0 1 k2 := by
  unfold rPokF
  rw [rPut_k hk, rPut_k hk]
  split
  · exact rAbort_k (by omega) hk
  · rfl
theorem rPokL_k {S : St} {j n k2 : Nat} (hk : loK k2) : lp (rPokF j) n 0 S 7 0 1 k2 = S 7 0 1 k2 := lp_ne (rPokF j) (fun T => T 7 0 1 k2) (fun k T => rPokF_k hk) _ 0 S
theorem rPok1_m {S : St} : rPok1 S 7 0 1 = S 7 0 1 := by
  funext k; rw [rPok1, setO_M (by decide), rKC_m]
theorem rPok2_k {S : St} {j k2 : Nat} {v : Int32} (hj : j < 8) (hk : loK k2) : rPok2 S j v 7 0 1 k2 = S 7 0 1 k2 := by
  rw [rPok2, setM_k (by omega) (by omega) hk, rPokL_k hk, rPok1_m]
theorem rLogX_q {S : St} {y : Int32} (hq : okI (S 7 0 1 21) 400) : okI (rLogX S y 7 0 1 21) 400 := by
  unfold rLogX
  split
  · split
    · exact hq
    · rename_i h4
      have e : lp (rLogO (406 + 19 * rQ S)) 8 0 (rLogH S (-1) (-1) 0 y) 7 0 1 21 = S 7 0 1 21 := by
        rw [lp_ne (rLogO (406 + 19 * rQ S)) (fun T => T 7 0 1 21) (fun k T => by
          dsimp only [rLogO]; rw [setM_ne (by omega), setM_ne (by omega)])]
        unfold rLogH
        rw [setM_ne (by omega), setM_ne (by omega), setM_ne (by omega)]
      show okI (setF _ 7 0 1 21 _ 7 0 1 21) 400
      rw [setF_at, if_pos ⟨rfl, rfl, rfl, rfl⟩, e]
      have h399 : okI (S 7 0 1 21) 399 := ⟨hq.1, by have : rQ S ≤ 400 := hq.2; show rQ S ≤ 399; omega⟩
      exact (okI_inc h399 (by decide)).1
  · exact hq
abbrev rIsE (S : St) (x : Int32) : Bool := rIn x 0 (S 7 0 1 21 - 1)
def rComQ (S : St) (ei k : Nat) : Int32 := if k < 2 then S 7 0 1 (406 + 19 * ei + k) else if k = 2 then S 7 0 1 (406 + 19 * ei + 2) - S 7 0 1 (406 + 19 * ei + 2) / 256 * 256 else S 7 0 1 (406 + 19 * ei + 2) / 256
def rComV (S : St) (ei j : Nat) (w : Bool) : Int32 := S 7 0 1 (406 + 19 * ei + (if w = true then 11 else 3) + j)
def rSeZ (k : Nat) (S : St) : St := setF S 7 0 8 k 0
def rSeF (S : St) (ev : Nat) (k : Nat) (b : Int32) : Int32 := if b = 0 then 0 else if rHas (S 7 0 1 (ev + 2)) (nI k) = true then (if S 7 0 8 k = S 7 0 1 (ev + 3 + k) then 1 else 0) else 1
def rSeG (ev : Nat) (k : Nat) (S : St) : St := setF S 7 0 8 k (if rHas (S 7 0 1 (ev + 2) / 256) (nI k) = true then S 7 0 1 (ev + 11 + k) else S 7 0 8 k)
def rSeK (k : Nat) (q : St × Int32) : St × Int32 := (lp (rSeG (406 + 19 * k)) 8 0 q.1, lp (rSeF q.1 (406 + 19 * k)) 8 0 q.2)
def rSer (S : St) : St × Int32 := lp rSeK (rQ S) 0 (lp rSeZ 8 0 (rCd S 0), 1)
theorem rSeG_m {ev k : Nat} {S : St} : rSeG ev k S 7 0 1 = S 7 0 1 := by
  funext q; rw [rSeG, setF_at, if_neg (by omega)]
theorem rSeL_m {ev n k : Nat} {S : St} : lp (rSeG ev) n k S 7 0 1 = S 7 0 1 := lp_ne (rSeG ev) (fun T => T 7 0 1) (fun k T => rSeG_m) n k S
theorem rSeZ_m {n k : Nat} {S : St} : lp rSeZ n k S 7 0 1 = S 7 0 1 := lp_ne rSeZ (fun T => T 7 0 1) (fun k T => by funext q; dsimp only [rSeZ]; rw [setF_at, if_neg (by omega)]) n k S
set_option maxRecDepth 100000 in
set_option maxHeartbeats 4000000 in
theorem c_X6_load_no (l : Launch) (Z : wZ) (S : St) (h : Hl) (x : Int32) (hx : rIsC S x = false) : Ci l yX6_load cX6_load 3 .int 5 109 Z [.ref (zA Z (7) (0) (0)), .int (x)] S h (0) (rCd S 1) (h) := by
  refine Ci.of rfl rfl (Nat.le_of_ble_eq_true rfl) (fun p e s mi args below meth c A0 Q X K => ?_)
  refine j_at rfl rfl (Ls3 := [(0, .ref (zA Z (7) (0) (0))), (1, .int (x))]) rfl rfl ?_
  refine j_aload_n X dX6_load_0 rfl rfl (q := 0) rfl ?_
  refine j_aload_n X dX6_load_1 rfl rfl (q := 0) rfl ?_
  refine j_iload_n X dX6_load_2 rfl rfl (q := 1) rfl ?_
  refine j_calli X (c_X6_isCore l Z S h (x)) (wm_ref (by decide)) ((fun _ => rfl) _) rfl lk_RX6_94 mi_X6_isCore ms_X6_isCore ini_RX6 mc_X6_isCore md_X6_isCore ⟨Nat.le_of_ble_eq_true rfl, Nat.le_of_ble_eq_true rfl⟩ ⟨Nat.le_of_ble_eq_true rfl, Nat.le_of_ble_eq_true rfl⟩ rfl (Nat.le_of_ble_eq_true rfl) (as := [.int (x)]) (rest := [.ref (zA Z (7) (0) (0))]) rfl dX6_load_3 rfl ?_
  refine j_if_ne_f X dX6_load_6 rfl (tgt := 13) (by decide) (by rw [show rIn x 0 (S 7 0 1 0 - 1) = false from hx]; decide) ?_
  refine j_iconst X dX6_load_9 rfl (v := 1) (by decide) ?_
  refine j_goto X (tgt := 28) dX6_load_10 (by decide) ?_
  refine jp_model X 9 (by decide) lk_RX6_41 rfl rfl rfl (vp_nar_int _) rfl rfl dX6_load_28 rfl ?_
  refine j_name (fun S1 eS1 => ?_)
  refine j_aload_n X dX6_load_31 rfl rfl (q := 0) rfl ?_
  refine jg_model X 9 (by decide) lk_RX6_41 rfl rfl dX6_load_32 rfl ?_
  refine j_topeq (y := (1)) (by rw [eS1, setF_at, if_pos ⟨rfl, rfl, rfl, rfl⟩]) ?_
  refine j_if_eq_f X dX6_load_35 rfl (tgt := 40) (by decide) (by decide) ?_
  refine j_iconst X dX6_load_38 rfl (v := 0) (by decide) ?_
  exact j_ret (by subst eS1; first | with_reducible rfl | (simp []; done) | (simp_all []; done) | rfl) (by subst eS1; first | with_reducible rfl | (simp []; done) | (simp_all []; done) | rfl) rfl (K _ _ dX6_load_39)
set_option maxRecDepth 100000 in
set_option maxHeartbeats 4000000 in
theorem L_ld (l : Launch) (Z : wZ) (h : Hl) (a : Nat) (ha : a < 4) (q : Nat) (hq30 : q ≤ 30) {p : Program} {e : Env} {s : State} {mi : MethodId} {args : Array Value} {below : List Frame} {meth : Method} {c : Code} {A0 : Nat → Prop} {Q : State → Prop} (X : JX p s mi args meth c cX6_load 3 yX6_load.cls Z A0) : ∀ (n k : Nat) (S : St), k + n = 2 * q → S 7 0 0 11 = nI q → J p l e { frames := 5, cells := 0, slots := 0, locals := 109 } s mi args below meth c 3 Z A0 0 0 Q ((lp (rLdF a) n k S)) h [(0, .ref (zA Z (7) (0) (0))), (1, .int (nI (a)))] 92 [] → J p l e { frames := 5, cells := 0, slots := 0, locals := 109 } s mi args below meth c 3 Z A0 0 0 Q S h [(2, .int (nI (k))), (0, .ref (zA Z (7) (0) (0))), (1, .int (nI (a)))] 61 [] := by
  intro n
  induction n with
  | zero =>
    intro k S hkn hI hk
    have hkN : 2 * q = k := by omega
    subst hkN
    refine j_iload_n X dX6_load_61 rfl rfl (q := 0) rfl ?_
    refine j_iconst X dX6_load_62 rfl (v := 2) (by decide) ?_
    refine j_aload_n X dX6_load_63 rfl rfl (q := 1) rfl ?_
    refine jg_model X 11 (by decide) lk_RX6_77 rfl rfl dX6_load_64 rfl ?_
    refine j_topeq (y := (nI (q))) (hI) ?_
    refine j_imul X dX6_load_67 rfl ?_
    refine j_topeq (y := nI (2 * q)) (pk_mul 2 q) ?_
    refine j_icmp_ge_t X (tgt := 92) dX6_load_68 (by decide) (nI_le (Nat.le_refl _) (by omega)) ?_
    refine j_sub [1, 2] (Ls2 := [(0, .ref (zA Z (7) (0) (0))), (1, .int (nI (a)))]) rfl ?_
    exact hk
  | succ n ih =>
    intro k S hkn hI hk
    have hlt : k < 2 * q := by omega
    refine j_iload_n X dX6_load_61 rfl rfl (q := 0) rfl ?_
    refine j_iconst X dX6_load_62 rfl (v := 2) (by decide) ?_
    refine j_aload_n X dX6_load_63 rfl rfl (q := 1) rfl ?_
    refine jg_model X 11 (by decide) lk_RX6_77 rfl rfl dX6_load_64 rfl ?_
    refine j_topeq (y := (nI (q))) (hI) ?_
    refine j_imul X dX6_load_67 rfl ?_
    refine j_topeq (y := nI (2 * q)) (pk_mul 2 q) ?_
    refine j_icmp_ge_f X dX6_load_68 rfl (tgt := 92) (by decide) (nI_ge hlt (by omega)) ?_
    refine j_aload_n X dX6_load_71 rfl rfl (q := 1) rfl ?_
    refine j_iload_n X dX6_load_72 rfl rfl (q := 2) rfl ?_
    refine j_bipush X dX6_load_73 rfl (v := 36) (by decide) ?_
    refine j_iload_n X dX6_load_75 rfl rfl (q := 0) rfl ?_
    refine j_iadd X dX6_load_76 rfl ?_
    refine j_topeq (y := nI (36 + k)) (nI_add 36 k) ?_
    refine j_aload_n X dX6_load_77 rfl rfl (q := 1) rfl ?_
    refine jg_model X 12 (by decide) lk_RX6_28 rfl rfl dX6_load_78 rfl ?_
    refine j_iload_n X dX6_load_81 rfl rfl (q := 0) rfl ?_
    refine j_ialdN X (k := k) (wm_ref (by decide)) ((fun _ => rfl) _) (by omega) (by decide) dX6_load_82 rfl ?_
    refine j_callv X (c_X6_put l Z S h a (36 + k) (S 7 0 7 k) (by omega)) (wm_ref (by decide)) ((fun _ => rfl) _) rfl lk_RX6_60 mi_X6_put ms_X6_put ini_RX6 mc_X6_put md_X6_put ⟨Nat.le_of_ble_eq_true rfl, Nat.le_of_ble_eq_true rfl⟩ ⟨Nat.le_of_ble_eq_true rfl, Nat.le_of_ble_eq_true rfl⟩ rfl (Nat.le_of_ble_eq_true rfl) (as := [.int (nI (a)), .int (nI (36 + k)), .int (S 7 0 7 k)]) (rest := []) rfl dX6_load_83 rfl ?_
    refine j_name (fun S1 eS1 => ?_)
    refine j_iinc X dX6_load_86 rfl (q := 0) rfl (v := (nI (k + 1))) (nI_1 _) (by decide) (Ls2 := [(2, .int (nI (k + 1))), (0, .ref (zA Z (7) (0) (0))), (1, .int (nI (a)))]) rfl ?_
    refine j_goto X (tgt := 61) dX6_load_89 (by decide) ?_
    have eB : (rLdF a) k S = S1 := by subst eS1; first | with_reducible rfl | (simp [rLdF]; done) | (simp_all [rLdF]; done) | rfl
    have eL : lp (rLdF a) (n + 1) k S = lp (rLdF a) n (k + 1) S1 := congrArg (lp (rLdF a) n (k + 1)) eB
    rw [eL] at hk
    exact ih (k + 1) S1 (by omega) (by subst eS1; rw [← eB]; show setF S 7 0 1 _ _ 7 0 0 11 = _; rw [setF_at, if_neg (by omega)]; exact hI) hk
set_option maxRecDepth 100000 in
set_option maxHeartbeats 4000000 in
theorem c_X6_load (l : Launch) (Z : wZ) (S : St) (h : Hl) (a : Nat) (ha : a < 4) (hx : rIsC S (nI a) = true) (htl : okI (S 7 0 0 7) 120) : Ci l yX6_load cX6_load 3 .int 5 109 Z [.ref (zA Z (7) (0) (0)), .int (nI (a))] S h ((rLoadQ S a).1) ((rLoadQ S a).2) (h) := by
  refine Ci.of rfl rfl (Nat.le_of_ble_eq_true rfl) (fun p e s mi args below meth c A0 Q X K => ?_)
  refine j_at rfl rfl (Ls3 := [(0, .ref (zA Z (7) (0) (0))), (1, .int (nI (a)))]) rfl rfl ?_
  refine j_aload_n X dX6_load_0 rfl rfl (q := 0) rfl ?_
  refine j_aload_n X dX6_load_1 rfl rfl (q := 0) rfl ?_
  refine j_iload_n X dX6_load_2 rfl rfl (q := 1) rfl ?_
  refine j_calli X (c_X6_isCore l Z S h (nI (a))) (wm_ref (by decide)) ((fun _ => rfl) _) rfl lk_RX6_94 mi_X6_isCore ms_X6_isCore ini_RX6 mc_X6_isCore md_X6_isCore ⟨Nat.le_of_ble_eq_true rfl, Nat.le_of_ble_eq_true rfl⟩ ⟨Nat.le_of_ble_eq_true rfl, Nat.le_of_ble_eq_true rfl⟩ rfl (Nat.le_of_ble_eq_true rfl) (as := [.int (nI (a))]) (rest := [.ref (zA Z (7) (0) (0))]) rfl dX6_load_3 rfl ?_
  refine j_if_ne_t X (tgt := 13) dX6_load_6 (by decide) (by rw [show rIn (nI a) 0 (S 7 0 1 0 - 1) = true from hx]; decide) ?_
  refine j_aload_n X dX6_load_13 rfl rfl (q := 0) rfl ?_
  refine j_iload_n X dX6_load_14 rfl rfl (q := 1) rfl ?_
  refine j_iconst X dX6_load_15 rfl (v := 3) (by decide) ?_
  refine j_calli X (c_X6_of l Z S h a 3 (by omega)) (wm_ref (by decide)) ((fun _ => rfl) _) rfl lk_RX6_97 mi_X6_of ms_X6_of ini_RX6 mc_X6_of md_X6_of ⟨Nat.le_of_ble_eq_true rfl, Nat.le_of_ble_eq_true rfl⟩ ⟨Nat.le_of_ble_eq_true rfl, Nat.le_of_ble_eq_true rfl⟩ rfl (Nat.le_of_ble_eq_true rfl) (as := [.int (nI (a)), .int (3)]) (rest := [.ref (zA Z (7) (0) (0))]) rfl dX6_load_16 rfl ?_
  refine j_iconst X dX6_load_19 rfl (v := 1) (by decide) ?_
  refine j_icmp_ne X dX6_load_20 rfl (tgt := 27) (by decide) (fun c_20 => ?_) (fun c_20 => ?_)
  · refine j_iconst X dX6_load_27 rfl (v := 0) (by decide) ?_
    refine jp_model X 9 (by decide) lk_RX6_41 rfl rfl rfl (vp_nar_int _) rfl rfl dX6_load_28 rfl ?_
    refine j_name (fun S1 eS1 => ?_)
    refine j_aload_n X dX6_load_31 rfl rfl (q := 0) rfl ?_
    refine jg_model X 9 (by decide) lk_RX6_41 rfl rfl dX6_load_32 rfl ?_
    refine j_topeq (y := (0)) (by rw [eS1, setF_at, if_pos ⟨rfl, rfl, rfl, rfl⟩]) ?_
    refine j_if_eq_t X (tgt := 40) dX6_load_35 (by decide) (by decide) ?_
    refine j_aload_n X dX6_load_40 rfl rfl (q := 0) rfl ?_
    refine j_calli X (c_X6_readAll l Z S1 h (by subst eS1; simp [setF_at] <;> exact htl)) (wm_ref (by decide)) ((fun _ => rfl) _) rfl lk_RX6_100 mi_X6_readAll ms_X6_readAll ini_RX6 mc_X6_readAll md_X6_readAll ⟨Nat.le_of_ble_eq_true rfl, Nat.le_of_ble_eq_true rfl⟩ ⟨Nat.le_of_ble_eq_true rfl, Nat.le_of_ble_eq_true rfl⟩ rfl (Nat.le_of_ble_eq_true rfl) (as := []) (rest := []) rfl dX6_load_41 rfl ?_
    refine j_name (fun S2 eS2 => ?_)
    refine j_ifb_ne X dX6_load_44 rfl (tgt := 55) (by decide) (fun c_44 => ?_) (fun c_44 => ?_)
    · refine j_aload_n X dX6_load_55 rfl rfl (q := 0) rfl ?_
      refine j_callv X (c_X6_keep l Z S2 h ) (wm_ref (by decide)) ((fun _ => rfl) _) rfl lk_RX6_63 mi_X6_keep ms_X6_keep ini_RX6 mc_X6_keep md_X6_keep ⟨Nat.le_of_ble_eq_true rfl, Nat.le_of_ble_eq_true rfl⟩ ⟨Nat.le_of_ble_eq_true rfl, Nat.le_of_ble_eq_true rfl⟩ rfl (Nat.le_of_ble_eq_true rfl) (as := []) (rest := []) rfl dX6_load_56 rfl ?_
      refine j_name (fun S3 eS3 => ?_)
      refine j_iconst X dX6_load_59 rfl (v := 0) (by decide) ?_
      refine j_istore_n X dX6_load_60 rfl rfl (by decide) (Ls2 := [(2, .int (0)), (0, .ref (zA Z (7) (0) (0))), (1, .int (nI (a)))]) rfl ?_
      have hk30 : okI (S3 7 0 0 11) 30 := by subst eS1; subst eS2; subst eS3; rw [rKeep_f (by decide)]; exact (rAll_K (by rw [setF_at, if_neg (by omega)]; exact htl)).2.1
      have hq30 : rIs S3 ≤ 30 := hk30.2
      have hq31 : S3 7 0 0 11 = nI (rIs S3) := hk30.1
      refine j_sub [0, 1, 2] (Ls2 := [(2, .int (0)), (0, .ref (zA Z (7) (0) (0))), (1, .int (nI (a)))]) rfl ?_
      refine L_ld l Z h a ha (rIs S3) hq30 X (2 * (rIs S3)) 0 S3 (by omega) hq31 ?_
      refine j_name (fun S4 eS4 => ?_)
      refine j_aload_n X dX6_load_92 rfl rfl (q := 0) rfl ?_
      refine j_iload_n X dX6_load_93 rfl rfl (q := 1) rfl ?_
      refine j_iconst X dX6_load_94 rfl (v := 2) (by decide) ?_
      refine j_aload_n X dX6_load_95 rfl rfl (q := 0) rfl ?_
      refine jg_model X 11 (by decide) lk_RX6_77 rfl rfl dX6_load_96 rfl ?_
      refine j_callv X (c_X6_put l Z S4 h a 2 (S4 7 0 0 11) (by omega)) (wm_ref (by decide)) ((fun _ => rfl) _) rfl lk_RX6_60 mi_X6_put ms_X6_put ini_RX6 mc_X6_put md_X6_put ⟨Nat.le_of_ble_eq_true rfl, Nat.le_of_ble_eq_true rfl⟩ ⟨Nat.le_of_ble_eq_true rfl, Nat.le_of_ble_eq_true rfl⟩ rfl (Nat.le_of_ble_eq_true rfl) (as := [.int (nI (a)), .int (2), .int (S4 7 0 0 11)]) (rest := []) rfl dX6_load_99 rfl ?_
      refine j_name (fun S5 eS5 => ?_)
      refine j_aload_n X dX6_load_102 rfl rfl (q := 0) rfl ?_
      refine j_iload_n X dX6_load_103 rfl rfl (q := 1) rfl ?_
      refine j_iconst X dX6_load_104 rfl (v := 1) (by decide) ?_
      refine j_iconst X dX6_load_105 rfl (v := 0) (by decide) ?_
      refine j_callv X (c_X6_put l Z S5 h a 1 (0) (by omega)) (wm_ref (by decide)) ((fun _ => rfl) _) rfl lk_RX6_60 mi_X6_put ms_X6_put ini_RX6 mc_X6_put md_X6_put ⟨Nat.le_of_ble_eq_true rfl, Nat.le_of_ble_eq_true rfl⟩ ⟨Nat.le_of_ble_eq_true rfl, Nat.le_of_ble_eq_true rfl⟩ rfl (Nat.le_of_ble_eq_true rfl) (as := [.int (nI (a)), .int (1), .int (0)]) (rest := []) rfl dX6_load_106 rfl ?_
      refine j_name (fun S6 eS6 => ?_)
      refine j_aload_n X dX6_load_109 rfl rfl (q := 0) rfl ?_
      refine j_iload_n X dX6_load_110 rfl rfl (q := 1) rfl ?_
      refine j_iconst X dX6_load_111 rfl (v := 0) (by decide) ?_
      refine j_iconst X dX6_load_112 rfl (v := 0) (by decide) ?_
      refine j_callv X (c_X6_put l Z S6 h a 0 (0) (by omega)) (wm_ref (by decide)) ((fun _ => rfl) _) rfl lk_RX6_60 mi_X6_put ms_X6_put ini_RX6 mc_X6_put md_X6_put ⟨Nat.le_of_ble_eq_true rfl, Nat.le_of_ble_eq_true rfl⟩ ⟨Nat.le_of_ble_eq_true rfl, Nat.le_of_ble_eq_true rfl⟩ rfl (Nat.le_of_ble_eq_true rfl) (as := [.int (nI (a)), .int (0), .int (0)]) (rest := []) rfl dX6_load_113 rfl ?_
      refine j_name (fun S7 eS7 => ?_)
      refine j_aload_n X dX6_load_116 rfl rfl (q := 0) rfl ?_
      refine j_iload_n X dX6_load_117 rfl rfl (q := 1) rfl ?_
      refine j_iconst X dX6_load_118 rfl (v := 4) (by decide) ?_
      refine j_iconst X dX6_load_119 rfl (v := -1) (by decide) ?_
      refine j_callv X (c_X6_put l Z S7 h a 4 (-1) (by omega)) (wm_ref (by decide)) ((fun _ => rfl) _) rfl lk_RX6_60 mi_X6_put ms_X6_put ini_RX6 mc_X6_put md_X6_put ⟨Nat.le_of_ble_eq_true rfl, Nat.le_of_ble_eq_true rfl⟩ ⟨Nat.le_of_ble_eq_true rfl, Nat.le_of_ble_eq_true rfl⟩ rfl (Nat.le_of_ble_eq_true rfl) (as := [.int (nI (a)), .int (4), .int (-1)]) (rest := []) rfl dX6_load_120 rfl ?_
      refine j_name (fun S8 eS8 => ?_)
      refine j_aload_n X dX6_load_123 rfl rfl (q := 0) rfl ?_
      refine jg_model X 11 (by decide) lk_RX6_77 rfl rfl dX6_load_124 rfl ?_
      have e0 : rLdR S = rAll S1 := by rw [eS1]; rfl
      have h44 : (rLdR S).1 = true := by rw [e0]; exact c_44
      have eK : rLdL (rKeep (rLdR S).2) a = S4 := by rw [e0, ← eS2, ← eS3]; exact eS4.symm
      have eE : rLdE S a = S8 := by rw [rLdE, eK, eS8, eS7, eS6, eS5]; rfl
      have hR : rLoadQ S a = (S8 7 0 0 11, S8) := by rw [rLoadQ, if_neg c_20, if_pos h44, eE]
      exact j_ret (by rw [hR]) (by rw [hR]) rfl (K _ _ dX6_load_127)
    · refine j_bipush X dX6_load_47 rfl (v := -10) (by decide) ?_
      refine j_aload_n X dX6_load_49 rfl rfl (q := 0) rfl ?_
      refine jg_model X 10 (by decide) lk_RX6_70 rfl rfl dX6_load_50 rfl ?_
      refine j_isub X dX6_load_53 rfl ?_
      have e0 : rLdR S = rAll S1 := by rw [eS1]; rfl
      have h44 : (rLdR S).1 = false := by rw [e0]; exact c_44
      have hR : rLoadQ S a = (-10 - S2 7 0 0 10, S2) := by rw [rLoadQ, if_neg c_20, if_neg (by rw [h44]; decide), e0, ← eS2]
      exact j_ret (by rw [hR]) (by rw [hR]) rfl (K _ _ dX6_load_54)
  · refine j_iconst X dX6_load_23 rfl (v := 2) (by decide) ?_
    refine j_goto X (tgt := 28) dX6_load_24 (by decide) ?_
    refine jp_model X 9 (by decide) lk_RX6_41 rfl rfl rfl (vp_nar_int _) rfl rfl dX6_load_28 rfl ?_
    refine j_name (fun S9 eS9 => ?_)
    refine j_aload_n X dX6_load_31 rfl rfl (q := 0) rfl ?_
    refine jg_model X 9 (by decide) lk_RX6_41 rfl rfl dX6_load_32 rfl ?_
    refine j_topeq (y := (2)) (by rw [eS9, setF_at, if_pos ⟨rfl, rfl, rfl, rfl⟩]) ?_
    refine j_if_eq_f X dX6_load_35 rfl (tgt := 40) (by decide) (by decide) ?_
    refine j_iconst X dX6_load_38 rfl (v := 0) (by decide) ?_
    exact j_ret (by rw [rLoadQ, if_pos c_20]) (by subst eS9; rw [rLoadQ, if_pos c_20]) rfl (K _ _ dX6_load_39)
set_option maxRecDepth 100000 in
set_option maxHeartbeats 4000000 in
theorem c_X6_step_no (l : Launch) (Z : wZ) (S : St) (h : Hl) (x : Int32) (hx : rIsC S x = false) : Ci l yX6_step cX6_step 2 .int 8 180 Z [.ref (zA Z (7) (0) (0)), .int (x)] S h (0) (rCd S 1) (h) := by
  refine Ci.of rfl rfl (Nat.le_of_ble_eq_true rfl) (fun p e s mi args below meth c A0 Q X K => ?_)
  refine j_at rfl rfl (Ls3 := [(0, .ref (zA Z (7) (0) (0))), (1, .int (x))]) rfl rfl ?_
  refine j_aload_n X dX6_step_0 rfl rfl (q := 0) rfl ?_
  refine j_aload_n X dX6_step_1 rfl rfl (q := 0) rfl ?_
  refine j_iload_n X dX6_step_2 rfl rfl (q := 1) rfl ?_
  refine j_calli X (c_X6_isCore l Z S h (x)) (wm_ref (by decide)) ((fun _ => rfl) _) rfl lk_RX6_94 mi_X6_isCore ms_X6_isCore ini_RX6 mc_X6_isCore md_X6_isCore ⟨Nat.le_of_ble_eq_true rfl, Nat.le_of_ble_eq_true rfl⟩ ⟨Nat.le_of_ble_eq_true rfl, Nat.le_of_ble_eq_true rfl⟩ rfl (Nat.le_of_ble_eq_true rfl) (as := [.int (x)]) (rest := [.ref (zA Z (7) (0) (0))]) rfl dX6_step_3 rfl ?_
  refine j_if_ne_f X dX6_step_6 rfl (tgt := 13) (by decide) (by rw [show rIn x 0 (S 7 0 1 0 - 1) = false from hx]; decide) ?_
  refine j_iconst X dX6_step_9 rfl (v := 1) (by decide) ?_
  refine j_goto X (tgt := 26) dX6_step_10 (by decide) ?_
  refine jp_model X 9 (by decide) lk_RX6_41 rfl rfl rfl (vp_nar_int _) rfl rfl dX6_step_26 rfl ?_
  refine j_name (fun S1 eS1 => ?_)
  refine j_aload_n X dX6_step_29 rfl rfl (q := 0) rfl ?_
  refine jg_model X 9 (by decide) lk_RX6_41 rfl rfl dX6_step_30 rfl ?_
  refine j_topeq (y := (1)) (by rw [eS1, setF_at, if_pos ⟨rfl, rfl, rfl, rfl⟩]) ?_
  refine j_if_eq_f X dX6_step_33 rfl (tgt := 38) (by decide) (by decide) ?_
  refine j_iconst X dX6_step_36 rfl (v := 0) (by decide) ?_
  exact j_ret (by subst eS1; first | with_reducible rfl | (simp []; done) | (simp_all []; done) | rfl) (by subst eS1; first | with_reducible rfl | (simp []; done) | (simp_all []; done) | rfl) rfl (K _ _ dX6_step_37)
set_option maxRecDepth 100000 in
set_option maxHeartbeats 4000000 in
theorem c_X6_step (l : Launch) (Z : wZ) (S : St) (h : Hl) (a : Nat) (ha : a < 4) (hx : rIsC S (nI a) = true) (hwf : rFin S a = false → wfE S a) : Ci l yX6_step cX6_step 2 .int 8 180 Z [.ref (zA Z (7) (0) (0)), .int (nI (a))] S h ((rStepQ S a).1) ((rStepQ S a).2) (h) := by
  refine Ci.of rfl rfl (Nat.le_of_ble_eq_true rfl) (fun p e s mi args below meth c A0 Q X K => ?_)
  refine j_at rfl rfl (Ls3 := [(0, .ref (zA Z (7) (0) (0))), (1, .int (nI (a)))]) rfl rfl ?_
  refine j_aload_n X dX6_step_0 rfl rfl (q := 0) rfl ?_
  refine j_aload_n X dX6_step_1 rfl rfl (q := 0) rfl ?_
  refine j_iload_n X dX6_step_2 rfl rfl (q := 1) rfl ?_
  refine j_calli X (c_X6_isCore l Z S h (nI (a))) (wm_ref (by decide)) ((fun _ => rfl) _) rfl lk_RX6_94 mi_X6_isCore ms_X6_isCore ini_RX6 mc_X6_isCore md_X6_isCore ⟨Nat.le_of_ble_eq_true rfl, Nat.le_of_ble_eq_true rfl⟩ ⟨Nat.le_of_ble_eq_true rfl, Nat.le_of_ble_eq_true rfl⟩ rfl (Nat.le_of_ble_eq_true rfl) (as := [.int (nI (a))]) (rest := [.ref (zA Z (7) (0) (0))]) rfl dX6_step_3 rfl ?_
  refine j_if_ne_t X (tgt := 13) dX6_step_6 (by decide) (by rw [show rIn (nI a) 0 (S 7 0 1 0 - 1) = true from hx]; decide) ?_
  refine j_aload_n X dX6_step_13 rfl rfl (q := 0) rfl ?_
  refine j_iload_n X dX6_step_14 rfl rfl (q := 1) rfl ?_
  refine j_calli X (c_X6_isFinished l Z S h a (by omega)) (wm_ref (by decide)) ((fun _ => rfl) _) rfl lk_RX6_103 mi_X6_isFinished ms_X6_isFinished ini_RX6 mc_X6_isFinished md_X6_isFinished ⟨Nat.le_of_ble_eq_true rfl, Nat.le_of_ble_eq_true rfl⟩ ⟨Nat.le_of_ble_eq_true rfl, Nat.le_of_ble_eq_true rfl⟩ rfl (Nat.le_of_ble_eq_true rfl) (as := [.int (nI (a))]) (rest := [.ref (zA Z (7) (0) (0))]) rfl dX6_step_15 rfl ?_
  refine j_ifb_eq X dX6_step_18 rfl (tgt := 25) (by decide) (fun c_18 => ?_) (fun c_18 => ?_)
  · refine j_iconst X dX6_step_25 rfl (v := 0) (by decide) ?_
    refine jp_model X 9 (by decide) lk_RX6_41 rfl rfl rfl (vp_nar_int _) rfl rfl dX6_step_26 rfl ?_
    refine j_name (fun S1 eS1 => ?_)
    refine j_aload_n X dX6_step_29 rfl rfl (q := 0) rfl ?_
    refine jg_model X 9 (by decide) lk_RX6_41 rfl rfl dX6_step_30 rfl ?_
    refine j_topeq (y := (0)) (by rw [eS1, setF_at, if_pos ⟨rfl, rfl, rfl, rfl⟩]) ?_
    refine j_if_eq_t X (tgt := 38) dX6_step_33 (by decide) (by decide) ?_
    refine j_aload_n X dX6_step_38 rfl rfl (q := 0) rfl ?_
    refine j_callv X (c_X6_keep l Z S1 h ) (wm_ref (by decide)) ((fun _ => rfl) _) rfl lk_RX6_63 mi_X6_keep ms_X6_keep ini_RX6 mc_X6_keep md_X6_keep ⟨Nat.le_of_ble_eq_true rfl, Nat.le_of_ble_eq_true rfl⟩ ⟨Nat.le_of_ble_eq_true rfl, Nat.le_of_ble_eq_true rfl⟩ rfl (Nat.le_of_ble_eq_true rfl) (as := []) (rest := []) rfl dX6_step_39 rfl ?_
    refine j_name (fun S2 eS2 => ?_)
    refine j_aload_n X dX6_step_42 rfl rfl (q := 0) rfl ?_
    refine j_iload_n X dX6_step_43 rfl rfl (q := 1) rfl ?_
    refine j_calli X (c_X6_go l Z S2 h a (by omega) (by subst eS1; subst eS2; exact wfE_KC (hwf c_18))) (wm_ref (by decide)) ((fun _ => rfl) _) rfl lk_RX6_161 mi_X6_go ms_X6_go ini_RX6 mc_X6_go md_X6_go ⟨Nat.le_of_ble_eq_true rfl, Nat.le_of_ble_eq_true rfl⟩ ⟨Nat.le_of_ble_eq_true rfl, Nat.le_of_ble_eq_true rfl⟩ rfl (Nat.le_of_ble_eq_true rfl) (as := [.int (nI (a))]) (rest := []) rfl dX6_step_44 rfl ?_
    refine j_name (fun S3 eS3 => ?_)
    exact j_ret (by subst eS1; subst eS2; subst eS3; first | with_reducible rfl | (simp [rStepQ, c_18]; done) | (simp_all [rStepQ]; done) | rfl) (by subst eS1; subst eS2; subst eS3; first | with_reducible rfl | (simp [rStepQ, c_18]; done) | (simp_all [rStepQ]; done) | rfl) rfl (K _ _ dX6_step_47)
  · refine j_iconst X dX6_step_21 rfl (v := 2) (by decide) ?_
    refine j_goto X (tgt := 26) dX6_step_22 (by decide) ?_
    refine jp_model X 9 (by decide) lk_RX6_41 rfl rfl rfl (vp_nar_int _) rfl rfl dX6_step_26 rfl ?_
    refine j_name (fun S4 eS4 => ?_)
    refine j_aload_n X dX6_step_29 rfl rfl (q := 0) rfl ?_
    refine jg_model X 9 (by decide) lk_RX6_41 rfl rfl dX6_step_30 rfl ?_
    refine j_topeq (y := (2)) (by rw [eS4, setF_at, if_pos ⟨rfl, rfl, rfl, rfl⟩]) ?_
    refine j_if_eq_f X dX6_step_33 rfl (tgt := 38) (by decide) (by decide) ?_
    refine j_iconst X dX6_step_36 rfl (v := 0) (by decide) ?_
    exact j_ret (by subst eS4; first | with_reducible rfl | (simp [rStepQ, c_18]; done) | (simp_all [rStepQ]; done) | rfl) (by subst eS4; first | with_reducible rfl | (simp [rStepQ, c_18]; done) | (simp_all [rStepQ]; done) | rfl) rfl (K _ _ dX6_step_37)
set_option maxRecDepth 100000 in
set_option maxHeartbeats 4000000 in
theorem L_poke (l : Launch) (Z : wZ) (h : Hl) (j : Nat) (hj : j < 8) (v : Int32) (cc : Nat) (hc4 : cc ≤ 4) {p : Program} {e : Env} {s : State} {mi : MethodId} {args : Array Value} {below : List Frame} {meth : Method} {c : Code} {A0 : Nat → Prop} {Q : State → Prop} (X : JX p s mi args meth c cX6_poke 4 yX6_poke.cls Z A0) : ∀ (n k : Nat) (S : St), k + n = cc → S 7 0 1 0 = nI cc → J p l e { frames := 3, cells := 0, slots := 0, locals := 69 } s mi args below meth c 4 Z A0 0 0 Q ((lp (rPokF j) n k S)) h [(0, .ref (zA Z (7) (0) (0))), (1, .int (nI (j))), (2, .int (v))] 88 [] → J p l e { frames := 3, cells := 0, slots := 0, locals := 69 } s mi args below meth c 4 Z A0 0 0 Q S h [(3, .int (nI (k))), (0, .ref (zA Z (7) (0) (0))), (1, .int (nI (j))), (2, .int (v))] 36 [] := by
  intro n
  induction n with
  | zero =>
    intro k S hkn hI hk
    have hkN : cc = k := by omega
    subst hkN
    refine j_iload_n X dX6_poke_36 rfl rfl (q := 0) rfl ?_
    refine j_aload_n X dX6_poke_37 rfl rfl (q := 1) rfl ?_
    refine jg_model X 0 (by decide) lk_RX6_7 rfl rfl dX6_poke_38 rfl ?_
    refine j_iconst X dX6_poke_41 rfl (v := 0) (by decide) ?_
    refine j_ialdN X (k := 0) (wm_ref (by decide)) ((fun _ => rfl) _) (by decide) (by decide) dX6_poke_42 rfl ?_
    refine j_topeq (y := (nI (cc))) (hI) ?_
    refine j_icmp_ge_t X (tgt := 88) dX6_poke_43 (by decide) (nI_le (Nat.le_refl _) (by omega)) ?_
    refine j_sub [1, 2, 3] (Ls2 := [(0, .ref (zA Z (7) (0) (0))), (1, .int (nI (j))), (2, .int (v))]) rfl ?_
    exact hk
  | succ n ih =>
    intro k S hkn hI hk
    have hlt : k < cc := by omega
    refine j_iload_n X dX6_poke_36 rfl rfl (q := 0) rfl ?_
    refine j_aload_n X dX6_poke_37 rfl rfl (q := 1) rfl ?_
    refine jg_model X 0 (by decide) lk_RX6_7 rfl rfl dX6_poke_38 rfl ?_
    refine j_iconst X dX6_poke_41 rfl (v := 0) (by decide) ?_
    refine j_ialdN X (k := 0) (wm_ref (by decide)) ((fun _ => rfl) _) (by decide) (by decide) dX6_poke_42 rfl ?_
    refine j_topeq (y := (nI (cc))) (hI) ?_
    refine j_icmp_ge_f X dX6_poke_43 rfl (tgt := 88) (by decide) (nI_ge hlt (by omega)) ?_
    refine j_aload_n X dX6_poke_46 rfl rfl (q := 1) rfl ?_
    refine j_iload_n X dX6_poke_47 rfl rfl (q := 0) rfl ?_
    refine j_iload_n X dX6_poke_48 rfl rfl (q := 2) rfl ?_
    refine j_iconst X dX6_poke_49 rfl (v := 1) (by decide) ?_
    refine j_calli X (c_X6_isInWay l Z S h k (by omega) (nI (j)) true) (wm_ref (by decide)) ((fun _ => rfl) _) rfl lk_RX6_117 mi_X6_isInWay ms_X6_isInWay ini_RX6 mc_X6_isInWay md_X6_isInWay ⟨Nat.le_of_ble_eq_true rfl, Nat.le_of_ble_eq_true rfl⟩ ⟨Nat.le_of_ble_eq_true rfl, Nat.le_of_ble_eq_true rfl⟩ rfl (Nat.le_of_ble_eq_true rfl) (as := [.int (nI (k)), .int (nI (j)), .int (1)]) (rest := []) rfl dX6_poke_50 rfl ?_
    refine j_ifb_eq X dX6_poke_53 rfl (tgt := 62) (by decide) (fun c_53 => ?_) (fun c_53 => ?_)
    · refine j_aload_n X dX6_poke_62 rfl rfl (q := 1) rfl ?_
      refine j_iload_n X dX6_poke_63 rfl rfl (q := 0) rfl ?_
      refine j_bipush X dX6_poke_64 rfl (v := 20) (by decide) ?_
      refine j_iload_n X dX6_poke_66 rfl rfl (q := 2) rfl ?_
      refine j_iadd X dX6_poke_67 rfl ?_
      refine j_topeq (y := nI (20 + j)) (nI_add 20 j) ?_
      refine j_iconst X dX6_poke_68 rfl (v := 0) (by decide) ?_
      refine j_callv X (c_X6_put l Z S h k (20 + j) (0) (by omega)) (wm_ref (by decide)) ((fun _ => rfl) _) rfl lk_RX6_60 mi_X6_put ms_X6_put ini_RX6 mc_X6_put md_X6_put ⟨Nat.le_of_ble_eq_true rfl, Nat.le_of_ble_eq_true rfl⟩ ⟨Nat.le_of_ble_eq_true rfl, Nat.le_of_ble_eq_true rfl⟩ rfl (Nat.le_of_ble_eq_true rfl) (as := [.int (nI (k)), .int (nI (20 + j)), .int (0)]) (rest := []) rfl dX6_poke_69 rfl ?_
      refine j_name (fun S1 eS1 => ?_)
      refine j_aload_n X dX6_poke_72 rfl rfl (q := 1) rfl ?_
      refine j_iload_n X dX6_poke_73 rfl rfl (q := 0) rfl ?_
      refine j_bipush X dX6_poke_74 rfl (v := 28) (by decide) ?_
      refine j_iload_n X dX6_poke_76 rfl rfl (q := 2) rfl ?_
      refine j_iadd X dX6_poke_77 rfl ?_
      refine j_topeq (y := nI (28 + j)) (nI_add 28 j) ?_
      refine j_iconst X dX6_poke_78 rfl (v := 0) (by decide) ?_
      refine j_callv X (c_X6_put l Z S1 h k (28 + j) (0) (by omega)) (wm_ref (by decide)) ((fun _ => rfl) _) rfl lk_RX6_60 mi_X6_put ms_X6_put ini_RX6 mc_X6_put md_X6_put ⟨Nat.le_of_ble_eq_true rfl, Nat.le_of_ble_eq_true rfl⟩ ⟨Nat.le_of_ble_eq_true rfl, Nat.le_of_ble_eq_true rfl⟩ rfl (Nat.le_of_ble_eq_true rfl) (as := [.int (nI (k)), .int (nI (28 + j)), .int (0)]) (rest := []) rfl dX6_poke_79 rfl ?_
      refine j_name (fun S2 eS2 => ?_)
      refine j_iinc X dX6_poke_82 rfl (q := 0) rfl (v := (nI (k + 1))) (nI_1 _) (by decide) (Ls2 := [(3, .int (nI (k + 1))), (0, .ref (zA Z (7) (0) (0))), (1, .int (nI (j))), (2, .int (v))]) rfl ?_
      refine j_goto X (tgt := 36) dX6_poke_85 (by decide) ?_
      have eB : (rPokF j) k S = S2 := by subst eS1; subst eS2; first | with_reducible rfl | (simp [rPokF, c_53]; done) | (simp_all [rPokF]; done) | rfl
      have eL : lp (rPokF j) (n + 1) k S = lp (rPokF j) n (k + 1) S2 := congrArg (lp (rPokF j) n (k + 1)) eB
      rw [eL] at hk
      exact ih (k + 1) S2 (by omega) (by subst eS1; subst eS2; rw [← eB, rPokF_k lo0]; exact hI) hk
    · refine j_aload_n X dX6_poke_56 rfl rfl (q := 1) rfl ?_
      refine j_iload_n X dX6_poke_57 rfl rfl (q := 0) rfl ?_
      refine j_iconst X dX6_poke_58 rfl (v := 5) (by decide) ?_
      refine j_callv X (c_X6_abort l Z S h k (by omega) 5 (by omega)) (wm_ref (by decide)) ((fun _ => rfl) _) rfl lk_RX6_121 mi_X6_abort ms_X6_abort ini_RX6 mc_X6_abort md_X6_abort ⟨Nat.le_of_ble_eq_true rfl, Nat.le_of_ble_eq_true rfl⟩ ⟨Nat.le_of_ble_eq_true rfl, Nat.le_of_ble_eq_true rfl⟩ rfl (Nat.le_of_ble_eq_true rfl) (as := [.int (nI (k)), .int (5)]) (rest := []) rfl dX6_poke_59 rfl ?_
      refine j_name (fun S3 eS3 => ?_)
      refine j_aload_n X dX6_poke_62 rfl rfl (q := 1) rfl ?_
      refine j_iload_n X dX6_poke_63 rfl rfl (q := 0) rfl ?_
      refine j_bipush X dX6_poke_64 rfl (v := 20) (by decide) ?_
      refine j_iload_n X dX6_poke_66 rfl rfl (q := 2) rfl ?_
      refine j_iadd X dX6_poke_67 rfl ?_
      refine j_topeq (y := nI (20 + j)) (nI_add 20 j) ?_
      refine j_iconst X dX6_poke_68 rfl (v := 0) (by decide) ?_
      refine j_callv X (c_X6_put l Z S3 h k (20 + j) (0) (by omega)) (wm_ref (by decide)) ((fun _ => rfl) _) rfl lk_RX6_60 mi_X6_put ms_X6_put ini_RX6 mc_X6_put md_X6_put ⟨Nat.le_of_ble_eq_true rfl, Nat.le_of_ble_eq_true rfl⟩ ⟨Nat.le_of_ble_eq_true rfl, Nat.le_of_ble_eq_true rfl⟩ rfl (Nat.le_of_ble_eq_true rfl) (as := [.int (nI (k)), .int (nI (20 + j)), .int (0)]) (rest := []) rfl dX6_poke_69 rfl ?_
      refine j_name (fun S4 eS4 => ?_)
      refine j_aload_n X dX6_poke_72 rfl rfl (q := 1) rfl ?_
      refine j_iload_n X dX6_poke_73 rfl rfl (q := 0) rfl ?_
      refine j_bipush X dX6_poke_74 rfl (v := 28) (by decide) ?_
      refine j_iload_n X dX6_poke_76 rfl rfl (q := 2) rfl ?_
      refine j_iadd X dX6_poke_77 rfl ?_
      refine j_topeq (y := nI (28 + j)) (nI_add 28 j) ?_
      refine j_iconst X dX6_poke_78 rfl (v := 0) (by decide) ?_
      refine j_callv X (c_X6_put l Z S4 h k (28 + j) (0) (by omega)) (wm_ref (by decide)) ((fun _ => rfl) _) rfl lk_RX6_60 mi_X6_put ms_X6_put ini_RX6 mc_X6_put md_X6_put ⟨Nat.le_of_ble_eq_true rfl, Nat.le_of_ble_eq_true rfl⟩ ⟨Nat.le_of_ble_eq_true rfl, Nat.le_of_ble_eq_true rfl⟩ rfl (Nat.le_of_ble_eq_true rfl) (as := [.int (nI (k)), .int (nI (28 + j)), .int (0)]) (rest := []) rfl dX6_poke_79 rfl ?_
      refine j_name (fun S5 eS5 => ?_)
      refine j_iinc X dX6_poke_82 rfl (q := 0) rfl (v := (nI (k + 1))) (nI_1 _) (by decide) (Ls2 := [(3, .int (nI (k + 1))), (0, .ref (zA Z (7) (0) (0))), (1, .int (nI (j))), (2, .int (v))]) rfl ?_
      refine j_goto X (tgt := 36) dX6_poke_85 (by decide) ?_
      have eB : (rPokF j) k S = S5 := by subst eS3; subst eS4; subst eS5; first | with_reducible rfl | (simp [rPokF, c_53]; done) | (simp_all [rPokF]; done) | rfl
      have eL : lp (rPokF j) (n + 1) k S = lp (rPokF j) n (k + 1) S5 := congrArg (lp (rPokF j) n (k + 1)) eB
      rw [eL] at hk
      exact ih (k + 1) S5 (by omega) (by subst eS3; subst eS4; subst eS5; rw [← eB, rPokF_k lo0]; exact hI) hk
set_option maxRecDepth 100000 in
set_option maxHeartbeats 4000000 in
theorem c_X6_poke (l : Launch) (Z : wZ) (S : St) (h : Hl) (j : Nat) (hj : j < 8) (hl : rIn (nI j) 0 7 = true) (v : Int32) (hcc : okI (S 7 0 1 0) 4) (hq : okI (S 7 0 1 21) 400) : Ci l yX6_poke cX6_poke 4 .int 3 69 Z [.ref (zA Z (7) (0) (0)), .int (nI (j)), .int (v)] S h (rPokS S j v 7 0 0 13) (rPokS S j v) (h) := by
  have hc4 : rCC S ≤ 4 := hcc.2
  refine Ci.of rfl rfl (Nat.le_of_ble_eq_true rfl) (fun p e s mi args below meth c A0 Q X K => ?_)
  refine j_at rfl rfl (Ls3 := [(0, .ref (zA Z (7) (0) (0))), (1, .int (nI (j))), (2, .int (v))]) rfl rfl ?_
  refine j_aload_n X dX6_poke_0 rfl rfl (q := 0) rfl ?_
  refine j_iload_n X dX6_poke_1 rfl rfl (q := 1) rfl ?_
  refine j_callSi X (c_X6_isLine l Z S h (nI (j))) lk_RX6_180 mt_X6_isLine ini_RX6 mc_X6_isLine md_X6_isLine ⟨Nat.le_of_ble_eq_true rfl, Nat.le_of_ble_eq_true rfl⟩ ⟨Nat.le_of_ble_eq_true rfl, Nat.le_of_ble_eq_true rfl⟩ rfl (Nat.le_of_ble_eq_true rfl) (as := [.int (nI (j))]) (rest := [.ref (zA Z (7) (0) (0))]) rfl dX6_poke_2 rfl ?_
  refine j_if_eq_f X dX6_poke_5 rfl (tgt := 12) (by decide) (by rw [show rIn (nI j) 0 7 = true from hl]; decide) ?_
  refine j_iconst X dX6_poke_8 rfl (v := 0) (by decide) ?_
  refine j_goto X (tgt := 13) dX6_poke_9 (by decide) ?_
  refine jp_model X 9 (by decide) lk_RX6_41 rfl rfl rfl (vp_nar_int _) rfl rfl dX6_poke_13 rfl ?_
  refine j_name (fun S1 eS1 => ?_)
  refine j_aload_n X dX6_poke_16 rfl rfl (q := 0) rfl ?_
  refine jg_model X 9 (by decide) lk_RX6_41 rfl rfl dX6_poke_17 rfl ?_
  refine j_topeq (y := (0)) (by rw [eS1, setF_at, if_pos ⟨rfl, rfl, rfl, rfl⟩]) ?_
  refine j_if_eq_t X (tgt := 25) dX6_poke_20 (by decide) (by decide) ?_
  refine j_aload_n X dX6_poke_25 rfl rfl (q := 0) rfl ?_
  refine j_callv X (c_X6_keep l Z S1 h ) (wm_ref (by decide)) ((fun _ => rfl) _) rfl lk_RX6_63 mi_X6_keep ms_X6_keep ini_RX6 mc_X6_keep md_X6_keep ⟨Nat.le_of_ble_eq_true rfl, Nat.le_of_ble_eq_true rfl⟩ ⟨Nat.le_of_ble_eq_true rfl, Nat.le_of_ble_eq_true rfl⟩ rfl (Nat.le_of_ble_eq_true rfl) (as := []) (rest := []) rfl dX6_poke_26 rfl ?_
  refine j_name (fun S2 eS2 => ?_)
  refine j_aload_n X dX6_poke_29 rfl rfl (q := 0) rfl ?_
  refine j_iconst X dX6_poke_30 rfl (v := 0) (by decide) ?_
  refine jp_model X 13 (by decide) lk_RX6_114 rfl rfl rfl (vp_nar_int _) rfl rfl dX6_poke_31 rfl ?_
  refine j_name (fun S3 eS3 => ?_)
  refine j_iconst X dX6_poke_34 rfl (v := 0) (by decide) ?_
  refine j_istore_n X dX6_poke_35 rfl rfl (by decide) (Ls2 := [(3, .int (0)), (0, .ref (zA Z (7) (0) (0))), (1, .int (nI (j))), (2, .int (v))]) rfl ?_
  refine j_sub [0, 1, 2, 3] (Ls2 := [(3, .int (0)), (0, .ref (zA Z (7) (0) (0))), (1, .int (nI (j))), (2, .int (v))]) rfl ?_
  refine L_poke l Z h j hj v (rCC S3) (by subst eS1; subst eS2; subst eS3; simp [rPok1_m, rKC_m, rKeep_m, rCd_m, setO_M, setM_k, rPokL_k, rPut_k, rCC, rQ, lo0, lo21, hj] <;> exact hcc.2) X (rCC S3) 0 S3 (by omega) (by subst eS1; subst eS2; subst eS3; simp [rPok1_m, rKC_m, rKeep_m, rCd_m, setO_M, setM_k, rPokL_k, rPut_k, rCC, rQ, lo0, lo21, hj] <;> exact hcc.1) ?_
  refine j_name (fun S4 eS4 => ?_)
  refine j_aload_n X dX6_poke_88 rfl rfl (q := 0) rfl ?_
  refine jg_model X 0 (by decide) lk_RX6_7 rfl rfl dX6_poke_89 rfl ?_
  refine j_iconst X dX6_poke_92 rfl (v := 5) (by decide) ?_
  refine j_iload_n X dX6_poke_93 rfl rfl (q := 1) rfl ?_
  refine j_iadd X dX6_poke_94 rfl ?_
  refine j_topeq (y := nI (5 + j)) (nI_add 5 j) ?_
  refine j_iload_n X dX6_poke_95 rfl rfl (q := 2) rfl ?_
  refine j_iastN X (k := 5 + j) (wm_ref (by decide)) (fun r => (fun _ => rfl) r) (by omega) (by decide) dX6_poke_96 rfl ?_
  refine j_name (fun S5 eS5 => ?_)
  have eP1 : rPok1 S = S3 := by rw [eS3, eS2, eS1]; rfl
  have eP2 : S5 = rPok2 S j v := by rw [rPok2, eP1, ← eS4]; exact eS5
  have hq2 : okI (S5 7 0 1 21) 400 := by rw [eP2, rPok2_k hj lo21]; exact hq
  have hq24 : rQ S5 ≤ 400 := hq2.2
  refine j_sipush X dX6_poke_97 rfl (v := 406) (by decide) ?_
  refine j_bipush X dX6_poke_100 rfl (v := 19) (by decide) ?_
  refine j_aload_n X dX6_poke_102 rfl rfl (q := 0) rfl ?_
  refine jg_model X 0 (by decide) lk_RX6_7 rfl rfl dX6_poke_103 rfl ?_
  refine j_bipush X dX6_poke_106 rfl (v := 21) (by decide) ?_
  refine j_ialdN X (k := 21) (wm_ref (by decide)) ((fun _ => rfl) _) (by decide) (by decide) dX6_poke_108 rfl ?_
  refine j_topeq (y := nI (rQ S5)) hq2.1 ?_
  refine j_imul X dX6_poke_109 rfl ?_
  refine j_topeq (y := nI (19 * (rQ S5))) (pk_mul 19 (rQ S5)) ?_
  refine j_iadd X dX6_poke_110 rfl ?_
  refine j_topeq (y := nI (406 + (19 * (rQ S5)))) (nI_add 406 (19 * (rQ S5))) ?_
  refine j_istore_n X dX6_poke_111 rfl rfl (by decide) (Ls2 := [(3, .int (nI (406 + (19 * (rQ S5))))), (0, .ref (zA Z (7) (0) (0))), (1, .int (nI (j))), (2, .int (v))]) rfl ?_
  refine j_aload_n X dX6_poke_112 rfl rfl (q := 1) rfl ?_
  refine j_iconst X dX6_poke_113 rfl (v := -1) (by decide) ?_
  refine j_iconst X dX6_poke_114 rfl (v := -1) (by decide) ?_
  refine j_iconst X dX6_poke_115 rfl (v := 0) (by decide) ?_
  refine j_iconst X dX6_poke_116 rfl (v := 1) (by decide) ?_
  refine j_iload_n X dX6_poke_117 rfl rfl (q := 2) rfl ?_
  refine j_ishl X dX6_poke_118 rfl ?_
  refine j_callv X (c_X6_logX l Z S5 h ((1) <<< ((nI (j)) &&& 31)) hq2) (wm_ref (by decide)) ((fun _ => rfl) _) rfl lk_RX6_141 mi_X6_log ms_X6_log ini_RX6 mc_X6_log md_X6_log ⟨Nat.le_of_ble_eq_true rfl, Nat.le_of_ble_eq_true rfl⟩ ⟨Nat.le_of_ble_eq_true rfl, Nat.le_of_ble_eq_true rfl⟩ rfl (Nat.le_of_ble_eq_true rfl) (as := [.int (-1), .int (-1), .int (0), .int ((1) <<< ((nI (j)) &&& 31))]) (rest := []) rfl dX6_poke_119 rfl ?_
  refine j_name (fun S6 eS6 => ?_)
  have eP3 : S6 = rPok3 S j v := by rw [eS6, eP2]; rfl
  have hq3 : okI (S6 7 0 1 21) 400 := by rw [eS6]; exact rLogX_q hq2
  have hq34 : rQ S6 ≤ 400 := hq3.2
  refine j_iload_n X dX6_poke_122 rfl rfl (q := 0) rfl ?_
  refine j_sipush X dX6_poke_123 rfl (v := 406) (by decide) ?_
  refine j_bipush X dX6_poke_126 rfl (v := 19) (by decide) ?_
  refine j_aload_n X dX6_poke_128 rfl rfl (q := 1) rfl ?_
  refine jg_model X 0 (by decide) lk_RX6_7 rfl rfl dX6_poke_129 rfl ?_
  refine j_bipush X dX6_poke_132 rfl (v := 21) (by decide) ?_
  refine j_ialdN X (k := 21) (wm_ref (by decide)) ((fun _ => rfl) _) (by decide) (by decide) dX6_poke_134 rfl ?_
  refine j_topeq (y := nI (rQ S6)) hq3.1 ?_
  refine j_imul X dX6_poke_135 rfl ?_
  refine j_topeq (y := nI (19 * (rQ S6))) (pk_mul 19 (rQ S6)) ?_
  refine j_iadd X dX6_poke_136 rfl ?_
  refine j_topeq (y := nI (406 + (19 * (rQ S6)))) (nI_add 406 (19 * (rQ S6))) ?_
  refine j_icmpN_ge X (a := 406 + (19 * (rQ S5))) (b := 406 + (19 * (rQ S6))) (by omega) (by omega) dX6_poke_137 rfl (tgt := 152) (by decide) (fun c_137 => ?_) (fun c_137 => ?_)
  · refine j_aload_n X dX6_poke_152 rfl rfl (q := 1) rfl ?_
    refine jg_model X 13 (by decide) lk_RX6_114 rfl rfl dX6_poke_153 rfl ?_
    have hc' : ¬ 406 + 19 * rQ (rPok2 S j v) < 406 + 19 * rQ (rPok3 S j v) := by rw [← eP2, ← eP3]; omega
    have hS : S6 = rPokS S j v := by rw [rPokS, if_neg hc', ← eP3]
    exact j_ret (by rw [← hS]) hS rfl (K _ _ dX6_poke_156)
  · refine j_aload_n X dX6_poke_140 rfl rfl (q := 1) rfl ?_
    refine jg_model X 0 (by decide) lk_RX6_7 rfl rfl dX6_poke_141 rfl ?_
    refine j_iload_n X dX6_poke_144 rfl rfl (q := 0) rfl ?_
    refine j_bipush X dX6_poke_145 rfl (v := 11) (by decide) ?_
    refine j_iadd X dX6_poke_147 rfl ?_
    refine j_topeq (y := nI ((406 + (19 * (rQ S5))) + 11)) (nI_add (406 + (19 * (rQ S5))) 11) ?_
    refine j_iload_n X dX6_poke_148 rfl rfl (q := 2) rfl ?_
    refine j_iadd X dX6_poke_149 rfl ?_
    refine j_topeq (y := nI (((406 + (19 * (rQ S5))) + 11) + j)) (nI_add ((406 + (19 * (rQ S5))) + 11) j) ?_
    refine j_iload_n X dX6_poke_150 rfl rfl (q := 3) rfl ?_
    refine j_iastN X (k := ((406 + (19 * (rQ S5))) + 11) + j) (wm_ref (by decide)) (fun r => (fun _ => rfl) r) (by omega) (by decide) dX6_poke_151 rfl ?_
    refine j_name (fun S7 eS7 => ?_)
    refine j_aload_n X dX6_poke_152 rfl rfl (q := 1) rfl ?_
    refine jg_model X 13 (by decide) lk_RX6_114 rfl rfl dX6_poke_153 rfl ?_
    have hc' : 406 + 19 * rQ (rPok2 S j v) < 406 + 19 * rQ (rPok3 S j v) := by rw [← eP2, ← eP3]; omega
    have hS : S7 = rPokS S j v := by rw [rPokS, if_pos hc', ← eP3, ← eP2]; exact eS7
    exact j_ret (by rw [← hS]) hS rfl (K _ _ dX6_poke_156)
set_option maxRecDepth 100000 in
set_option maxHeartbeats 4000000 in
theorem c_X6_poke_nl (l : Launch) (Z : wZ) (S : St) (h : Hl) (y v : Int32) (hl : rIn y 0 7 = false) : Ci l yX6_poke cX6_poke 4 .int 3 69 Z [.ref (zA Z (7) (0) (0)), .int (y), .int (v)] S h (0) (rCd S 1) (h) := by
  refine Ci.of rfl rfl (Nat.le_of_ble_eq_true rfl) (fun p e s mi args below meth c A0 Q X K => ?_)
  refine j_at rfl rfl (Ls3 := [(0, .ref (zA Z (7) (0) (0))), (1, .int (y)), (2, .int (v))]) rfl rfl ?_
  refine j_aload_n X dX6_poke_0 rfl rfl (q := 0) rfl ?_
  refine j_iload_n X dX6_poke_1 rfl rfl (q := 1) rfl ?_
  refine j_callSi X (c_X6_isLine l Z S h (y)) lk_RX6_180 mt_X6_isLine ini_RX6 mc_X6_isLine md_X6_isLine ⟨Nat.le_of_ble_eq_true rfl, Nat.le_of_ble_eq_true rfl⟩ ⟨Nat.le_of_ble_eq_true rfl, Nat.le_of_ble_eq_true rfl⟩ rfl (Nat.le_of_ble_eq_true rfl) (as := [.int (y)]) (rest := [.ref (zA Z (7) (0) (0))]) rfl dX6_poke_2 rfl ?_
  refine j_if_eq_t X (tgt := 12) dX6_poke_5 (by decide) (by rw [hl]; decide) ?_
  refine j_iconst X dX6_poke_12 rfl (v := 1) (by decide) ?_
  refine jp_model X 9 (by decide) lk_RX6_41 rfl rfl rfl (vp_nar_int _) rfl rfl dX6_poke_13 rfl ?_
  refine j_name (fun S1 eS1 => ?_)
  refine j_aload_n X dX6_poke_16 rfl rfl (q := 0) rfl ?_
  refine jg_model X 9 (by decide) lk_RX6_41 rfl rfl dX6_poke_17 rfl ?_
  refine j_topeq (y := (1)) (by rw [eS1, setF_at, if_pos ⟨rfl, rfl, rfl, rfl⟩]) ?_
  refine j_if_eq_f X dX6_poke_20 rfl (tgt := 25) (by decide) (by decide) ?_
  refine j_iconst X dX6_poke_23 rfl (v := 0) (by decide) ?_
  exact j_ret (by subst eS1; first | with_reducible rfl | (simp []; done) | (simp_all []; done) | rfl) (by subst eS1; first | with_reducible rfl | (simp []; done) | (simp_all []; done) | rfl) rfl (K _ _ dX6_poke_24)
set_option maxRecDepth 100000 in
set_option maxHeartbeats 4000000 in
theorem c_X6_core_no (l : Launch) (Z : wZ) (S : St) (h : Hl) (x : Int32) (y : Int32) (hx : rIsC S x = false) : Ci l yX6_core cX6_core 3 .int 3 65 Z [.ref (zA Z (7) (0) (0)), .int (x), .int (y)] S h (0) (rCd S 1) (h) := by
  refine Ci.of rfl rfl (Nat.le_of_ble_eq_true rfl) (fun p e s mi args below meth c A0 Q X K => ?_)
  refine j_at rfl rfl (Ls3 := [(0, .ref (zA Z (7) (0) (0))), (1, .int (x)), (2, .int (y))]) rfl rfl ?_
  refine j_aload_n X dX6_core_0 rfl rfl (q := 0) rfl ?_
  refine j_aload_n X dX6_core_1 rfl rfl (q := 0) rfl ?_
  refine j_iload_n X dX6_core_2 rfl rfl (q := 1) rfl ?_
  refine j_calli X (c_X6_isCore l Z S h (x)) (wm_ref (by decide)) ((fun _ => rfl) _) rfl lk_RX6_94 mi_X6_isCore ms_X6_isCore ini_RX6 mc_X6_isCore md_X6_isCore ⟨Nat.le_of_ble_eq_true rfl, Nat.le_of_ble_eq_true rfl⟩ ⟨Nat.le_of_ble_eq_true rfl, Nat.le_of_ble_eq_true rfl⟩ rfl (Nat.le_of_ble_eq_true rfl) (as := [.int (x)]) (rest := [.ref (zA Z (7) (0) (0))]) rfl dX6_core_3 rfl ?_
  refine j_if_ne_f X dX6_core_6 rfl (tgt := 13) (by decide) (by rw [show rIn x 0 (S 7 0 1 0 - 1) = false from hx]; decide) ?_
  refine j_iconst X dX6_core_9 rfl (v := 1) (by decide) ?_
  refine j_goto X (tgt := 27) dX6_core_10 (by decide) ?_
  refine jp_model X 9 (by decide) lk_RX6_41 rfl rfl rfl (vp_nar_int _) rfl rfl dX6_core_27 rfl ?_
  refine j_name (fun S1 eS1 => ?_)
  refine j_aload_n X dX6_core_30 rfl rfl (q := 0) rfl ?_
  refine jg_model X 9 (by decide) lk_RX6_41 rfl rfl dX6_core_31 rfl ?_
  refine j_topeq (y := (1)) (by rw [eS1, setF_at, if_pos ⟨rfl, rfl, rfl, rfl⟩]) ?_
  refine j_if_eq_f X dX6_core_34 rfl (tgt := 41) (by decide) (by decide) ?_
  refine j_iconst X dX6_core_37 rfl (v := 0) (by decide) ?_
  refine j_goto X (tgt := 47) dX6_core_38 (by decide) ?_
  exact j_ret (by subst eS1; first | with_reducible rfl | (simp []; done) | (simp_all []; done) | rfl) (by subst eS1; first | with_reducible rfl | (simp []; done) | (simp_all []; done) | rfl) rfl (K _ _ dX6_core_47)
set_option maxRecDepth 100000 in
set_option maxHeartbeats 4000000 in
theorem c_X6_core (l : Launch) (Z : wZ) (S : St) (h : Hl) (a : Nat) (ha : a < 4) (hx : rIsC S (nI a) = true) (k : Nat) (hk6 : k < 6) (hk : rIn (nI k) 0 5 = true) : Ci l yX6_core cX6_core 3 .int 3 65 Z [.ref (zA Z (7) (0) (0)), .int (nI (a)), .int (nI (k))] S h (rCoreO (rCd S 0) a k) (rCd S 0) (h) := by
  refine Ci.of rfl rfl (Nat.le_of_ble_eq_true rfl) (fun p e s mi args below meth c A0 Q X K => ?_)
  refine j_at rfl rfl (Ls3 := [(0, .ref (zA Z (7) (0) (0))), (1, .int (nI (a))), (2, .int (nI (k)))]) rfl rfl ?_
  refine j_aload_n X dX6_core_0 rfl rfl (q := 0) rfl ?_
  refine j_aload_n X dX6_core_1 rfl rfl (q := 0) rfl ?_
  refine j_iload_n X dX6_core_2 rfl rfl (q := 1) rfl ?_
  refine j_calli X (c_X6_isCore l Z S h (nI (a))) (wm_ref (by decide)) ((fun _ => rfl) _) rfl lk_RX6_94 mi_X6_isCore ms_X6_isCore ini_RX6 mc_X6_isCore md_X6_isCore ⟨Nat.le_of_ble_eq_true rfl, Nat.le_of_ble_eq_true rfl⟩ ⟨Nat.le_of_ble_eq_true rfl, Nat.le_of_ble_eq_true rfl⟩ rfl (Nat.le_of_ble_eq_true rfl) (as := [.int (nI (a))]) (rest := [.ref (zA Z (7) (0) (0))]) rfl dX6_core_3 rfl ?_
  refine j_if_ne_t X (tgt := 13) dX6_core_6 (by decide) (by rw [show rIn (nI a) 0 (S 7 0 1 0 - 1) = true from hx]; decide) ?_
  refine j_iload_n X dX6_core_13 rfl rfl (q := 2) rfl ?_
  refine j_iconst X dX6_core_14 rfl (v := 0) (by decide) ?_
  refine j_iconst X dX6_core_15 rfl (v := 5) (by decide) ?_
  refine j_callSi X (c_X6_in l Z S h (nI (k)) (0) (5)) lk_RX6_56 mt_X6_in ini_RX6 mc_X6_in md_X6_in ⟨Nat.le_of_ble_eq_true rfl, Nat.le_of_ble_eq_true rfl⟩ ⟨Nat.le_of_ble_eq_true rfl, Nat.le_of_ble_eq_true rfl⟩ rfl (Nat.le_of_ble_eq_true rfl) (as := [.int (nI (k)), .int (0), .int (5)]) (rest := [.ref (zA Z (7) (0) (0))]) rfl dX6_core_16 rfl ?_
  refine j_if_ne_t X (tgt := 26) dX6_core_19 (by decide) (by rw [show rIn (nI k) 0 5 = true from hk]; decide) ?_
  refine j_iconst X dX6_core_26 rfl (v := 0) (by decide) ?_
  refine jp_model X 9 (by decide) lk_RX6_41 rfl rfl rfl (vp_nar_int _) rfl rfl dX6_core_27 rfl ?_
  refine j_name (fun S1 eS1 => ?_)
  refine j_aload_n X dX6_core_30 rfl rfl (q := 0) rfl ?_
  refine jg_model X 9 (by decide) lk_RX6_41 rfl rfl dX6_core_31 rfl ?_
  refine j_topeq (y := (0)) (by rw [eS1, setF_at, if_pos ⟨rfl, rfl, rfl, rfl⟩]) ?_
  refine j_if_eq_t X (tgt := 41) dX6_core_34 (by decide) (by decide) ?_
  refine j_aload_n X dX6_core_41 rfl rfl (q := 0) rfl ?_
  refine j_iload_n X dX6_core_42 rfl rfl (q := 1) rfl ?_
  refine j_iload_n X dX6_core_43 rfl rfl (q := 2) rfl ?_
  refine j_calli X (c_X6_coreOf l Z S1 h a (by omega) k (by omega)) (wm_ref (by decide)) ((fun _ => rfl) _) rfl lk_RX6_187 mi_X6_coreOf ms_X6_coreOf ini_RX6 mc_X6_coreOf md_X6_coreOf ⟨Nat.le_of_ble_eq_true rfl, Nat.le_of_ble_eq_true rfl⟩ ⟨Nat.le_of_ble_eq_true rfl, Nat.le_of_ble_eq_true rfl⟩ rfl (Nat.le_of_ble_eq_true rfl) (as := [.int (nI (a)), .int (nI (k))]) (rest := []) rfl dX6_core_44 rfl ?_
  exact j_ret (by subst eS1; first | with_reducible rfl | (simp []; done) | (simp_all []; done) | rfl) (by subst eS1; first | with_reducible rfl | (simp []; done) | (simp_all []; done) | rfl) rfl (K _ _ dX6_core_47)
set_option maxRecDepth 100000 in
set_option maxHeartbeats 4000000 in
theorem c_X6_core_nk (l : Launch) (Z : wZ) (S : St) (h : Hl) (a : Nat) (ha : a < 4) (hx : rIsC S (nI a) = true) (y : Int32) (hy : rIn y 0 5 = false) : Ci l yX6_core cX6_core 3 .int 3 65 Z [.ref (zA Z (7) (0) (0)), .int (nI (a)), .int (y)] S h (0) (rCd S 2) (h) := by
  refine Ci.of rfl rfl (Nat.le_of_ble_eq_true rfl) (fun p e s mi args below meth c A0 Q X K => ?_)
  refine j_at rfl rfl (Ls3 := [(0, .ref (zA Z (7) (0) (0))), (1, .int (nI (a))), (2, .int (y))]) rfl rfl ?_
  refine j_aload_n X dX6_core_0 rfl rfl (q := 0) rfl ?_
  refine j_aload_n X dX6_core_1 rfl rfl (q := 0) rfl ?_
  refine j_iload_n X dX6_core_2 rfl rfl (q := 1) rfl ?_
  refine j_calli X (c_X6_isCore l Z S h (nI (a))) (wm_ref (by decide)) ((fun _ => rfl) _) rfl lk_RX6_94 mi_X6_isCore ms_X6_isCore ini_RX6 mc_X6_isCore md_X6_isCore ⟨Nat.le_of_ble_eq_true rfl, Nat.le_of_ble_eq_true rfl⟩ ⟨Nat.le_of_ble_eq_true rfl, Nat.le_of_ble_eq_true rfl⟩ rfl (Nat.le_of_ble_eq_true rfl) (as := [.int (nI (a))]) (rest := [.ref (zA Z (7) (0) (0))]) rfl dX6_core_3 rfl ?_
  refine j_if_ne_t X (tgt := 13) dX6_core_6 (by decide) (by rw [show rIn (nI a) 0 (S 7 0 1 0 - 1) = true from hx]; decide) ?_
  refine j_iload_n X dX6_core_13 rfl rfl (q := 2) rfl ?_
  refine j_iconst X dX6_core_14 rfl (v := 0) (by decide) ?_
  refine j_iconst X dX6_core_15 rfl (v := 5) (by decide) ?_
  refine j_callSi X (c_X6_in l Z S h (y) (0) (5)) lk_RX6_56 mt_X6_in ini_RX6 mc_X6_in md_X6_in ⟨Nat.le_of_ble_eq_true rfl, Nat.le_of_ble_eq_true rfl⟩ ⟨Nat.le_of_ble_eq_true rfl, Nat.le_of_ble_eq_true rfl⟩ rfl (Nat.le_of_ble_eq_true rfl) (as := [.int (y), .int (0), .int (5)]) (rest := [.ref (zA Z (7) (0) (0))]) rfl dX6_core_16 rfl ?_
  refine j_if_ne_f X dX6_core_19 rfl (tgt := 26) (by decide) (by rw [hy]; decide) ?_
  refine j_iconst X dX6_core_22 rfl (v := 2) (by decide) ?_
  refine j_goto X (tgt := 27) dX6_core_23 (by decide) ?_
  refine jp_model X 9 (by decide) lk_RX6_41 rfl rfl rfl (vp_nar_int _) rfl rfl dX6_core_27 rfl ?_
  refine j_name (fun S1 eS1 => ?_)
  refine j_aload_n X dX6_core_30 rfl rfl (q := 0) rfl ?_
  refine jg_model X 9 (by decide) lk_RX6_41 rfl rfl dX6_core_31 rfl ?_
  refine j_topeq (y := (2)) (by rw [eS1, setF_at, if_pos ⟨rfl, rfl, rfl, rfl⟩]) ?_
  refine j_if_eq_f X dX6_core_34 rfl (tgt := 41) (by decide) (by decide) ?_
  refine j_iconst X dX6_core_37 rfl (v := 0) (by decide) ?_
  refine j_goto X (tgt := 47) dX6_core_38 (by decide) ?_
  exact j_ret (by subst eS1; first | with_reducible rfl | (simp []; done) | (simp_all []; done) | rfl) (by subst eS1; first | with_reducible rfl | (simp []; done) | (simp_all []; done) | rfl) rfl (K _ _ dX6_core_47)
set_option maxRecDepth 100000 in
set_option maxHeartbeats 4000000 in
theorem c_X6_value (l : Launch) (Z : wZ) (S : St) (h : Hl) (hcc : okI (S 7 0 1 0) 4) (k : Nat) (hk6 : k < 5) (hk : rIn (nI k) 0 4 = true) : Ci l yX6_value cX6_value 2 .int 5 107 Z [.ref (zA Z (7) (0) (0)), .int (nI (k))] S h (rValO (rCd S 0) k) (rCd S 0) (h) := by
  refine Ci.of rfl rfl (Nat.le_of_ble_eq_true rfl) (fun p e s mi args below meth c A0 Q X K => ?_)
  refine j_at rfl rfl (Ls3 := [(0, .ref (zA Z (7) (0) (0))), (1, .int (nI (k)))]) rfl rfl ?_
  refine j_aload_n X dX6_value_0 rfl rfl (q := 0) rfl ?_
  refine j_iload_n X dX6_value_1 rfl rfl (q := 1) rfl ?_
  refine j_iconst X dX6_value_2 rfl (v := 0) (by decide) ?_
  refine j_iconst X dX6_value_3 rfl (v := 4) (by decide) ?_
  refine j_callSi X (c_X6_in l Z S h (nI (k)) (0) (4)) lk_RX6_56 mt_X6_in ini_RX6 mc_X6_in md_X6_in ⟨Nat.le_of_ble_eq_true rfl, Nat.le_of_ble_eq_true rfl⟩ ⟨Nat.le_of_ble_eq_true rfl, Nat.le_of_ble_eq_true rfl⟩ rfl (Nat.le_of_ble_eq_true rfl) (as := [.int (nI (k)), .int (0), .int (4)]) (rest := [.ref (zA Z (7) (0) (0))]) rfl dX6_value_4 rfl ?_
  refine j_if_eq_f X dX6_value_7 rfl (tgt := 14) (by decide) (by rw [show rIn (nI k) 0 4 = true from hk]; decide) ?_
  refine j_iconst X dX6_value_10 rfl (v := 0) (by decide) ?_
  refine j_goto X (tgt := 15) dX6_value_11 (by decide) ?_
  refine jp_model X 9 (by decide) lk_RX6_41 rfl rfl rfl (vp_nar_int _) rfl rfl dX6_value_15 rfl ?_
  refine j_name (fun S1 eS1 => ?_)
  refine j_aload_n X dX6_value_18 rfl rfl (q := 0) rfl ?_
  refine jg_model X 9 (by decide) lk_RX6_41 rfl rfl dX6_value_19 rfl ?_
  refine j_topeq (y := (0)) (by rw [eS1, setF_at, if_pos ⟨rfl, rfl, rfl, rfl⟩]) ?_
  refine j_if_eq_t X (tgt := 29) dX6_value_22 (by decide) (by decide) ?_
  refine j_aload_n X dX6_value_29 rfl rfl (q := 0) rfl ?_
  refine j_iload_n X dX6_value_30 rfl rfl (q := 1) rfl ?_
  refine j_calli X (c_X6_valueOf l Z S1 h (by subst eS1; simp [rKeep_m, rCd_m, setO_M, rCC, rQ] <;> exact hcc) k (by omega)) (wm_ref (by decide)) ((fun _ => rfl) _) rfl lk_RX6_190 mi_X6_valueOf ms_X6_valueOf ini_RX6 mc_X6_valueOf md_X6_valueOf ⟨Nat.le_of_ble_eq_true rfl, Nat.le_of_ble_eq_true rfl⟩ ⟨Nat.le_of_ble_eq_true rfl, Nat.le_of_ble_eq_true rfl⟩ rfl (Nat.le_of_ble_eq_true rfl) (as := [.int (nI (k))]) (rest := []) rfl dX6_value_31 rfl ?_
  exact j_ret (by subst eS1; first | with_reducible rfl | (simp []; done) | (simp_all []; done) | rfl) (by subst eS1; first | with_reducible rfl | (simp []; done) | (simp_all []; done) | rfl) rfl (K _ _ dX6_value_34)
set_option maxRecDepth 100000 in
set_option maxHeartbeats 4000000 in
theorem c_X6_value_nk (l : Launch) (Z : wZ) (S : St) (h : Hl) (y : Int32) (hy : rIn y 0 4 = false) : Ci l yX6_value cX6_value 2 .int 5 107 Z [.ref (zA Z (7) (0) (0)), .int (y)] S h (0) (rCd S 1) (h) := by
  refine Ci.of rfl rfl (Nat.le_of_ble_eq_true rfl) (fun p e s mi args below meth c A0 Q X K => ?_)
  refine j_at rfl rfl (Ls3 := [(0, .ref (zA Z (7) (0) (0))), (1, .int (y))]) rfl rfl ?_
  refine j_aload_n X dX6_value_0 rfl rfl (q := 0) rfl ?_
  refine j_iload_n X dX6_value_1 rfl rfl (q := 1) rfl ?_
  refine j_iconst X dX6_value_2 rfl (v := 0) (by decide) ?_
  refine j_iconst X dX6_value_3 rfl (v := 4) (by decide) ?_
  refine j_callSi X (c_X6_in l Z S h (y) (0) (4)) lk_RX6_56 mt_X6_in ini_RX6 mc_X6_in md_X6_in ⟨Nat.le_of_ble_eq_true rfl, Nat.le_of_ble_eq_true rfl⟩ ⟨Nat.le_of_ble_eq_true rfl, Nat.le_of_ble_eq_true rfl⟩ rfl (Nat.le_of_ble_eq_true rfl) (as := [.int (y), .int (0), .int (4)]) (rest := [.ref (zA Z (7) (0) (0))]) rfl dX6_value_4 rfl ?_
  refine j_if_eq_t X (tgt := 14) dX6_value_7 (by decide) (by rw [hy]; decide) ?_
  refine j_iconst X dX6_value_14 rfl (v := 1) (by decide) ?_
  refine jp_model X 9 (by decide) lk_RX6_41 rfl rfl rfl (vp_nar_int _) rfl rfl dX6_value_15 rfl ?_
  refine j_name (fun S1 eS1 => ?_)
  refine j_aload_n X dX6_value_18 rfl rfl (q := 0) rfl ?_
  refine jg_model X 9 (by decide) lk_RX6_41 rfl rfl dX6_value_19 rfl ?_
  refine j_topeq (y := (1)) (by rw [eS1, setF_at, if_pos ⟨rfl, rfl, rfl, rfl⟩]) ?_
  refine j_if_eq_f X dX6_value_22 rfl (tgt := 29) (by decide) (by decide) ?_
  refine j_iconst X dX6_value_25 rfl (v := 0) (by decide) ?_
  refine j_goto X (tgt := 34) dX6_value_26 (by decide) ?_
  exact j_ret (by subst eS1; first | with_reducible rfl | (simp []; done) | (simp_all []; done) | rfl) (by subst eS1; first | with_reducible rfl | (simp []; done) | (simp_all []; done) | rfl) rfl (K _ _ dX6_value_34)
set_option maxRecDepth 100000 in
set_option maxHeartbeats 4000000 in
theorem c_X6_counter (l : Launch) (Z : wZ) (S : St) (h : Hl) (k : Nat) (hk6 : k < 8) (hk : rIn (nI k) 0 7 = true) : Ci l yX6_counter cX6_counter 2 .int 1 22 Z [.ref (zA Z (7) (0) (0)), .int (nI (k))] S h (rCd S 0 7 0 1 (13 + k)) (rCd S 0) (h) := by
  refine Ci.of rfl rfl (Nat.le_of_ble_eq_true rfl) (fun p e s mi args below meth c A0 Q X K => ?_)
  refine j_at rfl rfl (Ls3 := [(0, .ref (zA Z (7) (0) (0))), (1, .int (nI (k)))]) rfl rfl ?_
  refine j_aload_n X dX6_counter_0 rfl rfl (q := 0) rfl ?_
  refine j_iload_n X dX6_counter_1 rfl rfl (q := 1) rfl ?_
  refine j_iconst X dX6_counter_2 rfl (v := 0) (by decide) ?_
  refine j_bipush X dX6_counter_3 rfl (v := 7) (by decide) ?_
  refine j_callSi X (c_X6_in l Z S h (nI (k)) (0) (7)) lk_RX6_56 mt_X6_in ini_RX6 mc_X6_in md_X6_in ⟨Nat.le_of_ble_eq_true rfl, Nat.le_of_ble_eq_true rfl⟩ ⟨Nat.le_of_ble_eq_true rfl, Nat.le_of_ble_eq_true rfl⟩ rfl (Nat.le_of_ble_eq_true rfl) (as := [.int (nI (k)), .int (0), .int (7)]) (rest := [.ref (zA Z (7) (0) (0))]) rfl dX6_counter_5 rfl ?_
  refine j_if_eq_f X dX6_counter_8 rfl (tgt := 15) (by decide) (by rw [show rIn (nI k) 0 7 = true from hk]; decide) ?_
  refine j_iconst X dX6_counter_11 rfl (v := 0) (by decide) ?_
  refine j_goto X (tgt := 16) dX6_counter_12 (by decide) ?_
  refine jp_model X 9 (by decide) lk_RX6_41 rfl rfl rfl (vp_nar_int _) rfl rfl dX6_counter_16 rfl ?_
  refine j_name (fun S1 eS1 => ?_)
  refine j_aload_n X dX6_counter_19 rfl rfl (q := 0) rfl ?_
  refine jg_model X 9 (by decide) lk_RX6_41 rfl rfl dX6_counter_20 rfl ?_
  refine j_topeq (y := (0)) (by rw [eS1, setF_at, if_pos ⟨rfl, rfl, rfl, rfl⟩]) ?_
  refine j_if_eq_t X (tgt := 30) dX6_counter_23 (by decide) (by decide) ?_
  refine j_aload_n X dX6_counter_30 rfl rfl (q := 0) rfl ?_
  refine jg_model X 0 (by decide) lk_RX6_7 rfl rfl dX6_counter_31 rfl ?_
  refine j_bipush X dX6_counter_34 rfl (v := 13) (by decide) ?_
  refine j_iload_n X dX6_counter_36 rfl rfl (q := 1) rfl ?_
  refine j_iadd X dX6_counter_37 rfl ?_
  refine j_topeq (y := nI (13 + k)) (nI_add 13 k) ?_
  refine j_ialdN X (k := 13 + k) (wm_ref (by decide)) ((fun _ => rfl) _) (by omega) (by decide) dX6_counter_38 rfl ?_
  exact j_ret (by subst eS1; first | with_reducible rfl | (simp []; done) | (simp_all []; done) | rfl) (by subst eS1; first | with_reducible rfl | (simp []; done) | (simp_all []; done) | rfl) rfl (K _ _ dX6_counter_39)
set_option maxRecDepth 100000 in
set_option maxHeartbeats 4000000 in
theorem c_X6_counter_nk (l : Launch) (Z : wZ) (S : St) (h : Hl) (y : Int32) (hy : rIn y 0 7 = false) : Ci l yX6_counter cX6_counter 2 .int 1 22 Z [.ref (zA Z (7) (0) (0)), .int (y)] S h (0) (rCd S 1) (h) := by
  refine Ci.of rfl rfl (Nat.le_of_ble_eq_true rfl) (fun p e s mi args below meth c A0 Q X K => ?_)
  refine j_at rfl rfl (Ls3 := [(0, .ref (zA Z (7) (0) (0))), (1, .int (y))]) rfl rfl ?_
  refine j_aload_n X dX6_counter_0 rfl rfl (q := 0) rfl ?_
  refine j_iload_n X dX6_counter_1 rfl rfl (q := 1) rfl ?_
  refine j_iconst X dX6_counter_2 rfl (v := 0) (by decide) ?_
  refine j_bipush X dX6_counter_3 rfl (v := 7) (by decide) ?_
  refine j_callSi X (c_X6_in l Z S h (y) (0) (7)) lk_RX6_56 mt_X6_in ini_RX6 mc_X6_in md_X6_in ⟨Nat.le_of_ble_eq_true rfl, Nat.le_of_ble_eq_true rfl⟩ ⟨Nat.le_of_ble_eq_true rfl, Nat.le_of_ble_eq_true rfl⟩ rfl (Nat.le_of_ble_eq_true rfl) (as := [.int (y), .int (0), .int (7)]) (rest := [.ref (zA Z (7) (0) (0))]) rfl dX6_counter_5 rfl ?_
  refine j_if_eq_t X (tgt := 15) dX6_counter_8 (by decide) (by rw [hy]; decide) ?_
  refine j_iconst X dX6_counter_15 rfl (v := 1) (by decide) ?_
  refine jp_model X 9 (by decide) lk_RX6_41 rfl rfl rfl (vp_nar_int _) rfl rfl dX6_counter_16 rfl ?_
  refine j_name (fun S1 eS1 => ?_)
  refine j_aload_n X dX6_counter_19 rfl rfl (q := 0) rfl ?_
  refine jg_model X 9 (by decide) lk_RX6_41 rfl rfl dX6_counter_20 rfl ?_
  refine j_topeq (y := (1)) (by rw [eS1, setF_at, if_pos ⟨rfl, rfl, rfl, rfl⟩]) ?_
  refine j_if_eq_f X dX6_counter_23 rfl (tgt := 30) (by decide) (by decide) ?_
  refine j_iconst X dX6_counter_26 rfl (v := 0) (by decide) ?_
  refine j_goto X (tgt := 39) dX6_counter_27 (by decide) ?_
  exact j_ret (by subst eS1; first | with_reducible rfl | (simp []; done) | (simp_all []; done) | rfl) (by subst eS1; first | with_reducible rfl | (simp []; done) | (simp_all []; done) | rfl) rfl (K _ _ dX6_counter_39)
set_option maxRecDepth 100000 in
set_option maxHeartbeats 4000000 in
theorem c_X6_commit_no (l : Launch) (Z : wZ) (S : St) (h : Hl) (x : Int32) (y : Int32) (hx : rIsE S x = false) : Ci l yX6_commit cX6_commit 4 .int 1 22 Z [.ref (zA Z (7) (0) (0)), .int (x), .int (y)] S h (0) (rCd S 1) (h) := by
  refine Ci.of rfl rfl (Nat.le_of_ble_eq_true rfl) (fun p e s mi args below meth c A0 Q X K => ?_)
  refine j_at rfl rfl (Ls3 := [(0, .ref (zA Z (7) (0) (0))), (1, .int (x)), (2, .int (y))]) rfl rfl ?_
  refine j_aload_n X dX6_commit_0 rfl rfl (q := 0) rfl ?_
  refine j_iload_n X dX6_commit_1 rfl rfl (q := 1) rfl ?_
  refine j_iconst X dX6_commit_2 rfl (v := 0) (by decide) ?_
  refine j_aload_n X dX6_commit_3 rfl rfl (q := 0) rfl ?_
  refine jg_model X 0 (by decide) lk_RX6_7 rfl rfl dX6_commit_4 rfl ?_
  refine j_bipush X dX6_commit_7 rfl (v := 21) (by decide) ?_
  refine j_ialdN X (k := 21) (wm_ref (by decide)) ((fun _ => rfl) _) (by decide) (by decide) dX6_commit_9 rfl ?_
  refine j_iconst X dX6_commit_10 rfl (v := 1) (by decide) ?_
  refine j_isub X dX6_commit_11 rfl ?_
  refine j_callSi X (c_X6_in l Z S h (x) (0) ((S 7 0 1 21) - (1))) lk_RX6_56 mt_X6_in ini_RX6 mc_X6_in md_X6_in ⟨Nat.le_of_ble_eq_true rfl, Nat.le_of_ble_eq_true rfl⟩ ⟨Nat.le_of_ble_eq_true rfl, Nat.le_of_ble_eq_true rfl⟩ rfl (Nat.le_of_ble_eq_true rfl) (as := [.int (x), .int (0), .int ((S 7 0 1 21) - (1))]) (rest := [.ref (zA Z (7) (0) (0))]) rfl dX6_commit_12 rfl ?_
  refine j_if_ne_f X dX6_commit_15 rfl (tgt := 22) (by decide) (by rw [show rIn x 0 (S 7 0 1 21 - 1) = false from hx]; decide) ?_
  refine j_iconst X dX6_commit_18 rfl (v := 1) (by decide) ?_
  refine j_goto X (tgt := 36) dX6_commit_19 (by decide) ?_
  refine jp_model X 9 (by decide) lk_RX6_41 rfl rfl rfl (vp_nar_int _) rfl rfl dX6_commit_36 rfl ?_
  refine j_name (fun S1 eS1 => ?_)
  refine j_aload_n X dX6_commit_39 rfl rfl (q := 0) rfl ?_
  refine jg_model X 9 (by decide) lk_RX6_41 rfl rfl dX6_commit_40 rfl ?_
  refine j_topeq (y := (1)) (by rw [eS1, setF_at, if_pos ⟨rfl, rfl, rfl, rfl⟩]) ?_
  refine j_if_eq_f X dX6_commit_43 rfl (tgt := 48) (by decide) (by decide) ?_
  refine j_iconst X dX6_commit_46 rfl (v := 0) (by decide) ?_
  exact j_ret (by subst eS1; first | with_reducible rfl | (simp []; done) | (simp_all []; done) | rfl) (by subst eS1; first | with_reducible rfl | (simp []; done) | (simp_all []; done) | rfl) rfl (K _ _ dX6_commit_47)
set_option maxRecDepth 100000 in
set_option maxHeartbeats 4000000 in
theorem c_X6_commit_nk (l : Launch) (Z : wZ) (S : St) (h : Hl) (ei : Nat) (hei : ei < 400) (hx : rIsE S (nI ei) = true) (y : Int32) (hy : rIn y 0 3 = false) : Ci l yX6_commit cX6_commit 4 .int 1 22 Z [.ref (zA Z (7) (0) (0)), .int (nI (ei)), .int (y)] S h (0) (rCd S 2) (h) := by
  refine Ci.of rfl rfl (Nat.le_of_ble_eq_true rfl) (fun p e s mi args below meth c A0 Q X K => ?_)
  refine j_at rfl rfl (Ls3 := [(0, .ref (zA Z (7) (0) (0))), (1, .int (nI (ei))), (2, .int (y))]) rfl rfl ?_
  refine j_aload_n X dX6_commit_0 rfl rfl (q := 0) rfl ?_
  refine j_iload_n X dX6_commit_1 rfl rfl (q := 1) rfl ?_
  refine j_iconst X dX6_commit_2 rfl (v := 0) (by decide) ?_
  refine j_aload_n X dX6_commit_3 rfl rfl (q := 0) rfl ?_
  refine jg_model X 0 (by decide) lk_RX6_7 rfl rfl dX6_commit_4 rfl ?_
  refine j_bipush X dX6_commit_7 rfl (v := 21) (by decide) ?_
  refine j_ialdN X (k := 21) (wm_ref (by decide)) ((fun _ => rfl) _) (by decide) (by decide) dX6_commit_9 rfl ?_
  refine j_iconst X dX6_commit_10 rfl (v := 1) (by decide) ?_
  refine j_isub X dX6_commit_11 rfl ?_
  refine j_callSi X (c_X6_in l Z S h (nI (ei)) (0) ((S 7 0 1 21) - (1))) lk_RX6_56 mt_X6_in ini_RX6 mc_X6_in md_X6_in ⟨Nat.le_of_ble_eq_true rfl, Nat.le_of_ble_eq_true rfl⟩ ⟨Nat.le_of_ble_eq_true rfl, Nat.le_of_ble_eq_true rfl⟩ rfl (Nat.le_of_ble_eq_true rfl) (as := [.int (nI (ei)), .int (0), .int ((S 7 0 1 21) - (1))]) (rest := [.ref (zA Z (7) (0) (0))]) rfl dX6_commit_12 rfl ?_
  refine j_if_ne_t X (tgt := 22) dX6_commit_15 (by decide) (by rw [show rIn (nI ei) 0 (S 7 0 1 21 - 1) = true from hx]; decide) ?_
  refine j_iload_n X dX6_commit_22 rfl rfl (q := 2) rfl ?_
  refine j_iconst X dX6_commit_23 rfl (v := 0) (by decide) ?_
  refine j_iconst X dX6_commit_24 rfl (v := 3) (by decide) ?_
  refine j_callSi X (c_X6_in l Z S h (y) (0) (3)) lk_RX6_56 mt_X6_in ini_RX6 mc_X6_in md_X6_in ⟨Nat.le_of_ble_eq_true rfl, Nat.le_of_ble_eq_true rfl⟩ ⟨Nat.le_of_ble_eq_true rfl, Nat.le_of_ble_eq_true rfl⟩ rfl (Nat.le_of_ble_eq_true rfl) (as := [.int (y), .int (0), .int (3)]) (rest := [.ref (zA Z (7) (0) (0))]) rfl dX6_commit_25 rfl ?_
  refine j_if_ne_f X dX6_commit_28 rfl (tgt := 35) (by decide) (by rw [hy]; decide) ?_
  refine j_iconst X dX6_commit_31 rfl (v := 2) (by decide) ?_
  refine j_goto X (tgt := 36) dX6_commit_32 (by decide) ?_
  refine jp_model X 9 (by decide) lk_RX6_41 rfl rfl rfl (vp_nar_int _) rfl rfl dX6_commit_36 rfl ?_
  refine j_name (fun S1 eS1 => ?_)
  refine j_aload_n X dX6_commit_39 rfl rfl (q := 0) rfl ?_
  refine jg_model X 9 (by decide) lk_RX6_41 rfl rfl dX6_commit_40 rfl ?_
  refine j_topeq (y := (2)) (by rw [eS1, setF_at, if_pos ⟨rfl, rfl, rfl, rfl⟩]) ?_
  refine j_if_eq_f X dX6_commit_43 rfl (tgt := 48) (by decide) (by decide) ?_
  refine j_iconst X dX6_commit_46 rfl (v := 0) (by decide) ?_
  exact j_ret (by subst eS1; first | with_reducible rfl | (simp []; done) | (simp_all []; done) | rfl) (by subst eS1; first | with_reducible rfl | (simp []; done) | (simp_all []; done) | rfl) rfl (K _ _ dX6_commit_47)
set_option maxRecDepth 100000 in
set_option maxHeartbeats 4000000 in
theorem c_X6_commit_0 (l : Launch) (Z : wZ) (S : St) (h : Hl) (ei : Nat) (hei : ei < 400) (hx : rIsE S (nI ei) = true) : Ci l yX6_commit cX6_commit 4 .int 1 22 Z [.ref (zA Z (7) (0) (0)), .int (nI (ei)), .int (0)] S h (rComQ (rCd S 0) ei 0) (rCd S 0) (h) := by
  refine Ci.of rfl rfl (Nat.le_of_ble_eq_true rfl) (fun p e s mi args below meth c A0 Q X K => ?_)
  refine j_at rfl rfl (Ls3 := [(0, .ref (zA Z (7) (0) (0))), (1, .int (nI (ei))), (2, .int (0))]) rfl rfl ?_
  refine j_aload_n X dX6_commit_0 rfl rfl (q := 0) rfl ?_
  refine j_iload_n X dX6_commit_1 rfl rfl (q := 1) rfl ?_
  refine j_iconst X dX6_commit_2 rfl (v := 0) (by decide) ?_
  refine j_aload_n X dX6_commit_3 rfl rfl (q := 0) rfl ?_
  refine jg_model X 0 (by decide) lk_RX6_7 rfl rfl dX6_commit_4 rfl ?_
  refine j_bipush X dX6_commit_7 rfl (v := 21) (by decide) ?_
  refine j_ialdN X (k := 21) (wm_ref (by decide)) ((fun _ => rfl) _) (by decide) (by decide) dX6_commit_9 rfl ?_
  refine j_iconst X dX6_commit_10 rfl (v := 1) (by decide) ?_
  refine j_isub X dX6_commit_11 rfl ?_
  refine j_callSi X (c_X6_in l Z S h (nI (ei)) (0) ((S 7 0 1 21) - (1))) lk_RX6_56 mt_X6_in ini_RX6 mc_X6_in md_X6_in ⟨Nat.le_of_ble_eq_true rfl, Nat.le_of_ble_eq_true rfl⟩ ⟨Nat.le_of_ble_eq_true rfl, Nat.le_of_ble_eq_true rfl⟩ rfl (Nat.le_of_ble_eq_true rfl) (as := [.int (nI (ei)), .int (0), .int ((S 7 0 1 21) - (1))]) (rest := [.ref (zA Z (7) (0) (0))]) rfl dX6_commit_12 rfl ?_
  refine j_if_ne_t X (tgt := 22) dX6_commit_15 (by decide) (by rw [show rIn (nI ei) 0 (S 7 0 1 21 - 1) = true from hx]; decide) ?_
  refine j_iload_n X dX6_commit_22 rfl rfl (q := 2) rfl ?_
  refine j_iconst X dX6_commit_23 rfl (v := 0) (by decide) ?_
  refine j_iconst X dX6_commit_24 rfl (v := 3) (by decide) ?_
  refine j_callSi X (c_X6_in l Z S h (0) (0) (3)) lk_RX6_56 mt_X6_in ini_RX6 mc_X6_in md_X6_in ⟨Nat.le_of_ble_eq_true rfl, Nat.le_of_ble_eq_true rfl⟩ ⟨Nat.le_of_ble_eq_true rfl, Nat.le_of_ble_eq_true rfl⟩ rfl (Nat.le_of_ble_eq_true rfl) (as := [.int (0), .int (0), .int (3)]) (rest := [.ref (zA Z (7) (0) (0))]) rfl dX6_commit_25 rfl ?_
  refine j_if_ne_t X (tgt := 35) dX6_commit_28 (by decide) (by decide) ?_
  refine j_iconst X dX6_commit_35 rfl (v := 0) (by decide) ?_
  refine jp_model X 9 (by decide) lk_RX6_41 rfl rfl rfl (vp_nar_int _) rfl rfl dX6_commit_36 rfl ?_
  refine j_name (fun S1 eS1 => ?_)
  refine j_aload_n X dX6_commit_39 rfl rfl (q := 0) rfl ?_
  refine jg_model X 9 (by decide) lk_RX6_41 rfl rfl dX6_commit_40 rfl ?_
  refine j_topeq (y := (0)) (by rw [eS1, setF_at, if_pos ⟨rfl, rfl, rfl, rfl⟩]) ?_
  refine j_if_eq_t X (tgt := 48) dX6_commit_43 (by decide) (by decide) ?_
  refine j_sipush X dX6_commit_48 rfl (v := 406) (by decide) ?_
  refine j_bipush X dX6_commit_51 rfl (v := 19) (by decide) ?_
  refine j_iload_n X dX6_commit_53 rfl rfl (q := 1) rfl ?_
  refine j_imul X dX6_commit_54 rfl ?_
  refine j_topeq (y := nI (19 * ei)) (pk_mul 19 ei) ?_
  refine j_iadd X dX6_commit_55 rfl ?_
  refine j_topeq (y := nI (406 + (19 * ei))) (nI_add 406 (19 * ei)) ?_
  refine j_istore_n X dX6_commit_56 rfl rfl (by decide) (Ls2 := [(3, .int (nI (406 + (19 * ei)))), (0, .ref (zA Z (7) (0) (0))), (1, .int (nI (ei))), (2, .int (0))]) rfl ?_
  refine j_iload_n X dX6_commit_57 rfl rfl (q := 3) rfl ?_
  refine j_iconst X dX6_commit_58 rfl (v := 2) (by decide) ?_
  refine j_icmp_ge_f X dX6_commit_59 rfl (tgt := 73) (by decide) (by decide) ?_
  refine j_aload_n X dX6_commit_62 rfl rfl (q := 1) rfl ?_
  refine jg_model X 0 (by decide) lk_RX6_7 rfl rfl dX6_commit_63 rfl ?_
  refine j_iload_n X dX6_commit_66 rfl rfl (q := 0) rfl ?_
  refine j_iload_n X dX6_commit_67 rfl rfl (q := 3) rfl ?_
  refine j_iadd X dX6_commit_68 rfl ?_
  refine j_topeq (y := nI ((406 + (19 * ei)) + 0)) (nI_add (406 + (19 * ei)) 0) ?_
  refine j_ialdN X (k := (406 + (19 * ei)) + 0) (wm_ref (by decide)) ((fun _ => rfl) _) (by omega) (by decide) dX6_commit_69 rfl ?_
  refine j_goto X (tgt := 105) dX6_commit_70 (by decide) ?_
  exact j_ret (by subst eS1; first | with_reducible rfl | (simp [rComQ]; done) | (simp_all [rComQ]; done) | rfl) (by subst eS1; first | with_reducible rfl | (simp [rComQ]; done) | (simp_all [rComQ]; done) | rfl) rfl (K _ _ dX6_commit_105)
set_option maxRecDepth 100000 in
set_option maxHeartbeats 4000000 in
theorem c_X6_commit_1 (l : Launch) (Z : wZ) (S : St) (h : Hl) (ei : Nat) (hei : ei < 400) (hx : rIsE S (nI ei) = true) : Ci l yX6_commit cX6_commit 4 .int 1 22 Z [.ref (zA Z (7) (0) (0)), .int (nI (ei)), .int (1)] S h (rComQ (rCd S 0) ei 1) (rCd S 0) (h) := by
  refine Ci.of rfl rfl (Nat.le_of_ble_eq_true rfl) (fun p e s mi args below meth c A0 Q X K => ?_)
  refine j_at rfl rfl (Ls3 := [(0, .ref (zA Z (7) (0) (0))), (1, .int (nI (ei))), (2, .int (1))]) rfl rfl ?_
  refine j_aload_n X dX6_commit_0 rfl rfl (q := 0) rfl ?_
  refine j_iload_n X dX6_commit_1 rfl rfl (q := 1) rfl ?_
  refine j_iconst X dX6_commit_2 rfl (v := 0) (by decide) ?_
  refine j_aload_n X dX6_commit_3 rfl rfl (q := 0) rfl ?_
  refine jg_model X 0 (by decide) lk_RX6_7 rfl rfl dX6_commit_4 rfl ?_
  refine j_bipush X dX6_commit_7 rfl (v := 21) (by decide) ?_
  refine j_ialdN X (k := 21) (wm_ref (by decide)) ((fun _ => rfl) _) (by decide) (by decide) dX6_commit_9 rfl ?_
  refine j_iconst X dX6_commit_10 rfl (v := 1) (by decide) ?_
  refine j_isub X dX6_commit_11 rfl ?_
  refine j_callSi X (c_X6_in l Z S h (nI (ei)) (0) ((S 7 0 1 21) - (1))) lk_RX6_56 mt_X6_in ini_RX6 mc_X6_in md_X6_in ⟨Nat.le_of_ble_eq_true rfl, Nat.le_of_ble_eq_true rfl⟩ ⟨Nat.le_of_ble_eq_true rfl, Nat.le_of_ble_eq_true rfl⟩ rfl (Nat.le_of_ble_eq_true rfl) (as := [.int (nI (ei)), .int (0), .int ((S 7 0 1 21) - (1))]) (rest := [.ref (zA Z (7) (0) (0))]) rfl dX6_commit_12 rfl ?_
  refine j_if_ne_t X (tgt := 22) dX6_commit_15 (by decide) (by rw [show rIn (nI ei) 0 (S 7 0 1 21 - 1) = true from hx]; decide) ?_
  refine j_iload_n X dX6_commit_22 rfl rfl (q := 2) rfl ?_
  refine j_iconst X dX6_commit_23 rfl (v := 0) (by decide) ?_
  refine j_iconst X dX6_commit_24 rfl (v := 3) (by decide) ?_
  refine j_callSi X (c_X6_in l Z S h (1) (0) (3)) lk_RX6_56 mt_X6_in ini_RX6 mc_X6_in md_X6_in ⟨Nat.le_of_ble_eq_true rfl, Nat.le_of_ble_eq_true rfl⟩ ⟨Nat.le_of_ble_eq_true rfl, Nat.le_of_ble_eq_true rfl⟩ rfl (Nat.le_of_ble_eq_true rfl) (as := [.int (1), .int (0), .int (3)]) (rest := [.ref (zA Z (7) (0) (0))]) rfl dX6_commit_25 rfl ?_
  refine j_if_ne_t X (tgt := 35) dX6_commit_28 (by decide) (by decide) ?_
  refine j_iconst X dX6_commit_35 rfl (v := 0) (by decide) ?_
  refine jp_model X 9 (by decide) lk_RX6_41 rfl rfl rfl (vp_nar_int _) rfl rfl dX6_commit_36 rfl ?_
  refine j_name (fun S1 eS1 => ?_)
  refine j_aload_n X dX6_commit_39 rfl rfl (q := 0) rfl ?_
  refine jg_model X 9 (by decide) lk_RX6_41 rfl rfl dX6_commit_40 rfl ?_
  refine j_topeq (y := (0)) (by rw [eS1, setF_at, if_pos ⟨rfl, rfl, rfl, rfl⟩]) ?_
  refine j_if_eq_t X (tgt := 48) dX6_commit_43 (by decide) (by decide) ?_
  refine j_sipush X dX6_commit_48 rfl (v := 406) (by decide) ?_
  refine j_bipush X dX6_commit_51 rfl (v := 19) (by decide) ?_
  refine j_iload_n X dX6_commit_53 rfl rfl (q := 1) rfl ?_
  refine j_imul X dX6_commit_54 rfl ?_
  refine j_topeq (y := nI (19 * ei)) (pk_mul 19 ei) ?_
  refine j_iadd X dX6_commit_55 rfl ?_
  refine j_topeq (y := nI (406 + (19 * ei))) (nI_add 406 (19 * ei)) ?_
  refine j_istore_n X dX6_commit_56 rfl rfl (by decide) (Ls2 := [(3, .int (nI (406 + (19 * ei)))), (0, .ref (zA Z (7) (0) (0))), (1, .int (nI (ei))), (2, .int (1))]) rfl ?_
  refine j_iload_n X dX6_commit_57 rfl rfl (q := 3) rfl ?_
  refine j_iconst X dX6_commit_58 rfl (v := 2) (by decide) ?_
  refine j_icmp_ge_f X dX6_commit_59 rfl (tgt := 73) (by decide) (by decide) ?_
  refine j_aload_n X dX6_commit_62 rfl rfl (q := 1) rfl ?_
  refine jg_model X 0 (by decide) lk_RX6_7 rfl rfl dX6_commit_63 rfl ?_
  refine j_iload_n X dX6_commit_66 rfl rfl (q := 0) rfl ?_
  refine j_iload_n X dX6_commit_67 rfl rfl (q := 3) rfl ?_
  refine j_iadd X dX6_commit_68 rfl ?_
  refine j_topeq (y := nI ((406 + (19 * ei)) + 1)) (nI_add (406 + (19 * ei)) 1) ?_
  refine j_ialdN X (k := (406 + (19 * ei)) + 1) (wm_ref (by decide)) ((fun _ => rfl) _) (by omega) (by decide) dX6_commit_69 rfl ?_
  refine j_goto X (tgt := 105) dX6_commit_70 (by decide) ?_
  exact j_ret (by subst eS1; first | with_reducible rfl | (simp [rComQ]; done) | (simp_all [rComQ]; done) | rfl) (by subst eS1; first | with_reducible rfl | (simp [rComQ]; done) | (simp_all [rComQ]; done) | rfl) rfl (K _ _ dX6_commit_105)
set_option maxRecDepth 100000 in
set_option maxHeartbeats 4000000 in
theorem c_X6_commit_2 (l : Launch) (Z : wZ) (S : St) (h : Hl) (ei : Nat) (hei : ei < 400) (hx : rIsE S (nI ei) = true) : Ci l yX6_commit cX6_commit 4 .int 1 22 Z [.ref (zA Z (7) (0) (0)), .int (nI (ei)), .int (2)] S h (rComQ (rCd S 0) ei 2) (rCd S 0) (h) := by
  refine Ci.of rfl rfl (Nat.le_of_ble_eq_true rfl) (fun p e s mi args below meth c A0 Q X K => ?_)
  refine j_at rfl rfl (Ls3 := [(0, .ref (zA Z (7) (0) (0))), (1, .int (nI (ei))), (2, .int (2))]) rfl rfl ?_
  refine j_aload_n X dX6_commit_0 rfl rfl (q := 0) rfl ?_
  refine j_iload_n X dX6_commit_1 rfl rfl (q := 1) rfl ?_
  refine j_iconst X dX6_commit_2 rfl (v := 0) (by decide) ?_
  refine j_aload_n X dX6_commit_3 rfl rfl (q := 0) rfl ?_
  refine jg_model X 0 (by decide) lk_RX6_7 rfl rfl dX6_commit_4 rfl ?_
  refine j_bipush X dX6_commit_7 rfl (v := 21) (by decide) ?_
  refine j_ialdN X (k := 21) (wm_ref (by decide)) ((fun _ => rfl) _) (by decide) (by decide) dX6_commit_9 rfl ?_
  refine j_iconst X dX6_commit_10 rfl (v := 1) (by decide) ?_
  refine j_isub X dX6_commit_11 rfl ?_
  refine j_callSi X (c_X6_in l Z S h (nI (ei)) (0) ((S 7 0 1 21) - (1))) lk_RX6_56 mt_X6_in ini_RX6 mc_X6_in md_X6_in ⟨Nat.le_of_ble_eq_true rfl, Nat.le_of_ble_eq_true rfl⟩ ⟨Nat.le_of_ble_eq_true rfl, Nat.le_of_ble_eq_true rfl⟩ rfl (Nat.le_of_ble_eq_true rfl) (as := [.int (nI (ei)), .int (0), .int ((S 7 0 1 21) - (1))]) (rest := [.ref (zA Z (7) (0) (0))]) rfl dX6_commit_12 rfl ?_
  refine j_if_ne_t X (tgt := 22) dX6_commit_15 (by decide) (by rw [show rIn (nI ei) 0 (S 7 0 1 21 - 1) = true from hx]; decide) ?_
  refine j_iload_n X dX6_commit_22 rfl rfl (q := 2) rfl ?_
  refine j_iconst X dX6_commit_23 rfl (v := 0) (by decide) ?_
  refine j_iconst X dX6_commit_24 rfl (v := 3) (by decide) ?_
  refine j_callSi X (c_X6_in l Z S h (2) (0) (3)) lk_RX6_56 mt_X6_in ini_RX6 mc_X6_in md_X6_in ⟨Nat.le_of_ble_eq_true rfl, Nat.le_of_ble_eq_true rfl⟩ ⟨Nat.le_of_ble_eq_true rfl, Nat.le_of_ble_eq_true rfl⟩ rfl (Nat.le_of_ble_eq_true rfl) (as := [.int (2), .int (0), .int (3)]) (rest := [.ref (zA Z (7) (0) (0))]) rfl dX6_commit_25 rfl ?_
  refine j_if_ne_t X (tgt := 35) dX6_commit_28 (by decide) (by decide) ?_
  refine j_iconst X dX6_commit_35 rfl (v := 0) (by decide) ?_
  refine jp_model X 9 (by decide) lk_RX6_41 rfl rfl rfl (vp_nar_int _) rfl rfl dX6_commit_36 rfl ?_
  refine j_name (fun S1 eS1 => ?_)
  refine j_aload_n X dX6_commit_39 rfl rfl (q := 0) rfl ?_
  refine jg_model X 9 (by decide) lk_RX6_41 rfl rfl dX6_commit_40 rfl ?_
  refine j_topeq (y := (0)) (by rw [eS1, setF_at, if_pos ⟨rfl, rfl, rfl, rfl⟩]) ?_
  refine j_if_eq_t X (tgt := 48) dX6_commit_43 (by decide) (by decide) ?_
  refine j_sipush X dX6_commit_48 rfl (v := 406) (by decide) ?_
  refine j_bipush X dX6_commit_51 rfl (v := 19) (by decide) ?_
  refine j_iload_n X dX6_commit_53 rfl rfl (q := 1) rfl ?_
  refine j_imul X dX6_commit_54 rfl ?_
  refine j_topeq (y := nI (19 * ei)) (pk_mul 19 ei) ?_
  refine j_iadd X dX6_commit_55 rfl ?_
  refine j_topeq (y := nI (406 + (19 * ei))) (nI_add 406 (19 * ei)) ?_
  refine j_istore_n X dX6_commit_56 rfl rfl (by decide) (Ls2 := [(3, .int (nI (406 + (19 * ei)))), (0, .ref (zA Z (7) (0) (0))), (1, .int (nI (ei))), (2, .int (2))]) rfl ?_
  refine j_iload_n X dX6_commit_57 rfl rfl (q := 3) rfl ?_
  refine j_iconst X dX6_commit_58 rfl (v := 2) (by decide) ?_
  refine j_icmp_ge_t X (tgt := 73) dX6_commit_59 (by decide) (by decide) ?_
  refine j_iload_n X dX6_commit_73 rfl rfl (q := 3) rfl ?_
  refine j_iconst X dX6_commit_74 rfl (v := 2) (by decide) ?_
  refine j_icmp_ne_f X dX6_commit_75 rfl (tgt := 93) (by decide) (by decide) ?_
  refine j_aload_n X dX6_commit_78 rfl rfl (q := 1) rfl ?_
  refine jg_model X 0 (by decide) lk_RX6_7 rfl rfl dX6_commit_79 rfl ?_
  refine j_iload_n X dX6_commit_82 rfl rfl (q := 0) rfl ?_
  refine j_iconst X dX6_commit_83 rfl (v := 2) (by decide) ?_
  refine j_iadd X dX6_commit_84 rfl ?_
  refine j_topeq (y := nI ((406 + (19 * ei)) + 2)) (nI_add (406 + (19 * ei)) 2) ?_
  refine j_ialdN X (k := (406 + (19 * ei)) + 2) (wm_ref (by decide)) ((fun _ => rfl) _) (by omega) (by decide) dX6_commit_85 rfl ?_
  refine j_sipush X dX6_commit_86 rfl (v := 256) (by decide) ?_
  refine j_irem X dX6_commit_89 rfl (by decide) ?_
  refine j_goto X (tgt := 105) dX6_commit_90 (by decide) ?_
  exact j_ret (by subst eS1; first | with_reducible rfl | (simp [rComQ]; done) | (simp_all [rComQ]; done) | rfl) (by subst eS1; first | with_reducible rfl | (simp [rComQ]; done) | (simp_all [rComQ]; done) | rfl) rfl (K _ _ dX6_commit_105)
set_option maxRecDepth 100000 in
set_option maxHeartbeats 4000000 in
theorem c_X6_commit_3 (l : Launch) (Z : wZ) (S : St) (h : Hl) (ei : Nat) (hei : ei < 400) (hx : rIsE S (nI ei) = true) : Ci l yX6_commit cX6_commit 4 .int 1 22 Z [.ref (zA Z (7) (0) (0)), .int (nI (ei)), .int (3)] S h (rComQ (rCd S 0) ei 3) (rCd S 0) (h) := by
  refine Ci.of rfl rfl (Nat.le_of_ble_eq_true rfl) (fun p e s mi args below meth c A0 Q X K => ?_)
  refine j_at rfl rfl (Ls3 := [(0, .ref (zA Z (7) (0) (0))), (1, .int (nI (ei))), (2, .int (3))]) rfl rfl ?_
  refine j_aload_n X dX6_commit_0 rfl rfl (q := 0) rfl ?_
  refine j_iload_n X dX6_commit_1 rfl rfl (q := 1) rfl ?_
  refine j_iconst X dX6_commit_2 rfl (v := 0) (by decide) ?_
  refine j_aload_n X dX6_commit_3 rfl rfl (q := 0) rfl ?_
  refine jg_model X 0 (by decide) lk_RX6_7 rfl rfl dX6_commit_4 rfl ?_
  refine j_bipush X dX6_commit_7 rfl (v := 21) (by decide) ?_
  refine j_ialdN X (k := 21) (wm_ref (by decide)) ((fun _ => rfl) _) (by decide) (by decide) dX6_commit_9 rfl ?_
  refine j_iconst X dX6_commit_10 rfl (v := 1) (by decide) ?_
  refine j_isub X dX6_commit_11 rfl ?_
  refine j_callSi X (c_X6_in l Z S h (nI (ei)) (0) ((S 7 0 1 21) - (1))) lk_RX6_56 mt_X6_in ini_RX6 mc_X6_in md_X6_in ⟨Nat.le_of_ble_eq_true rfl, Nat.le_of_ble_eq_true rfl⟩ ⟨Nat.le_of_ble_eq_true rfl, Nat.le_of_ble_eq_true rfl⟩ rfl (Nat.le_of_ble_eq_true rfl) (as := [.int (nI (ei)), .int (0), .int ((S 7 0 1 21) - (1))]) (rest := [.ref (zA Z (7) (0) (0))]) rfl dX6_commit_12 rfl ?_
  refine j_if_ne_t X (tgt := 22) dX6_commit_15 (by decide) (by rw [show rIn (nI ei) 0 (S 7 0 1 21 - 1) = true from hx]; decide) ?_
  refine j_iload_n X dX6_commit_22 rfl rfl (q := 2) rfl ?_
  refine j_iconst X dX6_commit_23 rfl (v := 0) (by decide) ?_
  refine j_iconst X dX6_commit_24 rfl (v := 3) (by decide) ?_
  refine j_callSi X (c_X6_in l Z S h (3) (0) (3)) lk_RX6_56 mt_X6_in ini_RX6 mc_X6_in md_X6_in ⟨Nat.le_of_ble_eq_true rfl, Nat.le_of_ble_eq_true rfl⟩ ⟨Nat.le_of_ble_eq_true rfl, Nat.le_of_ble_eq_true rfl⟩ rfl (Nat.le_of_ble_eq_true rfl) (as := [.int (3), .int (0), .int (3)]) (rest := [.ref (zA Z (7) (0) (0))]) rfl dX6_commit_25 rfl ?_
  refine j_if_ne_t X (tgt := 35) dX6_commit_28 (by decide) (by decide) ?_
  refine j_iconst X dX6_commit_35 rfl (v := 0) (by decide) ?_
  refine jp_model X 9 (by decide) lk_RX6_41 rfl rfl rfl (vp_nar_int _) rfl rfl dX6_commit_36 rfl ?_
  refine j_name (fun S1 eS1 => ?_)
  refine j_aload_n X dX6_commit_39 rfl rfl (q := 0) rfl ?_
  refine jg_model X 9 (by decide) lk_RX6_41 rfl rfl dX6_commit_40 rfl ?_
  refine j_topeq (y := (0)) (by rw [eS1, setF_at, if_pos ⟨rfl, rfl, rfl, rfl⟩]) ?_
  refine j_if_eq_t X (tgt := 48) dX6_commit_43 (by decide) (by decide) ?_
  refine j_sipush X dX6_commit_48 rfl (v := 406) (by decide) ?_
  refine j_bipush X dX6_commit_51 rfl (v := 19) (by decide) ?_
  refine j_iload_n X dX6_commit_53 rfl rfl (q := 1) rfl ?_
  refine j_imul X dX6_commit_54 rfl ?_
  refine j_topeq (y := nI (19 * ei)) (pk_mul 19 ei) ?_
  refine j_iadd X dX6_commit_55 rfl ?_
  refine j_topeq (y := nI (406 + (19 * ei))) (nI_add 406 (19 * ei)) ?_
  refine j_istore_n X dX6_commit_56 rfl rfl (by decide) (Ls2 := [(3, .int (nI (406 + (19 * ei)))), (0, .ref (zA Z (7) (0) (0))), (1, .int (nI (ei))), (2, .int (3))]) rfl ?_
  refine j_iload_n X dX6_commit_57 rfl rfl (q := 3) rfl ?_
  refine j_iconst X dX6_commit_58 rfl (v := 2) (by decide) ?_
  refine j_icmp_ge_t X (tgt := 73) dX6_commit_59 (by decide) (by decide) ?_
  refine j_iload_n X dX6_commit_73 rfl rfl (q := 3) rfl ?_
  refine j_iconst X dX6_commit_74 rfl (v := 2) (by decide) ?_
  refine j_icmp_ne_t X (tgt := 93) dX6_commit_75 (by decide) (by decide) ?_
  refine j_aload_n X dX6_commit_93 rfl rfl (q := 1) rfl ?_
  refine jg_model X 0 (by decide) lk_RX6_7 rfl rfl dX6_commit_94 rfl ?_
  refine j_iload_n X dX6_commit_97 rfl rfl (q := 0) rfl ?_
  refine j_iconst X dX6_commit_98 rfl (v := 2) (by decide) ?_
  refine j_iadd X dX6_commit_99 rfl ?_
  refine j_topeq (y := nI ((406 + (19 * ei)) + 2)) (nI_add (406 + (19 * ei)) 2) ?_
  refine j_ialdN X (k := (406 + (19 * ei)) + 2) (wm_ref (by decide)) ((fun _ => rfl) _) (by omega) (by decide) dX6_commit_100 rfl ?_
  refine j_sipush X dX6_commit_101 rfl (v := 256) (by decide) ?_
  refine j_idiv X dX6_commit_104 rfl (by decide) ?_
  exact j_ret (by subst eS1; first | with_reducible rfl | (simp [rComQ]; done) | (simp_all [rComQ]; done) | rfl) (by subst eS1; first | with_reducible rfl | (simp [rComQ]; done) | (simp_all [rComQ]; done) | rfl) rfl (K _ _ dX6_commit_105)
set_option maxRecDepth 100000 in
set_option maxHeartbeats 4000000 in
theorem c_X6_commitValue_no (l : Launch) (Z : wZ) (S : St) (h : Hl) (x : Int32) (y : Int32) (w : Bool) (hx : rIsE S x = false) : Ci l yX6_commitValue cX6_commitValue 4 .int 1 22 Z [.ref (zA Z (7) (0) (0)), .int (x), .int (y), .int (bI (w))] S h (0) (rCd S 1) (h) := by
  refine Ci.of rfl rfl (Nat.le_of_ble_eq_true rfl) (fun p e s mi args below meth c A0 Q X K => ?_)
  refine j_at rfl rfl (Ls3 := [(0, .ref (zA Z (7) (0) (0))), (1, .int (x)), (2, .int (y)), (3, .int (bI (w)))]) rfl rfl ?_
  refine j_aload_n X dX6_commitValue_0 rfl rfl (q := 0) rfl ?_
  refine j_iload_n X dX6_commitValue_1 rfl rfl (q := 1) rfl ?_
  refine j_iconst X dX6_commitValue_2 rfl (v := 0) (by decide) ?_
  refine j_aload_n X dX6_commitValue_3 rfl rfl (q := 0) rfl ?_
  refine jg_model X 0 (by decide) lk_RX6_7 rfl rfl dX6_commitValue_4 rfl ?_
  refine j_bipush X dX6_commitValue_7 rfl (v := 21) (by decide) ?_
  refine j_ialdN X (k := 21) (wm_ref (by decide)) ((fun _ => rfl) _) (by decide) (by decide) dX6_commitValue_9 rfl ?_
  refine j_iconst X dX6_commitValue_10 rfl (v := 1) (by decide) ?_
  refine j_isub X dX6_commitValue_11 rfl ?_
  refine j_callSi X (c_X6_in l Z S h (x) (0) ((S 7 0 1 21) - (1))) lk_RX6_56 mt_X6_in ini_RX6 mc_X6_in md_X6_in ⟨Nat.le_of_ble_eq_true rfl, Nat.le_of_ble_eq_true rfl⟩ ⟨Nat.le_of_ble_eq_true rfl, Nat.le_of_ble_eq_true rfl⟩ rfl (Nat.le_of_ble_eq_true rfl) (as := [.int (x), .int (0), .int ((S 7 0 1 21) - (1))]) (rest := [.ref (zA Z (7) (0) (0))]) rfl dX6_commitValue_12 rfl ?_
  refine j_if_eq_t X (tgt := 29) dX6_commitValue_15 (by decide) (by rw [show rIn x 0 (S 7 0 1 21 - 1) = false from hx]; decide) ?_
  refine j_iconst X dX6_commitValue_29 rfl (v := 1) (by decide) ?_
  refine jp_model X 9 (by decide) lk_RX6_41 rfl rfl rfl (vp_nar_int _) rfl rfl dX6_commitValue_30 rfl ?_
  refine j_name (fun S1 eS1 => ?_)
  refine j_aload_n X dX6_commitValue_33 rfl rfl (q := 0) rfl ?_
  refine jg_model X 9 (by decide) lk_RX6_41 rfl rfl dX6_commitValue_34 rfl ?_
  refine j_topeq (y := (1)) (by rw [eS1, setF_at, if_pos ⟨rfl, rfl, rfl, rfl⟩]) ?_
  refine j_if_eq_f X dX6_commitValue_37 rfl (tgt := 44) (by decide) (by decide) ?_
  refine j_iconst X dX6_commitValue_40 rfl (v := 0) (by decide) ?_
  refine j_goto X (tgt := 70) dX6_commitValue_41 (by decide) ?_
  exact j_ret (by subst eS1; first | with_reducible rfl | (simp []; done) | (simp_all []; done) | rfl) (by subst eS1; first | with_reducible rfl | (simp []; done) | (simp_all []; done) | rfl) rfl (K _ _ dX6_commitValue_70)
set_option maxRecDepth 100000 in
set_option maxHeartbeats 4000000 in
theorem c_X6_commitValue_nl (l : Launch) (Z : wZ) (S : St) (h : Hl) (ei : Nat) (hei : ei < 400) (hx : rIsE S (nI ei) = true) (y : Int32) (w : Bool) (hl : rIn y 0 7 = false) : Ci l yX6_commitValue cX6_commitValue 4 .int 2 42 Z [.ref (zA Z (7) (0) (0)), .int (nI (ei)), .int (y), .int (bI (w))] S h (0) (rCd S 1) (h) := by
  refine Ci.of rfl rfl (Nat.le_of_ble_eq_true rfl) (fun p e s mi args below meth c A0 Q X K => ?_)
  refine j_at rfl rfl (Ls3 := [(0, .ref (zA Z (7) (0) (0))), (1, .int (nI (ei))), (2, .int (y)), (3, .int (bI (w)))]) rfl rfl ?_
  refine j_aload_n X dX6_commitValue_0 rfl rfl (q := 0) rfl ?_
  refine j_iload_n X dX6_commitValue_1 rfl rfl (q := 1) rfl ?_
  refine j_iconst X dX6_commitValue_2 rfl (v := 0) (by decide) ?_
  refine j_aload_n X dX6_commitValue_3 rfl rfl (q := 0) rfl ?_
  refine jg_model X 0 (by decide) lk_RX6_7 rfl rfl dX6_commitValue_4 rfl ?_
  refine j_bipush X dX6_commitValue_7 rfl (v := 21) (by decide) ?_
  refine j_ialdN X (k := 21) (wm_ref (by decide)) ((fun _ => rfl) _) (by decide) (by decide) dX6_commitValue_9 rfl ?_
  refine j_iconst X dX6_commitValue_10 rfl (v := 1) (by decide) ?_
  refine j_isub X dX6_commitValue_11 rfl ?_
  refine j_callSi X (c_X6_in l Z S h (nI (ei)) (0) ((S 7 0 1 21) - (1))) lk_RX6_56 mt_X6_in ini_RX6 mc_X6_in md_X6_in ⟨Nat.le_of_ble_eq_true rfl, Nat.le_of_ble_eq_true rfl⟩ ⟨Nat.le_of_ble_eq_true rfl, Nat.le_of_ble_eq_true rfl⟩ rfl (Nat.le_of_ble_eq_true rfl) (as := [.int (nI (ei)), .int (0), .int ((S 7 0 1 21) - (1))]) (rest := [.ref (zA Z (7) (0) (0))]) rfl dX6_commitValue_12 rfl ?_
  refine j_if_eq_f X dX6_commitValue_15 rfl (tgt := 29) (by decide) (by rw [show rIn (nI ei) 0 (S 7 0 1 21 - 1) = true from hx]; decide) ?_
  refine j_iload_n X dX6_commitValue_18 rfl rfl (q := 2) rfl ?_
  refine j_callSi X (c_X6_isLine l Z S h (y)) lk_RX6_180 mt_X6_isLine ini_RX6 mc_X6_isLine md_X6_isLine ⟨Nat.le_of_ble_eq_true rfl, Nat.le_of_ble_eq_true rfl⟩ ⟨Nat.le_of_ble_eq_true rfl, Nat.le_of_ble_eq_true rfl⟩ rfl (Nat.le_of_ble_eq_true rfl) (as := [.int (y)]) (rest := [.ref (zA Z (7) (0) (0))]) rfl dX6_commitValue_19 rfl ?_
  refine j_if_eq_t X (tgt := 29) dX6_commitValue_22 (by decide) (by rw [hl]; decide) ?_
  refine j_iconst X dX6_commitValue_29 rfl (v := 1) (by decide) ?_
  refine jp_model X 9 (by decide) lk_RX6_41 rfl rfl rfl (vp_nar_int _) rfl rfl dX6_commitValue_30 rfl ?_
  refine j_name (fun S1 eS1 => ?_)
  refine j_aload_n X dX6_commitValue_33 rfl rfl (q := 0) rfl ?_
  refine jg_model X 9 (by decide) lk_RX6_41 rfl rfl dX6_commitValue_34 rfl ?_
  refine j_topeq (y := (1)) (by rw [eS1, setF_at, if_pos ⟨rfl, rfl, rfl, rfl⟩]) ?_
  refine j_if_eq_f X dX6_commitValue_37 rfl (tgt := 44) (by decide) (by decide) ?_
  refine j_iconst X dX6_commitValue_40 rfl (v := 0) (by decide) ?_
  refine j_goto X (tgt := 70) dX6_commitValue_41 (by decide) ?_
  exact j_ret (by subst eS1; first | with_reducible rfl | (simp []; done) | (simp_all []; done) | rfl) (by subst eS1; first | with_reducible rfl | (simp []; done) | (simp_all []; done) | rfl) rfl (K _ _ dX6_commitValue_70)
set_option maxRecDepth 100000 in
set_option maxHeartbeats 4000000 in
theorem c_X6_commitValue (l : Launch) (Z : wZ) (S : St) (h : Hl) (ei : Nat) (hei : ei < 400) (hx : rIsE S (nI ei) = true) (j : Nat) (hj : j < 8) (hl : rIn (nI j) 0 7 = true) (w : Bool) : Ci l yX6_commitValue cX6_commitValue 4 .int 2 42 Z [.ref (zA Z (7) (0) (0)), .int (nI (ei)), .int (nI (j)), .int (bI (w))] S h (rComV (rCd S 0) ei j w) (rCd S 0) (h) := by
  refine Ci.of rfl rfl (Nat.le_of_ble_eq_true rfl) (fun p e s mi args below meth c A0 Q X K => ?_)
  refine j_at rfl rfl (Ls3 := [(0, .ref (zA Z (7) (0) (0))), (1, .int (nI (ei))), (2, .int (nI (j))), (3, .int (bI (w)))]) rfl rfl ?_
  refine j_aload_n X dX6_commitValue_0 rfl rfl (q := 0) rfl ?_
  refine j_iload_n X dX6_commitValue_1 rfl rfl (q := 1) rfl ?_
  refine j_iconst X dX6_commitValue_2 rfl (v := 0) (by decide) ?_
  refine j_aload_n X dX6_commitValue_3 rfl rfl (q := 0) rfl ?_
  refine jg_model X 0 (by decide) lk_RX6_7 rfl rfl dX6_commitValue_4 rfl ?_
  refine j_bipush X dX6_commitValue_7 rfl (v := 21) (by decide) ?_
  refine j_ialdN X (k := 21) (wm_ref (by decide)) ((fun _ => rfl) _) (by decide) (by decide) dX6_commitValue_9 rfl ?_
  refine j_iconst X dX6_commitValue_10 rfl (v := 1) (by decide) ?_
  refine j_isub X dX6_commitValue_11 rfl ?_
  refine j_callSi X (c_X6_in l Z S h (nI (ei)) (0) ((S 7 0 1 21) - (1))) lk_RX6_56 mt_X6_in ini_RX6 mc_X6_in md_X6_in ⟨Nat.le_of_ble_eq_true rfl, Nat.le_of_ble_eq_true rfl⟩ ⟨Nat.le_of_ble_eq_true rfl, Nat.le_of_ble_eq_true rfl⟩ rfl (Nat.le_of_ble_eq_true rfl) (as := [.int (nI (ei)), .int (0), .int ((S 7 0 1 21) - (1))]) (rest := [.ref (zA Z (7) (0) (0))]) rfl dX6_commitValue_12 rfl ?_
  refine j_if_eq_f X dX6_commitValue_15 rfl (tgt := 29) (by decide) (by rw [show rIn (nI ei) 0 (S 7 0 1 21 - 1) = true from hx]; decide) ?_
  refine j_iload_n X dX6_commitValue_18 rfl rfl (q := 2) rfl ?_
  refine j_callSi X (c_X6_isLine l Z S h (nI (j))) lk_RX6_180 mt_X6_isLine ini_RX6 mc_X6_isLine md_X6_isLine ⟨Nat.le_of_ble_eq_true rfl, Nat.le_of_ble_eq_true rfl⟩ ⟨Nat.le_of_ble_eq_true rfl, Nat.le_of_ble_eq_true rfl⟩ rfl (Nat.le_of_ble_eq_true rfl) (as := [.int (nI (j))]) (rest := [.ref (zA Z (7) (0) (0))]) rfl dX6_commitValue_19 rfl ?_
  refine j_if_eq_f X dX6_commitValue_22 rfl (tgt := 29) (by decide) (by rw [show rIn (nI j) 0 7 = true from hl]; decide) ?_
  refine j_iconst X dX6_commitValue_25 rfl (v := 0) (by decide) ?_
  refine j_goto X (tgt := 30) dX6_commitValue_26 (by decide) ?_
  refine jp_model X 9 (by decide) lk_RX6_41 rfl rfl rfl (vp_nar_int _) rfl rfl dX6_commitValue_30 rfl ?_
  refine j_name (fun S1 eS1 => ?_)
  refine j_aload_n X dX6_commitValue_33 rfl rfl (q := 0) rfl ?_
  refine jg_model X 9 (by decide) lk_RX6_41 rfl rfl dX6_commitValue_34 rfl ?_
  refine j_topeq (y := (0)) (by rw [eS1, setF_at, if_pos ⟨rfl, rfl, rfl, rfl⟩]) ?_
  refine j_if_eq_t X (tgt := 44) dX6_commitValue_37 (by decide) (by decide) ?_
  refine j_aload_n X dX6_commitValue_44 rfl rfl (q := 0) rfl ?_
  refine jg_model X 0 (by decide) lk_RX6_7 rfl rfl dX6_commitValue_45 rfl ?_
  refine j_sipush X dX6_commitValue_48 rfl (v := 406) (by decide) ?_
  refine j_bipush X dX6_commitValue_51 rfl (v := 19) (by decide) ?_
  refine j_iload_n X dX6_commitValue_53 rfl rfl (q := 1) rfl ?_
  refine j_imul X dX6_commitValue_54 rfl ?_
  refine j_topeq (y := nI (19 * ei)) (pk_mul 19 ei) ?_
  refine j_iadd X dX6_commitValue_55 rfl ?_
  refine j_topeq (y := nI (406 + (19 * ei))) (nI_add 406 (19 * ei)) ?_
  refine j_iload_n X dX6_commitValue_56 rfl rfl (q := 3) rfl ?_
  refine j_ifb_eq X dX6_commitValue_57 rfl (tgt := 65) (by decide) (fun c_57 => ?_) (fun c_57 => ?_)
  · refine j_iconst X dX6_commitValue_65 rfl (v := 3) (by decide) ?_
    refine j_iadd X dX6_commitValue_66 rfl ?_
    refine j_topeq (y := nI ((406 + (19 * ei)) + 3)) (nI_add (406 + (19 * ei)) 3) ?_
    refine j_iload_n X dX6_commitValue_67 rfl rfl (q := 2) rfl ?_
    refine j_iadd X dX6_commitValue_68 rfl ?_
    refine j_topeq (y := nI (((406 + (19 * ei)) + 3) + j)) (nI_add ((406 + (19 * ei)) + 3) j) ?_
    refine j_ialdN X (k := ((406 + (19 * ei)) + 3) + j) (wm_ref (by decide)) ((fun _ => rfl) _) (by omega) (by decide) dX6_commitValue_69 rfl ?_
    exact j_ret (by subst eS1; first | with_reducible rfl | (simp [rComV, c_57]; done) | (simp_all [rComV]; done) | rfl) (by subst eS1; first | with_reducible rfl | (simp [rComV, c_57]; done) | (simp_all [rComV]; done) | rfl) rfl (K _ _ dX6_commitValue_70)
  · refine j_bipush X dX6_commitValue_60 rfl (v := 11) (by decide) ?_
    refine j_goto X (tgt := 66) dX6_commitValue_62 (by decide) ?_
    refine j_iadd X dX6_commitValue_66 rfl ?_
    refine j_topeq (y := nI ((406 + (19 * ei)) + 11)) (nI_add (406 + (19 * ei)) 11) ?_
    refine j_iload_n X dX6_commitValue_67 rfl rfl (q := 2) rfl ?_
    refine j_iadd X dX6_commitValue_68 rfl ?_
    refine j_topeq (y := nI (((406 + (19 * ei)) + 11) + j)) (nI_add ((406 + (19 * ei)) + 11) j) ?_
    refine j_ialdN X (k := ((406 + (19 * ei)) + 11) + j) (wm_ref (by decide)) ((fun _ => rfl) _) (by omega) (by decide) dX6_commitValue_69 rfl ?_
    exact j_ret (by subst eS1; first | with_reducible rfl | (simp [rComV, c_57]; done) | (simp_all [rComV]; done) | rfl) (by subst eS1; first | with_reducible rfl | (simp [rComV, c_57]; done) | (simp_all [rComV]; done) | rfl) rfl (K _ _ dX6_commitValue_70)

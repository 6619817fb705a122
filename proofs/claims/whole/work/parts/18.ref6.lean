abbrev rCd (S : St) (k : Int32) : St := setF S 7 0 0 9 k
def rBegin (S : St) (x y z : Int32) : Int32 × St := if rIn x 2 4 = true then (if rIn y 0 2 = true then (if rIn z 1 8 = true then (rKeep (rCd S 0) 7 0 1 21, rClear (rKeep (rCd S 0)) x y z) else (0, rCd S 1)) else (0, rCd S 1)) else (0, rCd S 1)
def rSetPol (S : St) (x : Int32) : Int32 × St := if rIn x 0 2 = true then (rKeep (rCd S 0) 7 0 1 1, setF (rKeep (rCd S 0)) 7 0 1 1 x) else (0, rCd S 1)
def rSeed (S : St) (x : Int32) : Int32 × St := if rIn x 0 999999 = true then (rKeep (rCd S 0) 7 0 1 3, setF (rKeep (rCd S 0)) 7 0 1 3 x) else (0, rCd S 1)
def rAppS (S : St) (x : Int32) : St := setF (setF (rCd S 0) 7 0 6 (rTL S) x) 7 0 0 7 (nI (rTL S + 1))
def rAppend (S : St) (x : Int32) : Int32 × St := if rIn x 0 127 = true then (if rTL S = 120 then (0, rCd S 2) else (rAppS S x 7 0 0 7, rAppS S x)) else (0, rCd S 1)
def rClearT (S : St) : Int32 × St := (rCd S 0 7 0 0 7, setF (rCd S 0) 7 0 0 7 0)
abbrev rIsC (S : St) (x : Int32) : Bool := rIn x 0 (S 7 0 1 0 - 1)
def rState (S : St) (a j w : Nat) : Int32 × St := (rOf (rCd S 0) a (w + j), rCd S 0)
def rMemF (S : St) (j : Nat) (w : Bool) (k : Nat) (v : Int32) : Int32 := if rOf S k (20 + j) = 2 then (if rHas (rOf S k 8) (nI j) = true then v else if w = true then rOf S k (28 + j) else v) else v
def rMem (S : St) (j : Nat) (w : Bool) : Int32 := lp (rMemF S j w) (rCC S) 0 (S 7 0 1 (5 + j))
def rCoreO (S : St) (a k : Nat) : Int32 := if k = 3 then (if rOf S a 3 = 1 then rOf S a 4 else -1) else if k = 4 then rOf S a 9 else if k = 5 then rOf S a 10 else rOf S a k
def rValO (S : St) (k : Nat) : Int32 := if k < 3 then S 7 0 1 k else if k = 3 then rFinC S else S 7 0 1 4
def rTrF (k : Nat) (S : St) : St := setF S 7 0 9 k (S 7 0 1 k)
def rBegT (S : St) (x : Int32) : St := setF (setF (lp rTrF 406 0 S) 7 0 0 8 1) 7 0 1 1 x
def rEnF (k : Nat) (S : St) : St := setF S 7 0 1 k (S 7 0 9 k)
def rEndT (S : St) : St := lp rEnF 406 0 (setF S 7 0 0 8 0)
def rUndo (S : St) : Int32 × St := if S 7 0 0 5 = 0 then (0, rCd S 1) else
  let S1 := rCp (rCp (rCp (rCp (rCd S 0) 2 1) 3 2) 4 3) 5 4
  (setF S1 7 0 0 5 (S1 7 0 0 5 - 1) 7 0 0 5, setF S1 7 0 0 5 (S1 7 0 0 5 - 1))
def rAgain (S : St) (a : Nat) : Int32 × St := if rFin S a = true then (if rOf S a 3 = 1 then (0, rCd S 2) else (rOf (rPut (rKeep (rCd S 0)) a 1 0) a 2, rPut (rKeep (rCd S 0)) a 1 0)) else (0, rCd S 2)
def rCp_f : Nat → Nat → Prop := fun _ _ => True
theorem rCp_ne {S : St} {i1 i2 i : Nat} (hi : i ≠ i2) : rCp S i1 i2 7 0 i = S 7 0 i := by
  refine lp_ne (rCpF i1 i2) (fun T => T 7 0 i) (fun k T => ?_) 8006 0 S
  funext q
  rw [rCpF, setF_at, if_neg (by omega)]
theorem rKeep_f {S : St} {k : Nat} (hk : k ≠ 5) : rKeep S 7 0 0 k = S 7 0 0 k := by
  simp only [rKeep]
  rw [setF_at, if_neg (by omega), rCp_ne (by decide), rCp_ne (by decide), rCp_ne (by decide), rCp_ne (by decide)]
theorem rKeep_m {S : St} : rKeep S 7 0 1 = S 7 0 1 := by
  funext k
  simp only [rKeep]
  rw [setF_at, if_neg (by omega), rCp_ne (by decide), rCp_ne (by decide), rCp_ne (by decide), rCp_ne (by decide)]
theorem rCd_m {S : St} {v : Int32} {i : Nat} (hi : i ≠ 0) : rCd S v 7 0 i = S 7 0 i := by
  funext k
  show setF S 7 0 0 9 v 7 0 i k = _
  rw [setF_at, if_neg (by omega)]
set_option maxRecDepth 100000 in
set_option maxHeartbeats 4000000 in
theorem c_X6_begin (l : Launch) (Z : wZ) (S : St) (h : Hl) (x y z : Int32) : Ci l yX6_begin cX6_begin 5 .int 3 69 Z [.ref (zA Z (7) (0) (0)), .int (x), .int (y), .int (z)] S h ((rBegin S x y z).1) ((rBegin S x y z).2) (h) := by
  refine Ci.of rfl rfl (Nat.le_of_ble_eq_true rfl) (fun p e s mi args below meth c A0 Q X K => ?_)
  refine j_at rfl rfl (Ls3 := [(0, .ref (zA Z (7) (0) (0))), (1, .int (x)), (2, .int (y)), (3, .int (z))]) rfl rfl ?_
  refine j_aload_n X dX6_begin_0 rfl rfl (q := 0) rfl ?_
  refine j_iload_n X dX6_begin_1 rfl rfl (q := 1) rfl ?_
  refine j_iconst X dX6_begin_2 rfl (v := 2) (by decide) ?_
  refine j_iconst X dX6_begin_3 rfl (v := 4) (by decide) ?_
  refine j_callSi X (c_X6_in l Z S h (x) (2) (4)) lk_RX6_56 mt_X6_in ini_RX6 mc_X6_in md_X6_in ⟨Nat.le_of_ble_eq_true rfl, Nat.le_of_ble_eq_true rfl⟩ ⟨Nat.le_of_ble_eq_true rfl, Nat.le_of_ble_eq_true rfl⟩ rfl (Nat.le_of_ble_eq_true rfl) (as := [.int (x), .int (2), .int (4)]) (rest := [.ref (zA Z (7) (0) (0))]) rfl dX6_begin_4 rfl ?_
  refine j_ifb_eq X dX6_begin_7 rfl (tgt := 33) (by decide) (fun c_7 => ?_) (fun c_7 => ?_)
  · refine j_iconst X dX6_begin_33 rfl (v := 1) (by decide) ?_
    refine jp_model X 9 (by decide) lk_RX6_41 rfl rfl rfl (vp_nar_int _) rfl rfl dX6_begin_34 rfl ?_
    refine j_name (fun S1 eS1 => ?_)
    refine j_aload_n X dX6_begin_37 rfl rfl (q := 0) rfl ?_
    refine jg_model X 9 (by decide) lk_RX6_41 rfl rfl dX6_begin_38 rfl ?_
    refine j_topeq (y := (1)) (by rw [eS1, setF_at, if_pos ⟨rfl, rfl, rfl, rfl⟩]) ?_
    refine j_if_eq_f X dX6_begin_41 rfl (tgt := 46) (by decide) (by decide) ?_
    refine j_iconst X dX6_begin_44 rfl (v := 0) (by decide) ?_
    exact j_ret (by subst eS1; first | with_reducible rfl | (simp [rBegin, c_7]; done) | (simp_all [rBegin]; done) | rfl) (by subst eS1; first | with_reducible rfl | (simp [rBegin, c_7]; done) | (simp_all [rBegin]; done) | rfl) rfl (K _ _ dX6_begin_45)
  · refine j_iload_n X dX6_begin_10 rfl rfl (q := 2) rfl ?_
    refine j_iconst X dX6_begin_11 rfl (v := 0) (by decide) ?_
    refine j_iconst X dX6_begin_12 rfl (v := 2) (by decide) ?_
    refine j_callSi X (c_X6_in l Z S h (y) (0) (2)) lk_RX6_56 mt_X6_in ini_RX6 mc_X6_in md_X6_in ⟨Nat.le_of_ble_eq_true rfl, Nat.le_of_ble_eq_true rfl⟩ ⟨Nat.le_of_ble_eq_true rfl, Nat.le_of_ble_eq_true rfl⟩ rfl (Nat.le_of_ble_eq_true rfl) (as := [.int (y), .int (0), .int (2)]) (rest := [.ref (zA Z (7) (0) (0))]) rfl dX6_begin_13 rfl ?_
    refine j_ifb_eq X dX6_begin_16 rfl (tgt := 33) (by decide) (fun c_16 => ?_) (fun c_16 => ?_)
    · refine j_iconst X dX6_begin_33 rfl (v := 1) (by decide) ?_
      refine jp_model X 9 (by decide) lk_RX6_41 rfl rfl rfl (vp_nar_int _) rfl rfl dX6_begin_34 rfl ?_
      refine j_name (fun S2 eS2 => ?_)
      refine j_aload_n X dX6_begin_37 rfl rfl (q := 0) rfl ?_
      refine jg_model X 9 (by decide) lk_RX6_41 rfl rfl dX6_begin_38 rfl ?_
      refine j_topeq (y := (1)) (by rw [eS2, setF_at, if_pos ⟨rfl, rfl, rfl, rfl⟩]) ?_
      refine j_if_eq_f X dX6_begin_41 rfl (tgt := 46) (by decide) (by decide) ?_
      refine j_iconst X dX6_begin_44 rfl (v := 0) (by decide) ?_
      exact j_ret (by subst eS2; first | with_reducible rfl | (simp [rBegin, c_7, c_16]; done) | (simp_all [rBegin]; done) | rfl) (by subst eS2; first | with_reducible rfl | (simp [rBegin, c_7, c_16]; done) | (simp_all [rBegin]; done) | rfl) rfl (K _ _ dX6_begin_45)
    · refine j_iload_n X dX6_begin_19 rfl rfl (q := 3) rfl ?_
      refine j_iconst X dX6_begin_20 rfl (v := 1) (by decide) ?_
      refine j_bipush X dX6_begin_21 rfl (v := 8) (by decide) ?_
      refine j_callSi X (c_X6_in l Z S h (z) (1) (8)) lk_RX6_56 mt_X6_in ini_RX6 mc_X6_in md_X6_in ⟨Nat.le_of_ble_eq_true rfl, Nat.le_of_ble_eq_true rfl⟩ ⟨Nat.le_of_ble_eq_true rfl, Nat.le_of_ble_eq_true rfl⟩ rfl (Nat.le_of_ble_eq_true rfl) (as := [.int (z), .int (1), .int (8)]) (rest := [.ref (zA Z (7) (0) (0))]) rfl dX6_begin_23 rfl ?_
      refine j_ifb_eq X dX6_begin_26 rfl (tgt := 33) (by decide) (fun c_26 => ?_) (fun c_26 => ?_)
      · refine j_iconst X dX6_begin_33 rfl (v := 1) (by decide) ?_
        refine jp_model X 9 (by decide) lk_RX6_41 rfl rfl rfl (vp_nar_int _) rfl rfl dX6_begin_34 rfl ?_
        refine j_name (fun S3 eS3 => ?_)
        refine j_aload_n X dX6_begin_37 rfl rfl (q := 0) rfl ?_
        refine jg_model X 9 (by decide) lk_RX6_41 rfl rfl dX6_begin_38 rfl ?_
        refine j_topeq (y := (1)) (by rw [eS3, setF_at, if_pos ⟨rfl, rfl, rfl, rfl⟩]) ?_
        refine j_if_eq_f X dX6_begin_41 rfl (tgt := 46) (by decide) (by decide) ?_
        refine j_iconst X dX6_begin_44 rfl (v := 0) (by decide) ?_
        exact j_ret (by subst eS3; first | with_reducible rfl | (simp [rBegin, c_7, c_16, c_26]; done) | (simp_all [rBegin]; done) | rfl) (by subst eS3; first | with_reducible rfl | (simp [rBegin, c_7, c_16, c_26]; done) | (simp_all [rBegin]; done) | rfl) rfl (K _ _ dX6_begin_45)
      · refine j_iconst X dX6_begin_29 rfl (v := 0) (by decide) ?_
        refine j_goto X (tgt := 34) dX6_begin_30 (by decide) ?_
        refine jp_model X 9 (by decide) lk_RX6_41 rfl rfl rfl (vp_nar_int _) rfl rfl dX6_begin_34 rfl ?_
        refine j_name (fun S4 eS4 => ?_)
        refine j_aload_n X dX6_begin_37 rfl rfl (q := 0) rfl ?_
        refine jg_model X 9 (by decide) lk_RX6_41 rfl rfl dX6_begin_38 rfl ?_
        refine j_topeq (y := (0)) (by rw [eS4, setF_at, if_pos ⟨rfl, rfl, rfl, rfl⟩]) ?_
        refine j_if_eq_t X (tgt := 46) dX6_begin_41 (by decide) (by decide) ?_
        refine j_aload_n X dX6_begin_46 rfl rfl (q := 0) rfl ?_
        refine j_callv X (c_X6_keep l Z S4 h ) (wm_ref (by decide)) ((fun _ => rfl) _) rfl lk_RX6_63 mi_X6_keep ms_X6_keep ini_RX6 mc_X6_keep md_X6_keep ⟨Nat.le_of_ble_eq_true rfl, Nat.le_of_ble_eq_true rfl⟩ ⟨Nat.le_of_ble_eq_true rfl, Nat.le_of_ble_eq_true rfl⟩ rfl (Nat.le_of_ble_eq_true rfl) (as := []) (rest := []) rfl dX6_begin_47 rfl ?_
        refine j_name (fun S5 eS5 => ?_)
        refine j_aload_n X dX6_begin_50 rfl rfl (q := 0) rfl ?_
        refine jg_model X 0 (by decide) lk_RX6_7 rfl rfl dX6_begin_51 rfl ?_
        refine j_bipush X dX6_begin_54 rfl (v := 21) (by decide) ?_
        refine j_ialdN X (k := 21) (wm_ref (by decide)) ((fun _ => rfl) _) (by decide) (by decide) dX6_begin_56 rfl ?_
        refine j_istore X dX6_begin_57 rfl (by decide) (Ls2 := [(4, .int (S5 7 0 1 21)), (0, .ref (zA Z (7) (0) (0))), (1, .int (x)), (2, .int (y)), (3, .int (z))]) rfl ?_
        refine j_aload_n X dX6_begin_59 rfl rfl (q := 1) rfl ?_
        refine j_iload_n X dX6_begin_60 rfl rfl (q := 2) rfl ?_
        refine j_iload_n X dX6_begin_61 rfl rfl (q := 3) rfl ?_
        refine j_iload_n X dX6_begin_62 rfl rfl (q := 4) rfl ?_
        refine j_callv X (c_X6_clear l Z S5 h (x) (y) (z)) (wm_ref (by decide)) ((fun _ => rfl) _) rfl lk_RX6_37 mi_X6_clear ms_X6_clear ini_RX6 mc_X6_clear md_X6_clear ⟨Nat.le_of_ble_eq_true rfl, Nat.le_of_ble_eq_true rfl⟩ ⟨Nat.le_of_ble_eq_true rfl, Nat.le_of_ble_eq_true rfl⟩ rfl (Nat.le_of_ble_eq_true rfl) (as := [.int (x), .int (y), .int (z)]) (rest := []) rfl dX6_begin_63 rfl ?_
        refine j_name (fun S6 eS6 => ?_)
        refine j_iload X dX6_begin_66 rfl (q := 0) rfl ?_
        exact j_ret (by subst eS4; subst eS5; subst eS6; first | with_reducible rfl | (simp [rBegin, c_7, c_16, c_26]; done) | (simp_all [rBegin]; done) | rfl) (by subst eS4; subst eS5; subst eS6; first | with_reducible rfl | (simp [rBegin, c_7, c_16, c_26]; done) | (simp_all [rBegin]; done) | rfl) rfl (K _ _ dX6_begin_68)
set_option maxRecDepth 100000 in
set_option maxHeartbeats 4000000 in
theorem c_X6_setPolicy (l : Launch) (Z : wZ) (S : St) (h : Hl) (x : Int32) : Ci l yX6_setPolicy cX6_setPolicy 3 .int 2 42 Z [.ref (zA Z (7) (0) (0)), .int (x)] S h ((rSetPol S x).1) ((rSetPol S x).2) (h) := by
  refine Ci.of rfl rfl (Nat.le_of_ble_eq_true rfl) (fun p e s mi args below meth c A0 Q X K => ?_)
  refine j_at rfl rfl (Ls3 := [(0, .ref (zA Z (7) (0) (0))), (1, .int (x))]) rfl rfl ?_
  refine j_aload_n X dX6_setPolicy_0 rfl rfl (q := 0) rfl ?_
  refine j_iload_n X dX6_setPolicy_1 rfl rfl (q := 1) rfl ?_
  refine j_iconst X dX6_setPolicy_2 rfl (v := 0) (by decide) ?_
  refine j_iconst X dX6_setPolicy_3 rfl (v := 2) (by decide) ?_
  refine j_callSi X (c_X6_in l Z S h (x) (0) (2)) lk_RX6_56 mt_X6_in ini_RX6 mc_X6_in md_X6_in ⟨Nat.le_of_ble_eq_true rfl, Nat.le_of_ble_eq_true rfl⟩ ⟨Nat.le_of_ble_eq_true rfl, Nat.le_of_ble_eq_true rfl⟩ rfl (Nat.le_of_ble_eq_true rfl) (as := [.int (x), .int (0), .int (2)]) (rest := [.ref (zA Z (7) (0) (0))]) rfl dX6_setPolicy_4 rfl ?_
  refine j_ifb_eq X dX6_setPolicy_7 rfl (tgt := 14) (by decide) (fun c_7 => ?_) (fun c_7 => ?_)
  · refine j_iconst X dX6_setPolicy_14 rfl (v := 1) (by decide) ?_
    refine jp_model X 9 (by decide) lk_RX6_41 rfl rfl rfl (vp_nar_int _) rfl rfl dX6_setPolicy_15 rfl ?_
    refine j_name (fun S1 eS1 => ?_)
    refine j_aload_n X dX6_setPolicy_18 rfl rfl (q := 0) rfl ?_
    refine jg_model X 9 (by decide) lk_RX6_41 rfl rfl dX6_setPolicy_19 rfl ?_
    refine j_topeq (y := (1)) (by rw [eS1, setF_at, if_pos ⟨rfl, rfl, rfl, rfl⟩]) ?_
    refine j_if_eq_f X dX6_setPolicy_22 rfl (tgt := 27) (by decide) (by decide) ?_
    refine j_iconst X dX6_setPolicy_25 rfl (v := 0) (by decide) ?_
    exact j_ret (by subst eS1; first | with_reducible rfl | (simp [rSetPol, c_7]; done) | (simp_all [rSetPol]; done) | rfl) (by subst eS1; first | with_reducible rfl | (simp [rSetPol, c_7]; done) | (simp_all [rSetPol]; done) | rfl) rfl (K _ _ dX6_setPolicy_26)
  · refine j_iconst X dX6_setPolicy_10 rfl (v := 0) (by decide) ?_
    refine j_goto X (tgt := 15) dX6_setPolicy_11 (by decide) ?_
    refine jp_model X 9 (by decide) lk_RX6_41 rfl rfl rfl (vp_nar_int _) rfl rfl dX6_setPolicy_15 rfl ?_
    refine j_name (fun S2 eS2 => ?_)
    refine j_aload_n X dX6_setPolicy_18 rfl rfl (q := 0) rfl ?_
    refine jg_model X 9 (by decide) lk_RX6_41 rfl rfl dX6_setPolicy_19 rfl ?_
    refine j_topeq (y := (0)) (by rw [eS2, setF_at, if_pos ⟨rfl, rfl, rfl, rfl⟩]) ?_
    refine j_if_eq_t X (tgt := 27) dX6_setPolicy_22 (by decide) (by decide) ?_
    refine j_aload_n X dX6_setPolicy_27 rfl rfl (q := 0) rfl ?_
    refine j_callv X (c_X6_keep l Z S2 h ) (wm_ref (by decide)) ((fun _ => rfl) _) rfl lk_RX6_63 mi_X6_keep ms_X6_keep ini_RX6 mc_X6_keep md_X6_keep ⟨Nat.le_of_ble_eq_true rfl, Nat.le_of_ble_eq_true rfl⟩ ⟨Nat.le_of_ble_eq_true rfl, Nat.le_of_ble_eq_true rfl⟩ rfl (Nat.le_of_ble_eq_true rfl) (as := []) (rest := []) rfl dX6_setPolicy_28 rfl ?_
    refine j_name (fun S3 eS3 => ?_)
    refine j_aload_n X dX6_setPolicy_31 rfl rfl (q := 0) rfl ?_
    refine jg_model X 0 (by decide) lk_RX6_7 rfl rfl dX6_setPolicy_32 rfl ?_
    refine j_iconst X dX6_setPolicy_35 rfl (v := 1) (by decide) ?_
    refine j_ialdN X (k := 1) (wm_ref (by decide)) ((fun _ => rfl) _) (by decide) (by decide) dX6_setPolicy_36 rfl ?_
    refine j_istore_n X dX6_setPolicy_37 rfl rfl (by decide) (Ls2 := [(2, .int (S3 7 0 1 1)), (0, .ref (zA Z (7) (0) (0))), (1, .int (x))]) rfl ?_
    refine j_aload_n X dX6_setPolicy_38 rfl rfl (q := 1) rfl ?_
    refine jg_model X 0 (by decide) lk_RX6_7 rfl rfl dX6_setPolicy_39 rfl ?_
    refine j_iconst X dX6_setPolicy_42 rfl (v := 1) (by decide) ?_
    refine j_iload_n X dX6_setPolicy_43 rfl rfl (q := 2) rfl ?_
    refine j_iastN X (k := 1) (wm_ref (by decide)) (fun r => (fun _ => rfl) r) (by decide) (by decide) dX6_setPolicy_44 rfl ?_
    refine j_name (fun S4 eS4 => ?_)
    refine j_iload_n X dX6_setPolicy_45 rfl rfl (q := 0) rfl ?_
    exact j_ret (by subst eS2; subst eS3; subst eS4; first | with_reducible rfl | (simp [rSetPol, c_7]; done) | (simp_all [rSetPol]; done) | rfl) (by subst eS2; subst eS3; subst eS4; first | with_reducible rfl | (simp [rSetPol, c_7]; done) | (simp_all [rSetPol]; done) | rfl) rfl (K _ _ dX6_setPolicy_46)
set_option maxRecDepth 100000 in
set_option maxHeartbeats 4000000 in
theorem c_X6_seed (l : Launch) (Z : wZ) (S : St) (h : Hl) (x : Int32) : Ci l yX6_seed cX6_seed 3 .int 2 42 Z [.ref (zA Z (7) (0) (0)), .int (x)] S h ((rSeed S x).1) ((rSeed S x).2) (h) := by
  refine Ci.of rfl rfl (Nat.le_of_ble_eq_true rfl) (fun p e s mi args below meth c A0 Q X K => ?_)
  refine j_at rfl rfl (Ls3 := [(0, .ref (zA Z (7) (0) (0))), (1, .int (x))]) rfl rfl ?_
  refine j_aload_n X dX6_seed_0 rfl rfl (q := 0) rfl ?_
  refine j_iload_n X dX6_seed_1 rfl rfl (q := 1) rfl ?_
  refine j_iconst X dX6_seed_2 rfl (v := 0) (by decide) ?_
  refine j_ldc X (v := 999999) dX6_seed_3 rfl (List.mem_of_getElem? (i := 213) (by decide +kernel)) ?_
  refine j_callSi X (c_X6_in l Z S h (x) (0) (999999)) lk_RX6_56 mt_X6_in ini_RX6 mc_X6_in md_X6_in ⟨Nat.le_of_ble_eq_true rfl, Nat.le_of_ble_eq_true rfl⟩ ⟨Nat.le_of_ble_eq_true rfl, Nat.le_of_ble_eq_true rfl⟩ rfl (Nat.le_of_ble_eq_true rfl) (as := [.int (x), .int (0), .int (999999)]) (rest := [.ref (zA Z (7) (0) (0))]) rfl dX6_seed_5 rfl ?_
  refine j_ifb_eq X dX6_seed_8 rfl (tgt := 15) (by decide) (fun c_8 => ?_) (fun c_8 => ?_)
  · refine j_iconst X dX6_seed_15 rfl (v := 1) (by decide) ?_
    refine jp_model X 9 (by decide) lk_RX6_41 rfl rfl rfl (vp_nar_int _) rfl rfl dX6_seed_16 rfl ?_
    refine j_name (fun S1 eS1 => ?_)
    refine j_aload_n X dX6_seed_19 rfl rfl (q := 0) rfl ?_
    refine jg_model X 9 (by decide) lk_RX6_41 rfl rfl dX6_seed_20 rfl ?_
    refine j_topeq (y := (1)) (by rw [eS1, setF_at, if_pos ⟨rfl, rfl, rfl, rfl⟩]) ?_
    refine j_if_eq_f X dX6_seed_23 rfl (tgt := 28) (by decide) (by decide) ?_
    refine j_iconst X dX6_seed_26 rfl (v := 0) (by decide) ?_
    exact j_ret (by subst eS1; first | with_reducible rfl | (simp [rSeed, c_8]; done) | (simp_all [rSeed]; done) | rfl) (by subst eS1; first | with_reducible rfl | (simp [rSeed, c_8]; done) | (simp_all [rSeed]; done) | rfl) rfl (K _ _ dX6_seed_27)
  · refine j_iconst X dX6_seed_11 rfl (v := 0) (by decide) ?_
    refine j_goto X (tgt := 16) dX6_seed_12 (by decide) ?_
    refine jp_model X 9 (by decide) lk_RX6_41 rfl rfl rfl (vp_nar_int _) rfl rfl dX6_seed_16 rfl ?_
    refine j_name (fun S2 eS2 => ?_)
    refine j_aload_n X dX6_seed_19 rfl rfl (q := 0) rfl ?_
    refine jg_model X 9 (by decide) lk_RX6_41 rfl rfl dX6_seed_20 rfl ?_
    refine j_topeq (y := (0)) (by rw [eS2, setF_at, if_pos ⟨rfl, rfl, rfl, rfl⟩]) ?_
    refine j_if_eq_t X (tgt := 28) dX6_seed_23 (by decide) (by decide) ?_
    refine j_aload_n X dX6_seed_28 rfl rfl (q := 0) rfl ?_
    refine j_callv X (c_X6_keep l Z S2 h ) (wm_ref (by decide)) ((fun _ => rfl) _) rfl lk_RX6_63 mi_X6_keep ms_X6_keep ini_RX6 mc_X6_keep md_X6_keep ⟨Nat.le_of_ble_eq_true rfl, Nat.le_of_ble_eq_true rfl⟩ ⟨Nat.le_of_ble_eq_true rfl, Nat.le_of_ble_eq_true rfl⟩ rfl (Nat.le_of_ble_eq_true rfl) (as := []) (rest := []) rfl dX6_seed_29 rfl ?_
    refine j_name (fun S3 eS3 => ?_)
    refine j_aload_n X dX6_seed_32 rfl rfl (q := 0) rfl ?_
    refine jg_model X 0 (by decide) lk_RX6_7 rfl rfl dX6_seed_33 rfl ?_
    refine j_iconst X dX6_seed_36 rfl (v := 3) (by decide) ?_
    refine j_ialdN X (k := 3) (wm_ref (by decide)) ((fun _ => rfl) _) (by decide) (by decide) dX6_seed_37 rfl ?_
    refine j_istore_n X dX6_seed_38 rfl rfl (by decide) (Ls2 := [(2, .int (S3 7 0 1 3)), (0, .ref (zA Z (7) (0) (0))), (1, .int (x))]) rfl ?_
    refine j_aload_n X dX6_seed_39 rfl rfl (q := 1) rfl ?_
    refine jg_model X 0 (by decide) lk_RX6_7 rfl rfl dX6_seed_40 rfl ?_
    refine j_iconst X dX6_seed_43 rfl (v := 3) (by decide) ?_
    refine j_iload_n X dX6_seed_44 rfl rfl (q := 2) rfl ?_
    refine j_iastN X (k := 3) (wm_ref (by decide)) (fun r => (fun _ => rfl) r) (by decide) (by decide) dX6_seed_45 rfl ?_
    refine j_name (fun S4 eS4 => ?_)
    refine j_iload_n X dX6_seed_46 rfl rfl (q := 0) rfl ?_
    exact j_ret (by subst eS2; subst eS3; subst eS4; first | with_reducible rfl | (simp [rSeed, c_8]; done) | (simp_all [rSeed]; done) | rfl) (by subst eS2; subst eS3; subst eS4; first | with_reducible rfl | (simp [rSeed, c_8]; done) | (simp_all [rSeed]; done) | rfl) rfl (K _ _ dX6_seed_47)
set_option maxRecDepth 100000 in
set_option maxHeartbeats 4000000 in
theorem c_X6_append (l : Launch) (Z : wZ) (S : St) (h : Hl) (x : Int32) (htl : okI (S 7 0 0 7) 120) : Ci l yX6_append cX6_append 2 .int 1 22 Z [.ref (zA Z (7) (0) (0)), .int (x)] S h ((rAppend S x).1) ((rAppend S x).2) (h) := by
  have htl2 : rTL S ≤ 120 := htl.2
  refine Ci.of rfl rfl (Nat.le_of_ble_eq_true rfl) (fun p e s mi args below meth c A0 Q X K => ?_)
  refine j_at rfl rfl (Ls3 := [(0, .ref (zA Z (7) (0) (0))), (1, .int (x))]) rfl rfl ?_
  refine j_aload_n X dX6_append_0 rfl rfl (q := 0) rfl ?_
  refine j_iload_n X dX6_append_1 rfl rfl (q := 1) rfl ?_
  refine j_iconst X dX6_append_2 rfl (v := 0) (by decide) ?_
  refine j_bipush X dX6_append_3 rfl (v := 127) (by decide) ?_
  refine j_callSi X (c_X6_in l Z S h (x) (0) (127)) lk_RX6_56 mt_X6_in ini_RX6 mc_X6_in md_X6_in ⟨Nat.le_of_ble_eq_true rfl, Nat.le_of_ble_eq_true rfl⟩ ⟨Nat.le_of_ble_eq_true rfl, Nat.le_of_ble_eq_true rfl⟩ rfl (Nat.le_of_ble_eq_true rfl) (as := [.int (x), .int (0), .int (127)]) (rest := [.ref (zA Z (7) (0) (0))]) rfl dX6_append_5 rfl ?_
  refine j_ifb_ne X dX6_append_8 rfl (tgt := 15) (by decide) (fun c_8 => ?_) (fun c_8 => ?_)
  · refine j_aload_n X dX6_append_15 rfl rfl (q := 0) rfl ?_
    refine jg_model X 7 (by decide) lk_RX6_67 rfl rfl dX6_append_16 rfl ?_
    refine j_topeq (y := (nI (rTL S))) (htl.1) ?_
    refine j_bipush X dX6_append_19 rfl (v := 120) (by decide) ?_
    refine j_icmpN_ne X (a := rTL S) (b := 120) (by omega) (by omega) dX6_append_21 rfl (tgt := 28) (by decide) (fun c_21 => ?_) (fun c_21 => ?_)
    · refine j_iconst X dX6_append_28 rfl (v := 0) (by decide) ?_
      refine jp_model X 9 (by decide) lk_RX6_41 rfl rfl rfl (vp_nar_int _) rfl rfl dX6_append_29 rfl ?_
      refine j_name (fun S1 eS1 => ?_)
      refine j_aload_n X dX6_append_32 rfl rfl (q := 0) rfl ?_
      refine jg_model X 9 (by decide) lk_RX6_41 rfl rfl dX6_append_33 rfl ?_
      refine j_topeq (y := (0)) (by rw [eS1, setF_at, if_pos ⟨rfl, rfl, rfl, rfl⟩]) ?_
      refine j_if_eq_t X (tgt := 41) dX6_append_36 (by decide) (by decide) ?_
      refine j_aload_n X dX6_append_41 rfl rfl (q := 0) rfl ?_
      refine jg_model X 6 (by decide) lk_RX6_25 rfl rfl dX6_append_42 rfl ?_
      refine j_aload_n X dX6_append_45 rfl rfl (q := 0) rfl ?_
      refine jg_model X 7 (by decide) lk_RX6_67 rfl rfl dX6_append_46 rfl ?_
      refine j_topeq (y := (nI (rTL S))) (by subst eS1; simp [setF_at] <;> exact htl.1) ?_
      refine j_iload_n X dX6_append_49 rfl rfl (q := 1) rfl ?_
      refine j_iastN X (k := rTL S) (wm_ref (by decide)) (fun r => (fun _ => rfl) r) (by omega) (by decide) dX6_append_50 rfl ?_
      refine j_name (fun S2 eS2 => ?_)
      refine j_aload_n X dX6_append_51 rfl rfl (q := 0) rfl ?_
      refine j_dup X dX6_append_52 rfl rfl ?_
      refine jg_model X 7 (by decide) lk_RX6_67 rfl rfl dX6_append_53 rfl ?_
      refine j_topeq (y := (nI (rTL S))) (by subst eS1; subst eS2; simp [setF_at] <;> exact htl.1) ?_
      refine j_iconst X dX6_append_56 rfl (v := 1) (by decide) ?_
      refine j_iadd X dX6_append_57 rfl ?_
      refine j_topeq (y := nI ((rTL S) + 1)) (nI_add (rTL S) 1) ?_
      refine jp_model X 7 (by decide) lk_RX6_67 rfl rfl rfl (vp_nar_int _) rfl rfl dX6_append_58 rfl ?_
      refine j_name (fun S3 eS3 => ?_)
      refine j_aload_n X dX6_append_61 rfl rfl (q := 0) rfl ?_
      refine jg_model X 7 (by decide) lk_RX6_67 rfl rfl dX6_append_62 rfl ?_
      exact j_ret (by subst eS1; subst eS2; subst eS3; first | with_reducible rfl | (simp [rAppend, rAppS, c_8, c_21]; done) | (simp_all [rAppend, rAppS]; done) | rfl) (by subst eS1; subst eS2; subst eS3; first | with_reducible rfl | (simp [rAppend, rAppS, c_8, c_21]; done) | (simp_all [rAppend, rAppS]; done) | rfl) rfl (K _ _ dX6_append_65)
    · refine j_iconst X dX6_append_24 rfl (v := 2) (by decide) ?_
      refine j_goto X (tgt := 29) dX6_append_25 (by decide) ?_
      refine jp_model X 9 (by decide) lk_RX6_41 rfl rfl rfl (vp_nar_int _) rfl rfl dX6_append_29 rfl ?_
      refine j_name (fun S4 eS4 => ?_)
      refine j_aload_n X dX6_append_32 rfl rfl (q := 0) rfl ?_
      refine jg_model X 9 (by decide) lk_RX6_41 rfl rfl dX6_append_33 rfl ?_
      refine j_topeq (y := (2)) (by rw [eS4, setF_at, if_pos ⟨rfl, rfl, rfl, rfl⟩]) ?_
      refine j_if_eq_f X dX6_append_36 rfl (tgt := 41) (by decide) (by decide) ?_
      refine j_iconst X dX6_append_39 rfl (v := 0) (by decide) ?_
      exact j_ret (by subst eS4; first | with_reducible rfl | (simp [rAppend, rAppS, c_8, c_21]; done) | (simp_all [rAppend, rAppS]; done) | rfl) (by subst eS4; first | with_reducible rfl | (simp [rAppend, rAppS, c_8, c_21]; done) | (simp_all [rAppend, rAppS]; done) | rfl) rfl (K _ _ dX6_append_40)
  · refine j_iconst X dX6_append_11 rfl (v := 1) (by decide) ?_
    refine j_goto X (tgt := 29) dX6_append_12 (by decide) ?_
    refine jp_model X 9 (by decide) lk_RX6_41 rfl rfl rfl (vp_nar_int _) rfl rfl dX6_append_29 rfl ?_
    refine j_name (fun S5 eS5 => ?_)
    refine j_aload_n X dX6_append_32 rfl rfl (q := 0) rfl ?_
    refine jg_model X 9 (by decide) lk_RX6_41 rfl rfl dX6_append_33 rfl ?_
    refine j_topeq (y := (1)) (by rw [eS5, setF_at, if_pos ⟨rfl, rfl, rfl, rfl⟩]) ?_
    refine j_if_eq_f X dX6_append_36 rfl (tgt := 41) (by decide) (by decide) ?_
    refine j_iconst X dX6_append_39 rfl (v := 0) (by decide) ?_
    exact j_ret (by subst eS5; first | with_reducible rfl | (simp [rAppend, rAppS, c_8]; done) | (simp_all [rAppend, rAppS]; done) | rfl) (by subst eS5; first | with_reducible rfl | (simp [rAppend, rAppS, c_8]; done) | (simp_all [rAppend, rAppS]; done) | rfl) rfl (K _ _ dX6_append_40)
set_option maxRecDepth 100000 in
set_option maxHeartbeats 4000000 in
theorem c_X6_clearText (l : Launch) (Z : wZ) (S : St) (h : Hl)  : Ci l yX6_clearText cX6_clearText 2 .int 0 0 Z [.ref (zA Z (7) (0) (0))] S h ((rClearT S).1) ((rClearT S).2) (h) := by
  refine Ci.of rfl rfl (Nat.le_of_ble_eq_true rfl) (fun p e s mi args below meth c A0 Q X K => ?_)
  refine j_at rfl rfl (Ls3 := [(0, .ref (zA Z (7) (0) (0)))]) rfl rfl ?_
  refine j_aload_n X dX6_clearText_0 rfl rfl (q := 0) rfl ?_
  refine j_iconst X dX6_clearText_1 rfl (v := 0) (by decide) ?_
  refine jp_model X 9 (by decide) lk_RX6_41 rfl rfl rfl (vp_nar_int _) rfl rfl dX6_clearText_2 rfl ?_
  refine j_name (fun S1 eS1 => ?_)
  refine j_aload_n X dX6_clearText_5 rfl rfl (q := 0) rfl ?_
  refine jg_model X 7 (by decide) lk_RX6_67 rfl rfl dX6_clearText_6 rfl ?_
  refine j_istore_n X dX6_clearText_9 rfl rfl (by decide) (Ls2 := [(1, .int (S1 7 0 0 7)), (0, .ref (zA Z (7) (0) (0)))]) rfl ?_
  refine j_aload_n X dX6_clearText_10 rfl rfl (q := 1) rfl ?_
  refine j_iconst X dX6_clearText_11 rfl (v := 0) (by decide) ?_
  refine jp_model X 7 (by decide) lk_RX6_67 rfl rfl rfl (vp_nar_int _) rfl rfl dX6_clearText_12 rfl ?_
  refine j_name (fun S2 eS2 => ?_)
  refine j_iload_n X dX6_clearText_15 rfl rfl (q := 0) rfl ?_
  exact j_ret (by subst eS1; subst eS2; first | with_reducible rfl | (simp [rClearT]; done) | (simp_all [rClearT]; done) | rfl) (by subst eS1; subst eS2; first | with_reducible rfl | (simp [rClearT]; done) | (simp_all [rClearT]; done) | rfl) rfl (K _ _ dX6_clearText_16)
set_option maxRecDepth 100000 in
set_option maxHeartbeats 4000000 in
theorem c_X6_state_no (l : Launch) (Z : wZ) (S : St) (h : Hl) (x : Int32) (y : Int32) (hx : rIsC S x = false) : Ci l yX6_state cX6_state 3 .int 2 43 Z [.ref (zA Z (7) (0) (0)), .int (x), .int (y)] S h (0) (rCd S 1) (h) := by
  refine Ci.of rfl rfl (Nat.le_of_ble_eq_true rfl) (fun p e s mi args below meth c A0 Q X K => ?_)
  refine j_at rfl rfl (Ls3 := [(0, .ref (zA Z (7) (0) (0))), (1, .int (x)), (2, .int (y))]) rfl rfl ?_
  refine j_aload_n X dX6_state_0 rfl rfl (q := 0) rfl ?_
  refine j_aload_n X dX6_state_1 rfl rfl (q := 0) rfl ?_
  refine j_iload_n X dX6_state_2 rfl rfl (q := 1) rfl ?_
  refine j_calli X (c_X6_isCore l Z S h (x)) (wm_ref (by decide)) ((fun _ => rfl) _) rfl lk_RX6_94 mi_X6_isCore ms_X6_isCore ini_RX6 mc_X6_isCore md_X6_isCore ⟨Nat.le_of_ble_eq_true rfl, Nat.le_of_ble_eq_true rfl⟩ ⟨Nat.le_of_ble_eq_true rfl, Nat.le_of_ble_eq_true rfl⟩ rfl (Nat.le_of_ble_eq_true rfl) (as := [.int (x)]) (rest := [.ref (zA Z (7) (0) (0))]) rfl dX6_state_3 rfl ?_
  refine j_if_eq_t X (tgt := 20) dX6_state_6 (by decide) (by rw [show rIn x 0 (S 7 0 1 0 - 1) = false from hx]; decide) ?_
  refine j_iconst X dX6_state_20 rfl (v := 1) (by decide) ?_
  refine jp_model X 9 (by decide) lk_RX6_41 rfl rfl rfl (vp_nar_int _) rfl rfl dX6_state_21 rfl ?_
  refine j_name (fun S1 eS1 => ?_)
  refine j_aload_n X dX6_state_24 rfl rfl (q := 0) rfl ?_
  refine jg_model X 9 (by decide) lk_RX6_41 rfl rfl dX6_state_25 rfl ?_
  refine j_topeq (y := (1)) (by rw [eS1, setF_at, if_pos ⟨rfl, rfl, rfl, rfl⟩]) ?_
  refine j_if_eq_f X dX6_state_28 rfl (tgt := 35) (by decide) (by decide) ?_
  refine j_iconst X dX6_state_31 rfl (v := 0) (by decide) ?_
  refine j_goto X (tgt := 44) dX6_state_32 (by decide) ?_
  exact j_ret (by subst eS1; first | with_reducible rfl | (simp []; done) | (simp_all []; done) | rfl) (by subst eS1; first | with_reducible rfl | (simp []; done) | (simp_all []; done) | rfl) rfl (K _ _ dX6_state_44)
set_option maxRecDepth 100000 in
set_option maxHeartbeats 4000000 in
theorem c_X6_state (l : Launch) (Z : wZ) (S : St) (h : Hl) (a : Nat) (ha : a < 4) (hx : rIsC S (nI a) = true) (j : Nat) (hj : j < 8) (hl : rIn (nI j) 0 7 = true) : Ci l yX6_state cX6_state 3 .int 2 43 Z [.ref (zA Z (7) (0) (0)), .int (nI (a)), .int (nI (j))] S h ((rState S a j 20).1) ((rState S a j 20).2) (h) := by
  refine Ci.of rfl rfl (Nat.le_of_ble_eq_true rfl) (fun p e s mi args below meth c A0 Q X K => ?_)
  refine j_at rfl rfl (Ls3 := [(0, .ref (zA Z (7) (0) (0))), (1, .int (nI (a))), (2, .int (nI (j)))]) rfl rfl ?_
  refine j_aload_n X dX6_state_0 rfl rfl (q := 0) rfl ?_
  refine j_aload_n X dX6_state_1 rfl rfl (q := 0) rfl ?_
  refine j_iload_n X dX6_state_2 rfl rfl (q := 1) rfl ?_
  refine j_calli X (c_X6_isCore l Z S h (nI (a))) (wm_ref (by decide)) ((fun _ => rfl) _) rfl lk_RX6_94 mi_X6_isCore ms_X6_isCore ini_RX6 mc_X6_isCore md_X6_isCore ⟨Nat.le_of_ble_eq_true rfl, Nat.le_of_ble_eq_true rfl⟩ ⟨Nat.le_of_ble_eq_true rfl, Nat.le_of_ble_eq_true rfl⟩ rfl (Nat.le_of_ble_eq_true rfl) (as := [.int (nI (a))]) (rest := [.ref (zA Z (7) (0) (0))]) rfl dX6_state_3 rfl ?_
  refine j_if_eq_f X dX6_state_6 rfl (tgt := 20) (by decide) (by rw [show rIn (nI a) 0 (S 7 0 1 0 - 1) = true from hx]; decide) ?_
  refine j_iload_n X dX6_state_9 rfl rfl (q := 2) rfl ?_
  refine j_callSi X (c_X6_isLine l Z S h (nI (j))) lk_RX6_180 mt_X6_isLine ini_RX6 mc_X6_isLine md_X6_isLine ⟨Nat.le_of_ble_eq_true rfl, Nat.le_of_ble_eq_true rfl⟩ ⟨Nat.le_of_ble_eq_true rfl, Nat.le_of_ble_eq_true rfl⟩ rfl (Nat.le_of_ble_eq_true rfl) (as := [.int (nI (j))]) (rest := [.ref (zA Z (7) (0) (0))]) rfl dX6_state_10 rfl ?_
  refine j_if_eq_f X dX6_state_13 rfl (tgt := 20) (by decide) (by rw [show rIn (nI j) 0 7 = true from hl]; decide) ?_
  refine j_iconst X dX6_state_16 rfl (v := 0) (by decide) ?_
  refine j_goto X (tgt := 21) dX6_state_17 (by decide) ?_
  refine jp_model X 9 (by decide) lk_RX6_41 rfl rfl rfl (vp_nar_int _) rfl rfl dX6_state_21 rfl ?_
  refine j_name (fun S1 eS1 => ?_)
  refine j_aload_n X dX6_state_24 rfl rfl (q := 0) rfl ?_
  refine jg_model X 9 (by decide) lk_RX6_41 rfl rfl dX6_state_25 rfl ?_
  refine j_topeq (y := (0)) (by rw [eS1, setF_at, if_pos ⟨rfl, rfl, rfl, rfl⟩]) ?_
  refine j_if_eq_t X (tgt := 35) dX6_state_28 (by decide) (by decide) ?_
  refine j_aload_n X dX6_state_35 rfl rfl (q := 0) rfl ?_
  refine j_iload_n X dX6_state_36 rfl rfl (q := 1) rfl ?_
  refine j_bipush X dX6_state_37 rfl (v := 20) (by decide) ?_
  refine j_iload_n X dX6_state_39 rfl rfl (q := 2) rfl ?_
  refine j_iadd X dX6_state_40 rfl ?_
  refine j_topeq (y := nI (20 + j)) (nI_add 20 j) ?_
  refine j_calli X (c_X6_of l Z S1 h a (20 + j) (by omega)) (wm_ref (by decide)) ((fun _ => rfl) _) rfl lk_RX6_97 mi_X6_of ms_X6_of ini_RX6 mc_X6_of md_X6_of ⟨Nat.le_of_ble_eq_true rfl, Nat.le_of_ble_eq_true rfl⟩ ⟨Nat.le_of_ble_eq_true rfl, Nat.le_of_ble_eq_true rfl⟩ rfl (Nat.le_of_ble_eq_true rfl) (as := [.int (nI (a)), .int (nI (20 + j))]) (rest := []) rfl dX6_state_41 rfl ?_
  exact j_ret (by subst eS1; first | with_reducible rfl | (simp [rState]; done) | (simp_all [rState]; done) | rfl) (by subst eS1; first | with_reducible rfl | (simp [rState]; done) | (simp_all [rState]; done) | rfl) rfl (K _ _ dX6_state_44)
set_option maxRecDepth 100000 in
set_option maxHeartbeats 4000000 in
theorem c_X6_state_nl (l : Launch) (Z : wZ) (S : St) (h : Hl) (a : Nat) (ha : a < 4) (hx : rIsC S (nI a) = true) (y : Int32) (hl : rIn y 0 7 = false) : Ci l yX6_state cX6_state 3 .int 2 43 Z [.ref (zA Z (7) (0) (0)), .int (nI (a)), .int (y)] S h (0) (rCd S 1) (h) := by
  refine Ci.of rfl rfl (Nat.le_of_ble_eq_true rfl) (fun p e s mi args below meth c A0 Q X K => ?_)
  refine j_at rfl rfl (Ls3 := [(0, .ref (zA Z (7) (0) (0))), (1, .int (nI (a))), (2, .int (y))]) rfl rfl ?_
  refine j_aload_n X dX6_state_0 rfl rfl (q := 0) rfl ?_
  refine j_aload_n X dX6_state_1 rfl rfl (q := 0) rfl ?_
  refine j_iload_n X dX6_state_2 rfl rfl (q := 1) rfl ?_
  refine j_calli X (c_X6_isCore l Z S h (nI (a))) (wm_ref (by decide)) ((fun _ => rfl) _) rfl lk_RX6_94 mi_X6_isCore ms_X6_isCore ini_RX6 mc_X6_isCore md_X6_isCore ⟨Nat.le_of_ble_eq_true rfl, Nat.le_of_ble_eq_true rfl⟩ ⟨Nat.le_of_ble_eq_true rfl, Nat.le_of_ble_eq_true rfl⟩ rfl (Nat.le_of_ble_eq_true rfl) (as := [.int (nI (a))]) (rest := [.ref (zA Z (7) (0) (0))]) rfl dX6_state_3 rfl ?_
  refine j_if_eq_f X dX6_state_6 rfl (tgt := 20) (by decide) (by rw [show rIn (nI a) 0 (S 7 0 1 0 - 1) = true from hx]; decide) ?_
  refine j_iload_n X dX6_state_9 rfl rfl (q := 2) rfl ?_
  refine j_callSi X (c_X6_isLine l Z S h (y)) lk_RX6_180 mt_X6_isLine ini_RX6 mc_X6_isLine md_X6_isLine ⟨Nat.le_of_ble_eq_true rfl, Nat.le_of_ble_eq_true rfl⟩ ⟨Nat.le_of_ble_eq_true rfl, Nat.le_of_ble_eq_true rfl⟩ rfl (Nat.le_of_ble_eq_true rfl) (as := [.int (y)]) (rest := [.ref (zA Z (7) (0) (0))]) rfl dX6_state_10 rfl ?_
  refine j_if_eq_t X (tgt := 20) dX6_state_13 (by decide) (by rw [hl]; decide) ?_
  refine j_iconst X dX6_state_20 rfl (v := 1) (by decide) ?_
  refine jp_model X 9 (by decide) lk_RX6_41 rfl rfl rfl (vp_nar_int _) rfl rfl dX6_state_21 rfl ?_
  refine j_name (fun S1 eS1 => ?_)
  refine j_aload_n X dX6_state_24 rfl rfl (q := 0) rfl ?_
  refine jg_model X 9 (by decide) lk_RX6_41 rfl rfl dX6_state_25 rfl ?_
  refine j_topeq (y := (1)) (by rw [eS1, setF_at, if_pos ⟨rfl, rfl, rfl, rfl⟩]) ?_
  refine j_if_eq_f X dX6_state_28 rfl (tgt := 35) (by decide) (by decide) ?_
  refine j_iconst X dX6_state_31 rfl (v := 0) (by decide) ?_
  refine j_goto X (tgt := 44) dX6_state_32 (by decide) ?_
  exact j_ret (by subst eS1; first | with_reducible rfl | (simp []; done) | (simp_all []; done) | rfl) (by subst eS1; first | with_reducible rfl | (simp []; done) | (simp_all []; done) | rfl) rfl (K _ _ dX6_state_44)
set_option maxRecDepth 100000 in
set_option maxHeartbeats 4000000 in
theorem c_X6_cached_no (l : Launch) (Z : wZ) (S : St) (h : Hl) (x : Int32) (y : Int32) (hx : rIsC S x = false) : Ci l yX6_cached cX6_cached 3 .int 2 43 Z [.ref (zA Z (7) (0) (0)), .int (x), .int (y)] S h (0) (rCd S 1) (h) := by
  refine Ci.of rfl rfl (Nat.le_of_ble_eq_true rfl) (fun p e s mi args below meth c A0 Q X K => ?_)
  refine j_at rfl rfl (Ls3 := [(0, .ref (zA Z (7) (0) (0))), (1, .int (x)), (2, .int (y))]) rfl rfl ?_
  refine j_aload_n X dX6_cached_0 rfl rfl (q := 0) rfl ?_
  refine j_aload_n X dX6_cached_1 rfl rfl (q := 0) rfl ?_
  refine j_iload_n X dX6_cached_2 rfl rfl (q := 1) rfl ?_
  refine j_calli X (c_X6_isCore l Z S h (x)) (wm_ref (by decide)) ((fun _ => rfl) _) rfl lk_RX6_94 mi_X6_isCore ms_X6_isCore ini_RX6 mc_X6_isCore md_X6_isCore ⟨Nat.le_of_ble_eq_true rfl, Nat.le_of_ble_eq_true rfl⟩ ⟨Nat.le_of_ble_eq_true rfl, Nat.le_of_ble_eq_true rfl⟩ rfl (Nat.le_of_ble_eq_true rfl) (as := [.int (x)]) (rest := [.ref (zA Z (7) (0) (0))]) rfl dX6_cached_3 rfl ?_
  refine j_if_eq_t X (tgt := 20) dX6_cached_6 (by decide) (by rw [show rIn x 0 (S 7 0 1 0 - 1) = false from hx]; decide) ?_
  refine j_iconst X dX6_cached_20 rfl (v := 1) (by decide) ?_
  refine jp_model X 9 (by decide) lk_RX6_41 rfl rfl rfl (vp_nar_int _) rfl rfl dX6_cached_21 rfl ?_
  refine j_name (fun S1 eS1 => ?_)
  refine j_aload_n X dX6_cached_24 rfl rfl (q := 0) rfl ?_
  refine jg_model X 9 (by decide) lk_RX6_41 rfl rfl dX6_cached_25 rfl ?_
  refine j_topeq (y := (1)) (by rw [eS1, setF_at, if_pos ⟨rfl, rfl, rfl, rfl⟩]) ?_
  refine j_if_eq_f X dX6_cached_28 rfl (tgt := 35) (by decide) (by decide) ?_
  refine j_iconst X dX6_cached_31 rfl (v := 0) (by decide) ?_
  refine j_goto X (tgt := 44) dX6_cached_32 (by decide) ?_
  exact j_ret (by subst eS1; first | with_reducible rfl | (simp []; done) | (simp_all []; done) | rfl) (by subst eS1; first | with_reducible rfl | (simp []; done) | (simp_all []; done) | rfl) rfl (K _ _ dX6_cached_44)
set_option maxRecDepth 100000 in
set_option maxHeartbeats 4000000 in
theorem c_X6_cached (l : Launch) (Z : wZ) (S : St) (h : Hl) (a : Nat) (ha : a < 4) (hx : rIsC S (nI a) = true) (j : Nat) (hj : j < 8) (hl : rIn (nI j) 0 7 = true) : Ci l yX6_cached cX6_cached 3 .int 2 43 Z [.ref (zA Z (7) (0) (0)), .int (nI (a)), .int (nI (j))] S h ((rState S a j 28).1) ((rState S a j 28).2) (h) := by
  refine Ci.of rfl rfl (Nat.le_of_ble_eq_true rfl) (fun p e s mi args below meth c A0 Q X K => ?_)
  refine j_at rfl rfl (Ls3 := [(0, .ref (zA Z (7) (0) (0))), (1, .int (nI (a))), (2, .int (nI (j)))]) rfl rfl ?_
  refine j_aload_n X dX6_cached_0 rfl rfl (q := 0) rfl ?_
  refine j_aload_n X dX6_cached_1 rfl rfl (q := 0) rfl ?_
  refine j_iload_n X dX6_cached_2 rfl rfl (q := 1) rfl ?_
  refine j_calli X (c_X6_isCore l Z S h (nI (a))) (wm_ref (by decide)) ((fun _ => rfl) _) rfl lk_RX6_94 mi_X6_isCore ms_X6_isCore ini_RX6 mc_X6_isCore md_X6_isCore ⟨Nat.le_of_ble_eq_true rfl, Nat.le_of_ble_eq_true rfl⟩ ⟨Nat.le_of_ble_eq_true rfl, Nat.le_of_ble_eq_true rfl⟩ rfl (Nat.le_of_ble_eq_true rfl) (as := [.int (nI (a))]) (rest := [.ref (zA Z (7) (0) (0))]) rfl dX6_cached_3 rfl ?_
  refine j_if_eq_f X dX6_cached_6 rfl (tgt := 20) (by decide) (by rw [show rIn (nI a) 0 (S 7 0 1 0 - 1) = true from hx]; decide) ?_
  refine j_iload_n X dX6_cached_9 rfl rfl (q := 2) rfl ?_
  refine j_callSi X (c_X6_isLine l Z S h (nI (j))) lk_RX6_180 mt_X6_isLine ini_RX6 mc_X6_isLine md_X6_isLine ⟨Nat.le_of_ble_eq_true rfl, Nat.le_of_ble_eq_true rfl⟩ ⟨Nat.le_of_ble_eq_true rfl, Nat.le_of_ble_eq_true rfl⟩ rfl (Nat.le_of_ble_eq_true rfl) (as := [.int (nI (j))]) (rest := [.ref (zA Z (7) (0) (0))]) rfl dX6_cached_10 rfl ?_
  refine j_if_eq_f X dX6_cached_13 rfl (tgt := 20) (by decide) (by rw [show rIn (nI j) 0 7 = true from hl]; decide) ?_
  refine j_iconst X dX6_cached_16 rfl (v := 0) (by decide) ?_
  refine j_goto X (tgt := 21) dX6_cached_17 (by decide) ?_
  refine jp_model X 9 (by decide) lk_RX6_41 rfl rfl rfl (vp_nar_int _) rfl rfl dX6_cached_21 rfl ?_
  refine j_name (fun S1 eS1 => ?_)
  refine j_aload_n X dX6_cached_24 rfl rfl (q := 0) rfl ?_
  refine jg_model X 9 (by decide) lk_RX6_41 rfl rfl dX6_cached_25 rfl ?_
  refine j_topeq (y := (0)) (by rw [eS1, setF_at, if_pos ⟨rfl, rfl, rfl, rfl⟩]) ?_
  refine j_if_eq_t X (tgt := 35) dX6_cached_28 (by decide) (by decide) ?_
  refine j_aload_n X dX6_cached_35 rfl rfl (q := 0) rfl ?_
  refine j_iload_n X dX6_cached_36 rfl rfl (q := 1) rfl ?_
  refine j_bipush X dX6_cached_37 rfl (v := 28) (by decide) ?_
  refine j_iload_n X dX6_cached_39 rfl rfl (q := 2) rfl ?_
  refine j_iadd X dX6_cached_40 rfl ?_
  refine j_topeq (y := nI (28 + j)) (nI_add 28 j) ?_
  refine j_calli X (c_X6_of l Z S1 h a (28 + j) (by omega)) (wm_ref (by decide)) ((fun _ => rfl) _) rfl lk_RX6_97 mi_X6_of ms_X6_of ini_RX6 mc_X6_of md_X6_of ⟨Nat.le_of_ble_eq_true rfl, Nat.le_of_ble_eq_true rfl⟩ ⟨Nat.le_of_ble_eq_true rfl, Nat.le_of_ble_eq_true rfl⟩ rfl (Nat.le_of_ble_eq_true rfl) (as := [.int (nI (a)), .int (nI (28 + j))]) (rest := []) rfl dX6_cached_41 rfl ?_
  exact j_ret (by subst eS1; first | with_reducible rfl | (simp [rState]; done) | (simp_all [rState]; done) | rfl) (by subst eS1; first | with_reducible rfl | (simp [rState]; done) | (simp_all [rState]; done) | rfl) rfl (K _ _ dX6_cached_44)
set_option maxRecDepth 100000 in
set_option maxHeartbeats 4000000 in
theorem c_X6_cached_nl (l : Launch) (Z : wZ) (S : St) (h : Hl) (a : Nat) (ha : a < 4) (hx : rIsC S (nI a) = true) (y : Int32) (hl : rIn y 0 7 = false) : Ci l yX6_cached cX6_cached 3 .int 2 43 Z [.ref (zA Z (7) (0) (0)), .int (nI (a)), .int (y)] S h (0) (rCd S 1) (h) := by
  refine Ci.of rfl rfl (Nat.le_of_ble_eq_true rfl) (fun p e s mi args below meth c A0 Q X K => ?_)
  refine j_at rfl rfl (Ls3 := [(0, .ref (zA Z (7) (0) (0))), (1, .int (nI (a))), (2, .int (y))]) rfl rfl ?_
  refine j_aload_n X dX6_cached_0 rfl rfl (q := 0) rfl ?_
  refine j_aload_n X dX6_cached_1 rfl rfl (q := 0) rfl ?_
  refine j_iload_n X dX6_cached_2 rfl rfl (q := 1) rfl ?_
  refine j_calli X (c_X6_isCore l Z S h (nI (a))) (wm_ref (by decide)) ((fun _ => rfl) _) rfl lk_RX6_94 mi_X6_isCore ms_X6_isCore ini_RX6 mc_X6_isCore md_X6_isCore ⟨Nat.le_of_ble_eq_true rfl, Nat.le_of_ble_eq_true rfl⟩ ⟨Nat.le_of_ble_eq_true rfl, Nat.le_of_ble_eq_true rfl⟩ rfl (Nat.le_of_ble_eq_true rfl) (as := [.int (nI (a))]) (rest := [.ref (zA Z (7) (0) (0))]) rfl dX6_cached_3 rfl ?_
  refine j_if_eq_f X dX6_cached_6 rfl (tgt := 20) (by decide) (by rw [show rIn (nI a) 0 (S 7 0 1 0 - 1) = true from hx]; decide) ?_
  refine j_iload_n X dX6_cached_9 rfl rfl (q := 2) rfl ?_
  refine j_callSi X (c_X6_isLine l Z S h (y)) lk_RX6_180 mt_X6_isLine ini_RX6 mc_X6_isLine md_X6_isLine ⟨Nat.le_of_ble_eq_true rfl, Nat.le_of_ble_eq_true rfl⟩ ⟨Nat.le_of_ble_eq_true rfl, Nat.le_of_ble_eq_true rfl⟩ rfl (Nat.le_of_ble_eq_true rfl) (as := [.int (y)]) (rest := [.ref (zA Z (7) (0) (0))]) rfl dX6_cached_10 rfl ?_
  refine j_if_eq_t X (tgt := 20) dX6_cached_13 (by decide) (by rw [hl]; decide) ?_
  refine j_iconst X dX6_cached_20 rfl (v := 1) (by decide) ?_
  refine jp_model X 9 (by decide) lk_RX6_41 rfl rfl rfl (vp_nar_int _) rfl rfl dX6_cached_21 rfl ?_
  refine j_name (fun S1 eS1 => ?_)
  refine j_aload_n X dX6_cached_24 rfl rfl (q := 0) rfl ?_
  refine jg_model X 9 (by decide) lk_RX6_41 rfl rfl dX6_cached_25 rfl ?_
  refine j_topeq (y := (1)) (by rw [eS1, setF_at, if_pos ⟨rfl, rfl, rfl, rfl⟩]) ?_
  refine j_if_eq_f X dX6_cached_28 rfl (tgt := 35) (by decide) (by decide) ?_
  refine j_iconst X dX6_cached_31 rfl (v := 0) (by decide) ?_
  refine j_goto X (tgt := 44) dX6_cached_32 (by decide) ?_
  exact j_ret (by subst eS1; first | with_reducible rfl | (simp []; done) | (simp_all []; done) | rfl) (by subst eS1; first | with_reducible rfl | (simp []; done) | (simp_all []; done) | rfl) rfl (K _ _ dX6_cached_44)
set_option maxRecDepth 100000 in
set_option maxHeartbeats 4000000 in
theorem c_X6_set_no (l : Launch) (Z : wZ) (S : St) (h : Hl) (x : Int32) (w : Bool) (hx : rIsC S x = false) : Ci l yX6_set cX6_set 3 .int 2 43 Z [.ref (zA Z (7) (0) (0)), .int (x), .int (bI (w))] S h (0) (rCd S 1) (h) := by
  refine Ci.of rfl rfl (Nat.le_of_ble_eq_true rfl) (fun p e s mi args below meth c A0 Q X K => ?_)
  refine j_at rfl rfl (Ls3 := [(0, .ref (zA Z (7) (0) (0))), (1, .int (x)), (2, .int (bI (w)))]) rfl rfl ?_
  refine j_aload_n X dX6_set_0 rfl rfl (q := 0) rfl ?_
  refine j_aload_n X dX6_set_1 rfl rfl (q := 0) rfl ?_
  refine j_iload_n X dX6_set_2 rfl rfl (q := 1) rfl ?_
  refine j_calli X (c_X6_isCore l Z S h (x)) (wm_ref (by decide)) ((fun _ => rfl) _) rfl lk_RX6_94 mi_X6_isCore ms_X6_isCore ini_RX6 mc_X6_isCore md_X6_isCore ⟨Nat.le_of_ble_eq_true rfl, Nat.le_of_ble_eq_true rfl⟩ ⟨Nat.le_of_ble_eq_true rfl, Nat.le_of_ble_eq_true rfl⟩ rfl (Nat.le_of_ble_eq_true rfl) (as := [.int (x)]) (rest := [.ref (zA Z (7) (0) (0))]) rfl dX6_set_3 rfl ?_
  refine j_if_eq_t X (tgt := 13) dX6_set_6 (by decide) (by rw [show rIn x 0 (S 7 0 1 0 - 1) = false from hx]; decide) ?_
  refine j_iconst X dX6_set_13 rfl (v := 1) (by decide) ?_
  refine jp_model X 9 (by decide) lk_RX6_41 rfl rfl rfl (vp_nar_int _) rfl rfl dX6_set_14 rfl ?_
  refine j_name (fun S1 eS1 => ?_)
  refine j_aload_n X dX6_set_17 rfl rfl (q := 0) rfl ?_
  refine jg_model X 9 (by decide) lk_RX6_41 rfl rfl dX6_set_18 rfl ?_
  refine j_topeq (y := (1)) (by rw [eS1, setF_at, if_pos ⟨rfl, rfl, rfl, rfl⟩]) ?_
  refine j_if_eq_f X dX6_set_21 rfl (tgt := 28) (by decide) (by decide) ?_
  refine j_iconst X dX6_set_24 rfl (v := 0) (by decide) ?_
  refine j_goto X (tgt := 44) dX6_set_25 (by decide) ?_
  exact j_ret (by subst eS1; first | with_reducible rfl | (simp []; done) | (simp_all []; done) | rfl) (by subst eS1; first | with_reducible rfl | (simp []; done) | (simp_all []; done) | rfl) rfl (K _ _ dX6_set_44)
set_option maxRecDepth 100000 in
set_option maxHeartbeats 4000000 in
theorem c_X6_set (l : Launch) (Z : wZ) (S : St) (h : Hl) (a : Nat) (ha : a < 4) (hx : rIsC S (nI a) = true) (w : Bool) : Ci l yX6_set cX6_set 3 .int 2 43 Z [.ref (zA Z (7) (0) (0)), .int (nI (a)), .int (bI (w))] S h (rOf (rCd S 0) a (if w = true then 8 else 7)) (rCd S 0) (h) := by
  refine Ci.of rfl rfl (Nat.le_of_ble_eq_true rfl) (fun p e s mi args below meth c A0 Q X K => ?_)
  refine j_at rfl rfl (Ls3 := [(0, .ref (zA Z (7) (0) (0))), (1, .int (nI (a))), (2, .int (bI (w)))]) rfl rfl ?_
  refine j_aload_n X dX6_set_0 rfl rfl (q := 0) rfl ?_
  refine j_aload_n X dX6_set_1 rfl rfl (q := 0) rfl ?_
  refine j_iload_n X dX6_set_2 rfl rfl (q := 1) rfl ?_
  refine j_calli X (c_X6_isCore l Z S h (nI (a))) (wm_ref (by decide)) ((fun _ => rfl) _) rfl lk_RX6_94 mi_X6_isCore ms_X6_isCore ini_RX6 mc_X6_isCore md_X6_isCore ⟨Nat.le_of_ble_eq_true rfl, Nat.le_of_ble_eq_true rfl⟩ ⟨Nat.le_of_ble_eq_true rfl, Nat.le_of_ble_eq_true rfl⟩ rfl (Nat.le_of_ble_eq_true rfl) (as := [.int (nI (a))]) (rest := [.ref (zA Z (7) (0) (0))]) rfl dX6_set_3 rfl ?_
  refine j_if_eq_f X dX6_set_6 rfl (tgt := 13) (by decide) (by rw [show rIn (nI a) 0 (S 7 0 1 0 - 1) = true from hx]; decide) ?_
  refine j_iconst X dX6_set_9 rfl (v := 0) (by decide) ?_
  refine j_goto X (tgt := 14) dX6_set_10 (by decide) ?_
  refine jp_model X 9 (by decide) lk_RX6_41 rfl rfl rfl (vp_nar_int _) rfl rfl dX6_set_14 rfl ?_
  refine j_name (fun S1 eS1 => ?_)
  refine j_aload_n X dX6_set_17 rfl rfl (q := 0) rfl ?_
  refine jg_model X 9 (by decide) lk_RX6_41 rfl rfl dX6_set_18 rfl ?_
  refine j_topeq (y := (0)) (by rw [eS1, setF_at, if_pos ⟨rfl, rfl, rfl, rfl⟩]) ?_
  refine j_if_eq_t X (tgt := 28) dX6_set_21 (by decide) (by decide) ?_
  refine j_aload_n X dX6_set_28 rfl rfl (q := 0) rfl ?_
  refine j_iload_n X dX6_set_29 rfl rfl (q := 1) rfl ?_
  refine j_iload_n X dX6_set_30 rfl rfl (q := 2) rfl ?_
  refine j_ifb_eq X dX6_set_31 rfl (tgt := 39) (by decide) (fun c_31 => ?_) (fun c_31 => ?_)
  · refine j_bipush X dX6_set_39 rfl (v := 7) (by decide) ?_
    refine j_calli X (c_X6_of l Z S1 h a 7 (by omega)) (wm_ref (by decide)) ((fun _ => rfl) _) rfl lk_RX6_97 mi_X6_of ms_X6_of ini_RX6 mc_X6_of md_X6_of ⟨Nat.le_of_ble_eq_true rfl, Nat.le_of_ble_eq_true rfl⟩ ⟨Nat.le_of_ble_eq_true rfl, Nat.le_of_ble_eq_true rfl⟩ rfl (Nat.le_of_ble_eq_true rfl) (as := [.int (nI (a)), .int (7)]) (rest := []) rfl dX6_set_41 rfl ?_
    exact j_ret (by subst eS1; first | with_reducible rfl | (simp [c_31]; done) | (simp_all []; done) | rfl) (by subst eS1; first | with_reducible rfl | (simp [c_31]; done) | (simp_all []; done) | rfl) rfl (K _ _ dX6_set_44)
  · refine j_bipush X dX6_set_34 rfl (v := 8) (by decide) ?_
    refine j_goto X (tgt := 41) dX6_set_36 (by decide) ?_
    refine j_calli X (c_X6_of l Z S1 h a 8 (by omega)) (wm_ref (by decide)) ((fun _ => rfl) _) rfl lk_RX6_97 mi_X6_of ms_X6_of ini_RX6 mc_X6_of md_X6_of ⟨Nat.le_of_ble_eq_true rfl, Nat.le_of_ble_eq_true rfl⟩ ⟨Nat.le_of_ble_eq_true rfl, Nat.le_of_ble_eq_true rfl⟩ rfl (Nat.le_of_ble_eq_true rfl) (as := [.int (nI (a)), .int (8)]) (rest := []) rfl dX6_set_41 rfl ?_
    exact j_ret (by subst eS1; first | with_reducible rfl | (simp [c_31]; done) | (simp_all []; done) | rfl) (by subst eS1; first | with_reducible rfl | (simp [c_31]; done) | (simp_all []; done) | rfl) rfl (K _ _ dX6_set_44)
set_option maxRecDepth 100000 in
set_option maxHeartbeats 4000000 in
theorem L_rmem (l : Launch) (Z : wZ) (h : Hl) (S : St) (j : Nat) (hj : j < 8) (w : Bool) (cc : Nat) (hc4 : cc ≤ 4) (hI : S 7 0 1 0 = nI cc) {p : Program} {e : Env} {s : State} {mi : MethodId} {args : Array Value} {below : List Frame} {meth : Method} {c : Code} {A0 : Nat → Prop} {Q : State → Prop} (X : JX p s mi args meth c cX6_memoryOf 6 yX6_memoryOf.cls Z A0) : ∀ (n k : Nat) (n1 : Int32), k + n = cc → J p l e { frames := 2, cells := 0, slots := 0, locals := 43 } s mi args below meth c 6 Z A0 0 0 Q (S) h [(3, .int ((lp (rMemF S j w) n k n1)))] 89 [] → J p l e { frames := 2, cells := 0, slots := 0, locals := 43 } s mi args below meth c 6 Z A0 0 0 Q S h [(4, .int (nI (k))), (0, .ref (zA Z (7) (0) (0))), (1, .int (nI (j))), (2, .int (bI (w))), (3, .int (n1))] 12 [] := by
  intro n
  induction n with
  | zero =>
    intro k n1 hkn hk
    have hkN : cc = k := by omega
    subst hkN
    refine j_iload X dX6_memoryOf_12 rfl (q := 0) rfl ?_
    refine j_aload_n X dX6_memoryOf_14 rfl rfl (q := 1) rfl ?_
    refine jg_model X 0 (by decide) lk_RX6_7 rfl rfl dX6_memoryOf_15 rfl ?_
    refine j_iconst X dX6_memoryOf_18 rfl (v := 0) (by decide) ?_
    refine j_ialdN X (k := 0) (wm_ref (by decide)) ((fun _ => rfl) _) (by decide) (by decide) dX6_memoryOf_19 rfl ?_
    refine j_topeq (y := (nI (cc))) (hI) ?_
    refine j_icmp_ge_t X (tgt := 89) dX6_memoryOf_20 (by decide) (nI_le (Nat.le_refl _) (by omega)) ?_
    refine j_sub [4] (Ls2 := [(3, .int (n1))]) rfl ?_
    exact hk
  | succ n ih =>
    intro k n1 hkn hk
    have hlt : k < cc := by omega
    refine j_iload X dX6_memoryOf_12 rfl (q := 0) rfl ?_
    refine j_aload_n X dX6_memoryOf_14 rfl rfl (q := 1) rfl ?_
    refine jg_model X 0 (by decide) lk_RX6_7 rfl rfl dX6_memoryOf_15 rfl ?_
    refine j_iconst X dX6_memoryOf_18 rfl (v := 0) (by decide) ?_
    refine j_ialdN X (k := 0) (wm_ref (by decide)) ((fun _ => rfl) _) (by decide) (by decide) dX6_memoryOf_19 rfl ?_
    refine j_topeq (y := (nI (cc))) (hI) ?_
    refine j_icmp_ge_f X dX6_memoryOf_20 rfl (tgt := 89) (by decide) (nI_ge hlt (by omega)) ?_
    refine j_aload_n X dX6_memoryOf_23 rfl rfl (q := 1) rfl ?_
    refine j_iload X dX6_memoryOf_24 rfl (q := 0) rfl ?_
    refine j_bipush X dX6_memoryOf_26 rfl (v := 20) (by decide) ?_
    refine j_iload_n X dX6_memoryOf_28 rfl rfl (q := 2) rfl ?_
    refine j_iadd X dX6_memoryOf_29 rfl ?_
    refine j_topeq (y := nI (20 + j)) (nI_add 20 j) ?_
    refine j_calli X (c_X6_of l Z S h k (20 + j) (by omega)) (wm_ref (by decide)) ((fun _ => rfl) _) rfl lk_RX6_97 mi_X6_of ms_X6_of ini_RX6 mc_X6_of md_X6_of ⟨Nat.le_of_ble_eq_true rfl, Nat.le_of_ble_eq_true rfl⟩ ⟨Nat.le_of_ble_eq_true rfl, Nat.le_of_ble_eq_true rfl⟩ rfl (Nat.le_of_ble_eq_true rfl) (as := [.int (nI (k)), .int (nI (20 + j))]) (rest := []) rfl dX6_memoryOf_30 rfl ?_
    refine j_iconst X dX6_memoryOf_33 rfl (v := 2) (by decide) ?_
    refine j_icmp_ne X dX6_memoryOf_34 rfl (tgt := 56) (by decide) (fun c_34 => ?_) (fun c_34 => ?_)
    · refine j_iconst X dX6_memoryOf_56 rfl (v := 0) (by decide) ?_
      refine j_istore X dX6_memoryOf_57 rfl (by decide) (Ls2 := [(5, .int (0)), (4, .int (nI (k))), (0, .ref (zA Z (7) (0) (0))), (1, .int (nI (j))), (2, .int (bI (w))), (3, .int (n1))]) rfl ?_
      refine j_iload_n X dX6_memoryOf_59 rfl rfl (q := 4) rfl ?_
      refine j_ifb_eq X dX6_memoryOf_60 rfl (tgt := 81) (by decide) (fun c_60 => ?_) (fun c_60 => ?_)
      · refine j_iload_n X dX6_memoryOf_81 rfl rfl (q := 5) rfl ?_
        refine j_istore_n X dX6_memoryOf_82 rfl rfl (by decide) (Ls2 := [(3, .int (n1)), (5, .int (0)), (4, .int (nI (k))), (0, .ref (zA Z (7) (0) (0))), (1, .int (nI (j))), (2, .int (bI (w)))]) rfl ?_
        refine j_iinc X dX6_memoryOf_83 rfl (q := 2) rfl (v := (nI (k + 1))) (nI_1 _) (by decide) (Ls2 := [(4, .int (nI (k + 1))), (3, .int (n1)), (5, .int (0)), (0, .ref (zA Z (7) (0) (0))), (1, .int (nI (j))), (2, .int (bI (w)))]) rfl ?_
        refine j_goto X (tgt := 12) dX6_memoryOf_86 (by decide) ?_
        refine j_sub [0, 3, 4, 5, 1] (Ls2 := [(4, .int (nI (k + 1))), (0, .ref (zA Z (7) (0) (0))), (1, .int (nI (j))), (2, .int (bI (w))), (3, .int (n1))]) rfl ?_
        have eB : (rMemF S j w) k n1 = (n1) := by first | with_reducible rfl | (simp [rMemF, c_34, c_60]; done) | (simp_all [rMemF]; done) | rfl
        have eL : lp (rMemF S j w) (n + 1) k n1 = lp (rMemF S j w) n (k + 1) (n1) := congrArg (lp (rMemF S j w) n (k + 1)) eB
        rw [eL] at hk
        exact ih (k + 1) ((n1)) (by omega) hk
      · refine j_iload X dX6_memoryOf_63 rfl (q := 0) rfl ?_
        refine j_if_eq_t X (tgt := 81) dX6_memoryOf_65 (by decide) (by decide) ?_
        refine j_iload_n X dX6_memoryOf_81 rfl rfl (q := 5) rfl ?_
        refine j_istore_n X dX6_memoryOf_82 rfl rfl (by decide) (Ls2 := [(3, .int (n1)), (5, .int (0)), (4, .int (nI (k))), (0, .ref (zA Z (7) (0) (0))), (1, .int (nI (j))), (2, .int (bI (w)))]) rfl ?_
        refine j_iinc X dX6_memoryOf_83 rfl (q := 2) rfl (v := (nI (k + 1))) (nI_1 _) (by decide) (Ls2 := [(4, .int (nI (k + 1))), (3, .int (n1)), (5, .int (0)), (0, .ref (zA Z (7) (0) (0))), (1, .int (nI (j))), (2, .int (bI (w)))]) rfl ?_
        refine j_goto X (tgt := 12) dX6_memoryOf_86 (by decide) ?_
        refine j_sub [0, 3, 4, 5, 1] (Ls2 := [(4, .int (nI (k + 1))), (0, .ref (zA Z (7) (0) (0))), (1, .int (nI (j))), (2, .int (bI (w))), (3, .int (n1))]) rfl ?_
        have eB : (rMemF S j w) k n1 = (n1) := by first | with_reducible rfl | (simp [rMemF, c_34, c_60]; done) | (simp_all [rMemF]; done) | rfl
        have eL : lp (rMemF S j w) (n + 1) k n1 = lp (rMemF S j w) n (k + 1) (n1) := congrArg (lp (rMemF S j w) n (k + 1)) eB
        rw [eL] at hk
        exact ih (k + 1) ((n1)) (by omega) hk
    · refine j_aload_n X dX6_memoryOf_37 rfl rfl (q := 1) rfl ?_
      refine j_iload X dX6_memoryOf_38 rfl (q := 0) rfl ?_
      refine j_bipush X dX6_memoryOf_40 rfl (v := 8) (by decide) ?_
      refine j_calli X (c_X6_of l Z S h k 8 (by omega)) (wm_ref (by decide)) ((fun _ => rfl) _) rfl lk_RX6_97 mi_X6_of ms_X6_of ini_RX6 mc_X6_of md_X6_of ⟨Nat.le_of_ble_eq_true rfl, Nat.le_of_ble_eq_true rfl⟩ ⟨Nat.le_of_ble_eq_true rfl, Nat.le_of_ble_eq_true rfl⟩ rfl (Nat.le_of_ble_eq_true rfl) (as := [.int (nI (k)), .int (8)]) (rest := []) rfl dX6_memoryOf_42 rfl ?_
      refine j_iload_n X dX6_memoryOf_45 rfl rfl (q := 2) rfl ?_
      refine j_callSi X (c_X6_hasLine l Z S h (rOf S k 8) (nI (j))) lk_RX6_110 mt_X6_hasLine ini_RX6 mc_X6_hasLine md_X6_hasLine ⟨Nat.le_of_ble_eq_true rfl, Nat.le_of_ble_eq_true rfl⟩ ⟨Nat.le_of_ble_eq_true rfl, Nat.le_of_ble_eq_true rfl⟩ rfl (Nat.le_of_ble_eq_true rfl) (as := [.int (rOf S k 8), .int (nI (j))]) (rest := []) rfl dX6_memoryOf_46 rfl ?_
      refine j_ifb_ne X dX6_memoryOf_49 rfl (tgt := 56) (by decide) (fun c_49 => ?_) (fun c_49 => ?_)
      · refine j_iconst X dX6_memoryOf_56 rfl (v := 0) (by decide) ?_
        refine j_istore X dX6_memoryOf_57 rfl (by decide) (Ls2 := [(5, .int (0)), (4, .int (nI (k))), (0, .ref (zA Z (7) (0) (0))), (1, .int (nI (j))), (2, .int (bI (w))), (3, .int (n1))]) rfl ?_
        refine j_iload_n X dX6_memoryOf_59 rfl rfl (q := 4) rfl ?_
        refine j_ifb_eq X dX6_memoryOf_60 rfl (tgt := 81) (by decide) (fun c_60_1 => ?_) (fun c_60_1 => ?_)
        · refine j_iload_n X dX6_memoryOf_81 rfl rfl (q := 5) rfl ?_
          refine j_istore_n X dX6_memoryOf_82 rfl rfl (by decide) (Ls2 := [(3, .int (n1)), (5, .int (0)), (4, .int (nI (k))), (0, .ref (zA Z (7) (0) (0))), (1, .int (nI (j))), (2, .int (bI (w)))]) rfl ?_
          refine j_iinc X dX6_memoryOf_83 rfl (q := 2) rfl (v := (nI (k + 1))) (nI_1 _) (by decide) (Ls2 := [(4, .int (nI (k + 1))), (3, .int (n1)), (5, .int (0)), (0, .ref (zA Z (7) (0) (0))), (1, .int (nI (j))), (2, .int (bI (w)))]) rfl ?_
          refine j_goto X (tgt := 12) dX6_memoryOf_86 (by decide) ?_
          refine j_sub [0, 3, 4, 5, 1] (Ls2 := [(4, .int (nI (k + 1))), (0, .ref (zA Z (7) (0) (0))), (1, .int (nI (j))), (2, .int (bI (w))), (3, .int (n1))]) rfl ?_
          have eB : (rMemF S j w) k n1 = (n1) := by first | with_reducible rfl | (simp [rMemF, c_34, c_49, c_60_1]; done) | (simp_all [rMemF]; done) | rfl
          have eL : lp (rMemF S j w) (n + 1) k n1 = lp (rMemF S j w) n (k + 1) (n1) := congrArg (lp (rMemF S j w) n (k + 1)) eB
          rw [eL] at hk
          exact ih (k + 1) ((n1)) (by omega) hk
        · refine j_iload X dX6_memoryOf_63 rfl (q := 0) rfl ?_
          refine j_if_eq_t X (tgt := 81) dX6_memoryOf_65 (by decide) (by decide) ?_
          refine j_iload_n X dX6_memoryOf_81 rfl rfl (q := 5) rfl ?_
          refine j_istore_n X dX6_memoryOf_82 rfl rfl (by decide) (Ls2 := [(3, .int (n1)), (5, .int (0)), (4, .int (nI (k))), (0, .ref (zA Z (7) (0) (0))), (1, .int (nI (j))), (2, .int (bI (w)))]) rfl ?_
          refine j_iinc X dX6_memoryOf_83 rfl (q := 2) rfl (v := (nI (k + 1))) (nI_1 _) (by decide) (Ls2 := [(4, .int (nI (k + 1))), (3, .int (n1)), (5, .int (0)), (0, .ref (zA Z (7) (0) (0))), (1, .int (nI (j))), (2, .int (bI (w)))]) rfl ?_
          refine j_goto X (tgt := 12) dX6_memoryOf_86 (by decide) ?_
          refine j_sub [0, 3, 4, 5, 1] (Ls2 := [(4, .int (nI (k + 1))), (0, .ref (zA Z (7) (0) (0))), (1, .int (nI (j))), (2, .int (bI (w))), (3, .int (n1))]) rfl ?_
          have eB : (rMemF S j w) k n1 = (n1) := by first | with_reducible rfl | (simp [rMemF, c_34, c_49, c_60_1]; done) | (simp_all [rMemF]; done) | rfl
          have eL : lp (rMemF S j w) (n + 1) k n1 = lp (rMemF S j w) n (k + 1) (n1) := congrArg (lp (rMemF S j w) n (k + 1)) eB
          rw [eL] at hk
          exact ih (k + 1) ((n1)) (by omega) hk
      · refine j_iconst X dX6_memoryOf_52 rfl (v := 1) (by decide) ?_
        refine j_goto X (tgt := 57) dX6_memoryOf_53 (by decide) ?_
        refine j_istore X dX6_memoryOf_57 rfl (by decide) (Ls2 := [(5, .int (1)), (4, .int (nI (k))), (0, .ref (zA Z (7) (0) (0))), (1, .int (nI (j))), (2, .int (bI (w))), (3, .int (n1))]) rfl ?_
        refine j_iload_n X dX6_memoryOf_59 rfl rfl (q := 4) rfl ?_
        refine j_ifb_eq X dX6_memoryOf_60 rfl (tgt := 81) (by decide) (fun c_60_2 => ?_) (fun c_60_2 => ?_)
        · refine j_iload_n X dX6_memoryOf_81 rfl rfl (q := 5) rfl ?_
          refine j_istore_n X dX6_memoryOf_82 rfl rfl (by decide) (Ls2 := [(3, .int (n1)), (5, .int (1)), (4, .int (nI (k))), (0, .ref (zA Z (7) (0) (0))), (1, .int (nI (j))), (2, .int (bI (w)))]) rfl ?_
          refine j_iinc X dX6_memoryOf_83 rfl (q := 2) rfl (v := (nI (k + 1))) (nI_1 _) (by decide) (Ls2 := [(4, .int (nI (k + 1))), (3, .int (n1)), (5, .int (1)), (0, .ref (zA Z (7) (0) (0))), (1, .int (nI (j))), (2, .int (bI (w)))]) rfl ?_
          refine j_goto X (tgt := 12) dX6_memoryOf_86 (by decide) ?_
          refine j_sub [0, 3, 4, 5, 1] (Ls2 := [(4, .int (nI (k + 1))), (0, .ref (zA Z (7) (0) (0))), (1, .int (nI (j))), (2, .int (bI (w))), (3, .int (n1))]) rfl ?_
          have eB : (rMemF S j w) k n1 = (n1) := by first | with_reducible rfl | (simp [rMemF, c_34, c_49, c_60_2]; done) | (simp_all [rMemF]; done) | rfl
          have eL : lp (rMemF S j w) (n + 1) k n1 = lp (rMemF S j w) n (k + 1) (n1) := congrArg (lp (rMemF S j w) n (k + 1)) eB
          rw [eL] at hk
          exact ih (k + 1) ((n1)) (by omega) hk
        · refine j_iload X dX6_memoryOf_63 rfl (q := 0) rfl ?_
          refine j_if_eq_f X dX6_memoryOf_65 rfl (tgt := 81) (by decide) (by decide) ?_
          refine j_aload_n X dX6_memoryOf_68 rfl rfl (q := 2) rfl ?_
          refine j_iload X dX6_memoryOf_69 rfl (q := 1) rfl ?_
          refine j_bipush X dX6_memoryOf_71 rfl (v := 28) (by decide) ?_
          refine j_iload_n X dX6_memoryOf_73 rfl rfl (q := 3) rfl ?_
          refine j_iadd X dX6_memoryOf_74 rfl ?_
          refine j_topeq (y := nI (28 + j)) (nI_add 28 j) ?_
          refine j_calli X (c_X6_of l Z S h k (28 + j) (by omega)) (wm_ref (by decide)) ((fun _ => rfl) _) rfl lk_RX6_97 mi_X6_of ms_X6_of ini_RX6 mc_X6_of md_X6_of ⟨Nat.le_of_ble_eq_true rfl, Nat.le_of_ble_eq_true rfl⟩ ⟨Nat.le_of_ble_eq_true rfl, Nat.le_of_ble_eq_true rfl⟩ rfl (Nat.le_of_ble_eq_true rfl) (as := [.int (nI (k)), .int (nI (28 + j))]) (rest := []) rfl dX6_memoryOf_75 rfl ?_
          refine j_goto X (tgt := 82) dX6_memoryOf_78 (by decide) ?_
          refine j_istore_n X dX6_memoryOf_82 rfl rfl (by decide) (Ls2 := [(3, .int (rOf S k (28 + j))), (5, .int (1)), (4, .int (nI (k))), (0, .ref (zA Z (7) (0) (0))), (1, .int (nI (j))), (2, .int (bI (w)))]) rfl ?_
          refine j_iinc X dX6_memoryOf_83 rfl (q := 2) rfl (v := (nI (k + 1))) (nI_1 _) (by decide) (Ls2 := [(4, .int (nI (k + 1))), (3, .int (rOf S k (28 + j))), (5, .int (1)), (0, .ref (zA Z (7) (0) (0))), (1, .int (nI (j))), (2, .int (bI (w)))]) rfl ?_
          refine j_goto X (tgt := 12) dX6_memoryOf_86 (by decide) ?_
          refine j_sub [0, 3, 4, 5, 1] (Ls2 := [(4, .int (nI (k + 1))), (0, .ref (zA Z (7) (0) (0))), (1, .int (nI (j))), (2, .int (bI (w))), (3, .int (rOf S k (28 + j)))]) rfl ?_
          have eB : (rMemF S j w) k n1 = (rOf S k (28 + j)) := by first | with_reducible rfl | (simp [rMemF, c_34, c_49, c_60_2]; done) | (simp_all [rMemF]; done) | rfl
          have eL : lp (rMemF S j w) (n + 1) k n1 = lp (rMemF S j w) n (k + 1) (rOf S k (28 + j)) := congrArg (lp (rMemF S j w) n (k + 1)) eB
          rw [eL] at hk
          exact ih (k + 1) ((rOf S k (28 + j))) (by omega) hk
set_option maxRecDepth 100000 in
set_option maxHeartbeats 4000000 in
theorem c_X6_memoryOf (l : Launch) (Z : wZ) (S : St) (h : Hl) (j : Nat) (hj : j < 8) (w : Bool) (hcc : okI (S 7 0 1 0) 4) : Ci l yX6_memoryOf cX6_memoryOf 6 .int 2 43 Z [.ref (zA Z (7) (0) (0)), .int (nI (j)), .int (bI (w))] S h (rMem S j w) (S) (h) := by
  have hc4 : rCC S ≤ 4 := hcc.2
  refine Ci.of rfl rfl (Nat.le_of_ble_eq_true rfl) (fun p e s mi args below meth c A0 Q X K => ?_)
  refine j_at rfl rfl (Ls3 := [(0, .ref (zA Z (7) (0) (0))), (1, .int (nI (j))), (2, .int (bI (w)))]) rfl rfl ?_
  refine j_aload_n X dX6_memoryOf_0 rfl rfl (q := 0) rfl ?_
  refine jg_model X 0 (by decide) lk_RX6_7 rfl rfl dX6_memoryOf_1 rfl ?_
  refine j_iconst X dX6_memoryOf_4 rfl (v := 5) (by decide) ?_
  refine j_iload_n X dX6_memoryOf_5 rfl rfl (q := 1) rfl ?_
  refine j_iadd X dX6_memoryOf_6 rfl ?_
  refine j_topeq (y := nI (5 + j)) (nI_add 5 j) ?_
  refine j_ialdN X (k := 5 + j) (wm_ref (by decide)) ((fun _ => rfl) _) (by omega) (by decide) dX6_memoryOf_7 rfl ?_
  refine j_istore_n X dX6_memoryOf_8 rfl rfl (by decide) (Ls2 := [(3, .int (S 7 0 1 (5 + j))), (0, .ref (zA Z (7) (0) (0))), (1, .int (nI (j))), (2, .int (bI (w)))]) rfl ?_
  refine j_iconst X dX6_memoryOf_9 rfl (v := 0) (by decide) ?_
  refine j_istore X dX6_memoryOf_10 rfl (by decide) (Ls2 := [(4, .int (0)), (3, .int (S 7 0 1 (5 + j))), (0, .ref (zA Z (7) (0) (0))), (1, .int (nI (j))), (2, .int (bI (w)))]) rfl ?_
  refine j_sub [0, 2, 3, 4, 1] (Ls2 := [(4, .int (0)), (0, .ref (zA Z (7) (0) (0))), (1, .int (nI (j))), (2, .int (bI (w))), (3, .int (S 7 0 1 (5 + j)))]) rfl ?_
  refine L_rmem l Z h S j hj w (rCC S) hcc.2 hcc.1 X (rCC S) 0 ((S 7 0 1 (5 + j))) (by omega) ?_
  refine j_iload_n X dX6_memoryOf_89 rfl rfl (q := 0) rfl ?_
  exact j_ret (by first | with_reducible rfl | (simp [rMem]; done) | (simp_all [rMem]; done) | rfl) (by first | with_reducible rfl | (simp [rMem]; done) | (simp_all [rMem]; done) | rfl) rfl (K _ _ dX6_memoryOf_90)
set_option maxRecDepth 100000 in
set_option maxHeartbeats 4000000 in
theorem c_X6_memory (l : Launch) (Z : wZ) (S : St) (h : Hl) (j : Nat) (hj : j < 8) (hl : rIn (nI j) 0 7 = true) (w : Bool) (hcc : okI (S 7 0 1 0) 4) : Ci l yX6_memory cX6_memory 3 .int 3 68 Z [.ref (zA Z (7) (0) (0)), .int (nI (j)), .int (bI (w))] S h (rMem (rCd S 0) j w) (rCd S 0) (h) := by
  refine Ci.of rfl rfl (Nat.le_of_ble_eq_true rfl) (fun p e s mi args below meth c A0 Q X K => ?_)
  refine j_at rfl rfl (Ls3 := [(0, .ref (zA Z (7) (0) (0))), (1, .int (nI (j))), (2, .int (bI (w)))]) rfl rfl ?_
  refine j_aload_n X dX6_memory_0 rfl rfl (q := 0) rfl ?_
  refine j_iload_n X dX6_memory_1 rfl rfl (q := 1) rfl ?_
  refine j_callSi X (c_X6_isLine l Z S h (nI (j))) lk_RX6_180 mt_X6_isLine ini_RX6 mc_X6_isLine md_X6_isLine ⟨Nat.le_of_ble_eq_true rfl, Nat.le_of_ble_eq_true rfl⟩ ⟨Nat.le_of_ble_eq_true rfl, Nat.le_of_ble_eq_true rfl⟩ rfl (Nat.le_of_ble_eq_true rfl) (as := [.int (nI (j))]) (rest := [.ref (zA Z (7) (0) (0))]) rfl dX6_memory_2 rfl ?_
  refine j_if_eq_f X dX6_memory_5 rfl (tgt := 12) (by decide) (by rw [show rIn (nI j) 0 7 = true from hl]; decide) ?_
  refine j_iconst X dX6_memory_8 rfl (v := 0) (by decide) ?_
  refine j_goto X (tgt := 13) dX6_memory_9 (by decide) ?_
  refine jp_model X 9 (by decide) lk_RX6_41 rfl rfl rfl (vp_nar_int _) rfl rfl dX6_memory_13 rfl ?_
  refine j_name (fun S1 eS1 => ?_)
  refine j_aload_n X dX6_memory_16 rfl rfl (q := 0) rfl ?_
  refine jg_model X 9 (by decide) lk_RX6_41 rfl rfl dX6_memory_17 rfl ?_
  refine j_topeq (y := (0)) (by rw [eS1, setF_at, if_pos ⟨rfl, rfl, rfl, rfl⟩]) ?_
  refine j_if_eq_t X (tgt := 27) dX6_memory_20 (by decide) (by decide) ?_
  refine j_aload_n X dX6_memory_27 rfl rfl (q := 0) rfl ?_
  refine j_iload_n X dX6_memory_28 rfl rfl (q := 1) rfl ?_
  refine j_iload_n X dX6_memory_29 rfl rfl (q := 2) rfl ?_
  refine j_calli X (c_X6_memoryOf l Z S1 h j (by omega) w (by subst eS1; simp [rKeep_m, rCd_m, setO_M, rCC, rQ] <;> exact hcc)) (wm_ref (by decide)) ((fun _ => rfl) _) rfl lk_RX6_183 mi_X6_memoryOf ms_X6_memoryOf ini_RX6 mc_X6_memoryOf md_X6_memoryOf ⟨Nat.le_of_ble_eq_true rfl, Nat.le_of_ble_eq_true rfl⟩ ⟨Nat.le_of_ble_eq_true rfl, Nat.le_of_ble_eq_true rfl⟩ rfl (Nat.le_of_ble_eq_true rfl) (as := [.int (nI (j)), .int (bI (w))]) (rest := []) rfl dX6_memory_30 rfl ?_
  exact j_ret (by subst eS1; first | with_reducible rfl | (simp []; done) | (simp_all []; done) | rfl) (by subst eS1; first | with_reducible rfl | (simp []; done) | (simp_all []; done) | rfl) rfl (K _ _ dX6_memory_33)
set_option maxRecDepth 100000 in
set_option maxHeartbeats 4000000 in
theorem c_X6_memory_nl (l : Launch) (Z : wZ) (S : St) (h : Hl) (y : Int32) (w : Bool) (hl : rIn y 0 7 = false) : Ci l yX6_memory cX6_memory 3 .int 3 68 Z [.ref (zA Z (7) (0) (0)), .int (y), .int (bI (w))] S h (0) (rCd S 1) (h) := by
  refine Ci.of rfl rfl (Nat.le_of_ble_eq_true rfl) (fun p e s mi args below meth c A0 Q X K => ?_)
  refine j_at rfl rfl (Ls3 := [(0, .ref (zA Z (7) (0) (0))), (1, .int (y)), (2, .int (bI (w)))]) rfl rfl ?_
  refine j_aload_n X dX6_memory_0 rfl rfl (q := 0) rfl ?_
  refine j_iload_n X dX6_memory_1 rfl rfl (q := 1) rfl ?_
  refine j_callSi X (c_X6_isLine l Z S h (y)) lk_RX6_180 mt_X6_isLine ini_RX6 mc_X6_isLine md_X6_isLine ⟨Nat.le_of_ble_eq_true rfl, Nat.le_of_ble_eq_true rfl⟩ ⟨Nat.le_of_ble_eq_true rfl, Nat.le_of_ble_eq_true rfl⟩ rfl (Nat.le_of_ble_eq_true rfl) (as := [.int (y)]) (rest := [.ref (zA Z (7) (0) (0))]) rfl dX6_memory_2 rfl ?_
  refine j_if_eq_t X (tgt := 12) dX6_memory_5 (by decide) (by rw [hl]; decide) ?_
  refine j_iconst X dX6_memory_12 rfl (v := 1) (by decide) ?_
  refine jp_model X 9 (by decide) lk_RX6_41 rfl rfl rfl (vp_nar_int _) rfl rfl dX6_memory_13 rfl ?_
  refine j_name (fun S1 eS1 => ?_)
  refine j_aload_n X dX6_memory_16 rfl rfl (q := 0) rfl ?_
  refine jg_model X 9 (by decide) lk_RX6_41 rfl rfl dX6_memory_17 rfl ?_
  refine j_topeq (y := (1)) (by rw [eS1, setF_at, if_pos ⟨rfl, rfl, rfl, rfl⟩]) ?_
  refine j_if_eq_f X dX6_memory_20 rfl (tgt := 27) (by decide) (by decide) ?_
  refine j_iconst X dX6_memory_23 rfl (v := 0) (by decide) ?_
  refine j_goto X (tgt := 33) dX6_memory_24 (by decide) ?_
  exact j_ret (by subst eS1; first | with_reducible rfl | (simp []; done) | (simp_all []; done) | rfl) (by subst eS1; first | with_reducible rfl | (simp []; done) | (simp_all []; done) | rfl) rfl (K _ _ dX6_memory_33)
set_option maxRecDepth 100000 in
set_option maxHeartbeats 4000000 in
theorem c_X6_coreOf_0 (l : Launch) (Z : wZ) (S : St) (h : Hl) (a : Nat) (ha : a < 4) : Ci l yX6_coreOf cX6_coreOf 3 .int 2 43 Z [.ref (zA Z (7) (0) (0)), .int (nI (a)), .int (nI (0))] S h (rCoreO S a 0) (S) (h) := by
  refine Ci.of rfl rfl (Nat.le_of_ble_eq_true rfl) (fun p e s mi args below meth c A0 Q X K => ?_)
  refine j_at rfl rfl (Ls3 := [(0, .ref (zA Z (7) (0) (0))), (1, .int (nI (a))), (2, .int (nI (0)))]) rfl rfl ?_
  refine j_iload_n X dX6_coreOf_0 rfl rfl (q := 2) rfl ?_
  refine j_tableOut X (tgt := 65) dX6_coreOf_1 (by decide) (by decide) ?_
  refine j_aload_n X dX6_coreOf_65 rfl rfl (q := 0) rfl ?_
  refine j_iload_n X dX6_coreOf_66 rfl rfl (q := 1) rfl ?_
  refine j_iload_n X dX6_coreOf_67 rfl rfl (q := 2) rfl ?_
  refine j_calli X (c_X6_of l Z S h a 0 (by omega)) (wm_ref (by decide)) ((fun _ => rfl) _) rfl lk_RX6_97 mi_X6_of ms_X6_of ini_RX6 mc_X6_of md_X6_of ⟨Nat.le_of_ble_eq_true rfl, Nat.le_of_ble_eq_true rfl⟩ ⟨Nat.le_of_ble_eq_true rfl, Nat.le_of_ble_eq_true rfl⟩ rfl (Nat.le_of_ble_eq_true rfl) (as := [.int (nI (a)), .int (nI (0))]) (rest := []) rfl dX6_coreOf_68 rfl ?_
  exact j_ret (by first | with_reducible rfl | (simp [rCoreO]; done) | (simp_all [rCoreO]; done) | rfl) (by first | with_reducible rfl | (simp [rCoreO]; done) | (simp_all [rCoreO]; done) | rfl) rfl (K _ _ dX6_coreOf_71)
set_option maxRecDepth 100000 in
set_option maxHeartbeats 4000000 in
theorem c_X6_coreOf_1 (l : Launch) (Z : wZ) (S : St) (h : Hl) (a : Nat) (ha : a < 4) : Ci l yX6_coreOf cX6_coreOf 3 .int 2 43 Z [.ref (zA Z (7) (0) (0)), .int (nI (a)), .int (nI (1))] S h (rCoreO S a 1) (S) (h) := by
  refine Ci.of rfl rfl (Nat.le_of_ble_eq_true rfl) (fun p e s mi args below meth c A0 Q X K => ?_)
  refine j_at rfl rfl (Ls3 := [(0, .ref (zA Z (7) (0) (0))), (1, .int (nI (a))), (2, .int (nI (1)))]) rfl rfl ?_
  refine j_iload_n X dX6_coreOf_0 rfl rfl (q := 2) rfl ?_
  refine j_tableOut X (tgt := 65) dX6_coreOf_1 (by decide) (by decide) ?_
  refine j_aload_n X dX6_coreOf_65 rfl rfl (q := 0) rfl ?_
  refine j_iload_n X dX6_coreOf_66 rfl rfl (q := 1) rfl ?_
  refine j_iload_n X dX6_coreOf_67 rfl rfl (q := 2) rfl ?_
  refine j_calli X (c_X6_of l Z S h a 1 (by omega)) (wm_ref (by decide)) ((fun _ => rfl) _) rfl lk_RX6_97 mi_X6_of ms_X6_of ini_RX6 mc_X6_of md_X6_of ⟨Nat.le_of_ble_eq_true rfl, Nat.le_of_ble_eq_true rfl⟩ ⟨Nat.le_of_ble_eq_true rfl, Nat.le_of_ble_eq_true rfl⟩ rfl (Nat.le_of_ble_eq_true rfl) (as := [.int (nI (a)), .int (nI (1))]) (rest := []) rfl dX6_coreOf_68 rfl ?_
  exact j_ret (by first | with_reducible rfl | (simp [rCoreO]; done) | (simp_all [rCoreO]; done) | rfl) (by first | with_reducible rfl | (simp [rCoreO]; done) | (simp_all [rCoreO]; done) | rfl) rfl (K _ _ dX6_coreOf_71)
set_option maxRecDepth 100000 in
set_option maxHeartbeats 4000000 in
theorem c_X6_coreOf_2 (l : Launch) (Z : wZ) (S : St) (h : Hl) (a : Nat) (ha : a < 4) : Ci l yX6_coreOf cX6_coreOf 3 .int 2 43 Z [.ref (zA Z (7) (0) (0)), .int (nI (a)), .int (nI (2))] S h (rCoreO S a 2) (S) (h) := by
  refine Ci.of rfl rfl (Nat.le_of_ble_eq_true rfl) (fun p e s mi args below meth c A0 Q X K => ?_)
  refine j_at rfl rfl (Ls3 := [(0, .ref (zA Z (7) (0) (0))), (1, .int (nI (a))), (2, .int (nI (2)))]) rfl rfl ?_
  refine j_iload_n X dX6_coreOf_0 rfl rfl (q := 2) rfl ?_
  refine j_tableOut X (tgt := 65) dX6_coreOf_1 (by decide) (by decide) ?_
  refine j_aload_n X dX6_coreOf_65 rfl rfl (q := 0) rfl ?_
  refine j_iload_n X dX6_coreOf_66 rfl rfl (q := 1) rfl ?_
  refine j_iload_n X dX6_coreOf_67 rfl rfl (q := 2) rfl ?_
  refine j_calli X (c_X6_of l Z S h a 2 (by omega)) (wm_ref (by decide)) ((fun _ => rfl) _) rfl lk_RX6_97 mi_X6_of ms_X6_of ini_RX6 mc_X6_of md_X6_of ⟨Nat.le_of_ble_eq_true rfl, Nat.le_of_ble_eq_true rfl⟩ ⟨Nat.le_of_ble_eq_true rfl, Nat.le_of_ble_eq_true rfl⟩ rfl (Nat.le_of_ble_eq_true rfl) (as := [.int (nI (a)), .int (nI (2))]) (rest := []) rfl dX6_coreOf_68 rfl ?_
  exact j_ret (by first | with_reducible rfl | (simp [rCoreO]; done) | (simp_all [rCoreO]; done) | rfl) (by first | with_reducible rfl | (simp [rCoreO]; done) | (simp_all [rCoreO]; done) | rfl) rfl (K _ _ dX6_coreOf_71)
set_option maxRecDepth 100000 in
set_option maxHeartbeats 4000000 in
theorem c_X6_coreOf_3 (l : Launch) (Z : wZ) (S : St) (h : Hl) (a : Nat) (ha : a < 4) : Ci l yX6_coreOf cX6_coreOf 3 .int 2 43 Z [.ref (zA Z (7) (0) (0)), .int (nI (a)), .int (nI (3))] S h (rCoreO S a 3) (S) (h) := by
  refine Ci.of rfl rfl (Nat.le_of_ble_eq_true rfl) (fun p e s mi args below meth c A0 Q X K => ?_)
  refine j_at rfl rfl (Ls3 := [(0, .ref (zA Z (7) (0) (0))), (1, .int (nI (a))), (2, .int (nI (3)))]) rfl rfl ?_
  refine j_iload_n X dX6_coreOf_0 rfl rfl (q := 2) rfl ?_
  refine j_tableIn X (tgt := 28) dX6_coreOf_1 (by decide) (by decide) rfl (by decide) ?_
  refine j_aload_n X dX6_coreOf_28 rfl rfl (q := 0) rfl ?_
  refine j_iload_n X dX6_coreOf_29 rfl rfl (q := 1) rfl ?_
  refine j_iconst X dX6_coreOf_30 rfl (v := 3) (by decide) ?_
  refine j_calli X (c_X6_of l Z S h a 3 (by omega)) (wm_ref (by decide)) ((fun _ => rfl) _) rfl lk_RX6_97 mi_X6_of ms_X6_of ini_RX6 mc_X6_of md_X6_of ⟨Nat.le_of_ble_eq_true rfl, Nat.le_of_ble_eq_true rfl⟩ ⟨Nat.le_of_ble_eq_true rfl, Nat.le_of_ble_eq_true rfl⟩ rfl (Nat.le_of_ble_eq_true rfl) (as := [.int (nI (a)), .int (3)]) (rest := []) rfl dX6_coreOf_31 rfl ?_
  refine j_iconst X dX6_coreOf_34 rfl (v := 1) (by decide) ?_
  refine j_icmp_ne X dX6_coreOf_35 rfl (tgt := 47) (by decide) (fun c_35 => ?_) (fun c_35 => ?_)
  · refine j_iconst X dX6_coreOf_47 rfl (v := -1) (by decide) ?_
    exact j_ret (by first | with_reducible rfl | (simp [rCoreO, c_35]; done) | (simp_all [rCoreO]; done) | rfl) (by first | with_reducible rfl | (simp [rCoreO, c_35]; done) | (simp_all [rCoreO]; done) | rfl) rfl (K _ _ dX6_coreOf_48)
  · refine j_aload_n X dX6_coreOf_38 rfl rfl (q := 0) rfl ?_
    refine j_iload_n X dX6_coreOf_39 rfl rfl (q := 1) rfl ?_
    refine j_iconst X dX6_coreOf_40 rfl (v := 4) (by decide) ?_
    refine j_calli X (c_X6_of l Z S h a 4 (by omega)) (wm_ref (by decide)) ((fun _ => rfl) _) rfl lk_RX6_97 mi_X6_of ms_X6_of ini_RX6 mc_X6_of md_X6_of ⟨Nat.le_of_ble_eq_true rfl, Nat.le_of_ble_eq_true rfl⟩ ⟨Nat.le_of_ble_eq_true rfl, Nat.le_of_ble_eq_true rfl⟩ rfl (Nat.le_of_ble_eq_true rfl) (as := [.int (nI (a)), .int (4)]) (rest := []) rfl dX6_coreOf_41 rfl ?_
    refine j_goto X (tgt := 48) dX6_coreOf_44 (by decide) ?_
    exact j_ret (by first | with_reducible rfl | (simp [rCoreO, c_35]; done) | (simp_all [rCoreO]; done) | rfl) (by first | with_reducible rfl | (simp [rCoreO, c_35]; done) | (simp_all [rCoreO]; done) | rfl) rfl (K _ _ dX6_coreOf_48)
set_option maxRecDepth 100000 in
set_option maxHeartbeats 4000000 in
theorem c_X6_coreOf_4 (l : Launch) (Z : wZ) (S : St) (h : Hl) (a : Nat) (ha : a < 4) : Ci l yX6_coreOf cX6_coreOf 3 .int 2 43 Z [.ref (zA Z (7) (0) (0)), .int (nI (a)), .int (nI (4))] S h (rCoreO S a 4) (S) (h) := by
  refine Ci.of rfl rfl (Nat.le_of_ble_eq_true rfl) (fun p e s mi args below meth c A0 Q X K => ?_)
  refine j_at rfl rfl (Ls3 := [(0, .ref (zA Z (7) (0) (0))), (1, .int (nI (a))), (2, .int (nI (4)))]) rfl rfl ?_
  refine j_iload_n X dX6_coreOf_0 rfl rfl (q := 2) rfl ?_
  refine j_tableIn X (tgt := 49) dX6_coreOf_1 (by decide) (by decide) rfl (by decide) ?_
  refine j_aload_n X dX6_coreOf_49 rfl rfl (q := 0) rfl ?_
  refine j_iload_n X dX6_coreOf_50 rfl rfl (q := 1) rfl ?_
  refine j_bipush X dX6_coreOf_51 rfl (v := 9) (by decide) ?_
  refine j_calli X (c_X6_of l Z S h a 9 (by omega)) (wm_ref (by decide)) ((fun _ => rfl) _) rfl lk_RX6_97 mi_X6_of ms_X6_of ini_RX6 mc_X6_of md_X6_of ⟨Nat.le_of_ble_eq_true rfl, Nat.le_of_ble_eq_true rfl⟩ ⟨Nat.le_of_ble_eq_true rfl, Nat.le_of_ble_eq_true rfl⟩ rfl (Nat.le_of_ble_eq_true rfl) (as := [.int (nI (a)), .int (9)]) (rest := []) rfl dX6_coreOf_53 rfl ?_
  exact j_ret (by first | with_reducible rfl | (simp [rCoreO]; done) | (simp_all [rCoreO]; done) | rfl) (by first | with_reducible rfl | (simp [rCoreO]; done) | (simp_all [rCoreO]; done) | rfl) rfl (K _ _ dX6_coreOf_56)
set_option maxRecDepth 100000 in
set_option maxHeartbeats 4000000 in
theorem c_X6_coreOf_5 (l : Launch) (Z : wZ) (S : St) (h : Hl) (a : Nat) (ha : a < 4) : Ci l yX6_coreOf cX6_coreOf 3 .int 2 43 Z [.ref (zA Z (7) (0) (0)), .int (nI (a)), .int (nI (5))] S h (rCoreO S a 5) (S) (h) := by
  refine Ci.of rfl rfl (Nat.le_of_ble_eq_true rfl) (fun p e s mi args below meth c A0 Q X K => ?_)
  refine j_at rfl rfl (Ls3 := [(0, .ref (zA Z (7) (0) (0))), (1, .int (nI (a))), (2, .int (nI (5)))]) rfl rfl ?_
  refine j_iload_n X dX6_coreOf_0 rfl rfl (q := 2) rfl ?_
  refine j_tableIn X (tgt := 57) dX6_coreOf_1 (by decide) (by decide) rfl (by decide) ?_
  refine j_aload_n X dX6_coreOf_57 rfl rfl (q := 0) rfl ?_
  refine j_iload_n X dX6_coreOf_58 rfl rfl (q := 1) rfl ?_
  refine j_bipush X dX6_coreOf_59 rfl (v := 10) (by decide) ?_
  refine j_calli X (c_X6_of l Z S h a 10 (by omega)) (wm_ref (by decide)) ((fun _ => rfl) _) rfl lk_RX6_97 mi_X6_of ms_X6_of ini_RX6 mc_X6_of md_X6_of ⟨Nat.le_of_ble_eq_true rfl, Nat.le_of_ble_eq_true rfl⟩ ⟨Nat.le_of_ble_eq_true rfl, Nat.le_of_ble_eq_true rfl⟩ rfl (Nat.le_of_ble_eq_true rfl) (as := [.int (nI (a)), .int (10)]) (rest := []) rfl dX6_coreOf_61 rfl ?_
  exact j_ret (by first | with_reducible rfl | (simp [rCoreO]; done) | (simp_all [rCoreO]; done) | rfl) (by first | with_reducible rfl | (simp [rCoreO]; done) | (simp_all [rCoreO]; done) | rfl) rfl (K _ _ dX6_coreOf_64)
theorem c_X6_coreOf (l : Launch) (Z : wZ) (S : St) (h : Hl) (a : Nat) (ha : a < 4) (k : Nat) (hk : k < 6) : Ci l yX6_coreOf cX6_coreOf 3 .int 2 43 Z [.ref (zA Z (7) (0) (0)), .int (nI (a)), .int (nI (k))] S h (rCoreO S a k) (S) h := by
  match k, hk with
  | 0, _ => exact c_X6_coreOf_0 l Z S h a ha
  | 1, _ => exact c_X6_coreOf_1 l Z S h a ha
  | 2, _ => exact c_X6_coreOf_2 l Z S h a ha
  | 3, _ => exact c_X6_coreOf_3 l Z S h a ha
  | 4, _ => exact c_X6_coreOf_4 l Z S h a ha
  | 5, _ => exact c_X6_coreOf_5 l Z S h a ha
set_option maxRecDepth 100000 in
set_option maxHeartbeats 4000000 in
theorem c_X6_valueOf_0 (l : Launch) (Z : wZ) (S : St) (h : Hl) (hcc : okI (S 7 0 1 0) 4) : Ci l yX6_valueOf cX6_valueOf 2 .int 4 86 Z [.ref (zA Z (7) (0) (0)), .int (nI (0))] S h (rValO S 0) (S) (h) := by
  refine Ci.of rfl rfl (Nat.le_of_ble_eq_true rfl) (fun p e s mi args below meth c A0 Q X K => ?_)
  refine j_at rfl rfl (Ls3 := [(0, .ref (zA Z (7) (0) (0))), (1, .int (nI (0)))]) rfl rfl ?_
  refine j_iload_n X dX6_valueOf_0 rfl rfl (q := 1) rfl ?_
  refine j_iconst X dX6_valueOf_1 rfl (v := 3) (by decide) ?_
  refine j_icmpN_ge X (a := 0) (b := 3) (by omega) (by omega) dX6_valueOf_2 rfl (tgt := 14) (by decide) (fun c_2 => ?_) (fun c_2 => ?_)
  · refine j_iload_n X dX6_valueOf_14 rfl rfl (q := 1) rfl ?_
    refine j_iconst X dX6_valueOf_15 rfl (v := 3) (by decide) ?_
    refine j_icmpN_ne X (a := 0) (b := 3) (by omega) (by omega) dX6_valueOf_16 rfl (tgt := 26) (by decide) (fun c_16 => ?_) (fun c_16 => ?_)
    · refine j_aload_n X dX6_valueOf_26 rfl rfl (q := 0) rfl ?_
      refine jg_model X 0 (by decide) lk_RX6_7 rfl rfl dX6_valueOf_27 rfl ?_
      refine j_iconst X dX6_valueOf_30 rfl (v := 4) (by decide) ?_
      refine j_ialdN X (k := 4) (wm_ref (by decide)) ((fun _ => rfl) _) (by decide) (by decide) dX6_valueOf_31 rfl ?_
      exact j_ret (by first | with_reducible rfl | (simp [rValO, c_2, c_16]; done) | (simp_all [rValO]; done) | rfl) (by first | with_reducible rfl | (simp [rValO, c_2, c_16]; done) | (simp_all [rValO]; done) | rfl) rfl (K _ _ dX6_valueOf_32)
    · refine j_aload_n X dX6_valueOf_19 rfl rfl (q := 0) rfl ?_
      refine j_calli X (c_X6_finishedCount l Z S h hcc) (wm_ref (by decide)) ((fun _ => rfl) _) rfl lk_RX6_164 mi_X6_finishedCount ms_X6_finishedCount ini_RX6 mc_X6_finishedCount md_X6_finishedCount ⟨Nat.le_of_ble_eq_true rfl, Nat.le_of_ble_eq_true rfl⟩ ⟨Nat.le_of_ble_eq_true rfl, Nat.le_of_ble_eq_true rfl⟩ rfl (Nat.le_of_ble_eq_true rfl) (as := []) (rest := []) rfl dX6_valueOf_20 rfl ?_
      refine j_goto X (tgt := 32) dX6_valueOf_23 (by decide) ?_
      exact j_ret (by first | with_reducible rfl | (simp [rValO, c_2, c_16]; done) | (simp_all [rValO]; done) | rfl) (by first | with_reducible rfl | (simp [rValO, c_2, c_16]; done) | (simp_all [rValO]; done) | rfl) rfl (K _ _ dX6_valueOf_32)
  · refine j_aload_n X dX6_valueOf_5 rfl rfl (q := 0) rfl ?_
    refine jg_model X 0 (by decide) lk_RX6_7 rfl rfl dX6_valueOf_6 rfl ?_
    refine j_iload_n X dX6_valueOf_9 rfl rfl (q := 1) rfl ?_
    refine j_ialdN X (k := 0) (wm_ref (by decide)) ((fun _ => rfl) _) (by decide) (by decide) dX6_valueOf_10 rfl ?_
    refine j_goto X (tgt := 32) dX6_valueOf_11 (by decide) ?_
    exact j_ret (by first | with_reducible rfl | (simp [rValO, c_2]; done) | (simp_all [rValO]; done) | rfl) (by first | with_reducible rfl | (simp [rValO, c_2]; done) | (simp_all [rValO]; done) | rfl) rfl (K _ _ dX6_valueOf_32)
set_option maxRecDepth 100000 in
set_option maxHeartbeats 4000000 in
theorem c_X6_valueOf_1 (l : Launch) (Z : wZ) (S : St) (h : Hl) (hcc : okI (S 7 0 1 0) 4) : Ci l yX6_valueOf cX6_valueOf 2 .int 4 86 Z [.ref (zA Z (7) (0) (0)), .int (nI (1))] S h (rValO S 1) (S) (h) := by
  refine Ci.of rfl rfl (Nat.le_of_ble_eq_true rfl) (fun p e s mi args below meth c A0 Q X K => ?_)
  refine j_at rfl rfl (Ls3 := [(0, .ref (zA Z (7) (0) (0))), (1, .int (nI (1)))]) rfl rfl ?_
  refine j_iload_n X dX6_valueOf_0 rfl rfl (q := 1) rfl ?_
  refine j_iconst X dX6_valueOf_1 rfl (v := 3) (by decide) ?_
  refine j_icmpN_ge X (a := 1) (b := 3) (by omega) (by omega) dX6_valueOf_2 rfl (tgt := 14) (by decide) (fun c_2 => ?_) (fun c_2 => ?_)
  · refine j_iload_n X dX6_valueOf_14 rfl rfl (q := 1) rfl ?_
    refine j_iconst X dX6_valueOf_15 rfl (v := 3) (by decide) ?_
    refine j_icmpN_ne X (a := 1) (b := 3) (by omega) (by omega) dX6_valueOf_16 rfl (tgt := 26) (by decide) (fun c_16 => ?_) (fun c_16 => ?_)
    · refine j_aload_n X dX6_valueOf_26 rfl rfl (q := 0) rfl ?_
      refine jg_model X 0 (by decide) lk_RX6_7 rfl rfl dX6_valueOf_27 rfl ?_
      refine j_iconst X dX6_valueOf_30 rfl (v := 4) (by decide) ?_
      refine j_ialdN X (k := 4) (wm_ref (by decide)) ((fun _ => rfl) _) (by decide) (by decide) dX6_valueOf_31 rfl ?_
      exact j_ret (by first | with_reducible rfl | (simp [rValO, c_2, c_16]; done) | (simp_all [rValO]; done) | rfl) (by first | with_reducible rfl | (simp [rValO, c_2, c_16]; done) | (simp_all [rValO]; done) | rfl) rfl (K _ _ dX6_valueOf_32)
    · refine j_aload_n X dX6_valueOf_19 rfl rfl (q := 0) rfl ?_
      refine j_calli X (c_X6_finishedCount l Z S h hcc) (wm_ref (by decide)) ((fun _ => rfl) _) rfl lk_RX6_164 mi_X6_finishedCount ms_X6_finishedCount ini_RX6 mc_X6_finishedCount md_X6_finishedCount ⟨Nat.le_of_ble_eq_true rfl, Nat.le_of_ble_eq_true rfl⟩ ⟨Nat.le_of_ble_eq_true rfl, Nat.le_of_ble_eq_true rfl⟩ rfl (Nat.le_of_ble_eq_true rfl) (as := []) (rest := []) rfl dX6_valueOf_20 rfl ?_
      refine j_goto X (tgt := 32) dX6_valueOf_23 (by decide) ?_
      exact j_ret (by first | with_reducible rfl | (simp [rValO, c_2, c_16]; done) | (simp_all [rValO]; done) | rfl) (by first | with_reducible rfl | (simp [rValO, c_2, c_16]; done) | (simp_all [rValO]; done) | rfl) rfl (K _ _ dX6_valueOf_32)
  · refine j_aload_n X dX6_valueOf_5 rfl rfl (q := 0) rfl ?_
    refine jg_model X 0 (by decide) lk_RX6_7 rfl rfl dX6_valueOf_6 rfl ?_
    refine j_iload_n X dX6_valueOf_9 rfl rfl (q := 1) rfl ?_
    refine j_ialdN X (k := 1) (wm_ref (by decide)) ((fun _ => rfl) _) (by decide) (by decide) dX6_valueOf_10 rfl ?_
    refine j_goto X (tgt := 32) dX6_valueOf_11 (by decide) ?_
    exact j_ret (by first | with_reducible rfl | (simp [rValO, c_2]; done) | (simp_all [rValO]; done) | rfl) (by first | with_reducible rfl | (simp [rValO, c_2]; done) | (simp_all [rValO]; done) | rfl) rfl (K _ _ dX6_valueOf_32)
set_option maxRecDepth 100000 in
set_option maxHeartbeats 4000000 in
theorem c_X6_valueOf_2 (l : Launch) (Z : wZ) (S : St) (h : Hl) (hcc : okI (S 7 0 1 0) 4) : Ci l yX6_valueOf cX6_valueOf 2 .int 4 86 Z [.ref (zA Z (7) (0) (0)), .int (nI (2))] S h (rValO S 2) (S) (h) := by
  refine Ci.of rfl rfl (Nat.le_of_ble_eq_true rfl) (fun p e s mi args below meth c A0 Q X K => ?_)
  refine j_at rfl rfl (Ls3 := [(0, .ref (zA Z (7) (0) (0))), (1, .int (nI (2)))]) rfl rfl ?_
  refine j_iload_n X dX6_valueOf_0 rfl rfl (q := 1) rfl ?_
  refine j_iconst X dX6_valueOf_1 rfl (v := 3) (by decide) ?_
  refine j_icmpN_ge X (a := 2) (b := 3) (by omega) (by omega) dX6_valueOf_2 rfl (tgt := 14) (by decide) (fun c_2 => ?_) (fun c_2 => ?_)
  · refine j_iload_n X dX6_valueOf_14 rfl rfl (q := 1) rfl ?_
    refine j_iconst X dX6_valueOf_15 rfl (v := 3) (by decide) ?_
    refine j_icmpN_ne X (a := 2) (b := 3) (by omega) (by omega) dX6_valueOf_16 rfl (tgt := 26) (by decide) (fun c_16 => ?_) (fun c_16 => ?_)
    · refine j_aload_n X dX6_valueOf_26 rfl rfl (q := 0) rfl ?_
      refine jg_model X 0 (by decide) lk_RX6_7 rfl rfl dX6_valueOf_27 rfl ?_
      refine j_iconst X dX6_valueOf_30 rfl (v := 4) (by decide) ?_
      refine j_ialdN X (k := 4) (wm_ref (by decide)) ((fun _ => rfl) _) (by decide) (by decide) dX6_valueOf_31 rfl ?_
      exact j_ret (by first | with_reducible rfl | (simp [rValO, c_2, c_16]; done) | (simp_all [rValO]; done) | rfl) (by first | with_reducible rfl | (simp [rValO, c_2, c_16]; done) | (simp_all [rValO]; done) | rfl) rfl (K _ _ dX6_valueOf_32)
    · refine j_aload_n X dX6_valueOf_19 rfl rfl (q := 0) rfl ?_
      refine j_calli X (c_X6_finishedCount l Z S h hcc) (wm_ref (by decide)) ((fun _ => rfl) _) rfl lk_RX6_164 mi_X6_finishedCount ms_X6_finishedCount ini_RX6 mc_X6_finishedCount md_X6_finishedCount ⟨Nat.le_of_ble_eq_true rfl, Nat.le_of_ble_eq_true rfl⟩ ⟨Nat.le_of_ble_eq_true rfl, Nat.le_of_ble_eq_true rfl⟩ rfl (Nat.le_of_ble_eq_true rfl) (as := []) (rest := []) rfl dX6_valueOf_20 rfl ?_
      refine j_goto X (tgt := 32) dX6_valueOf_23 (by decide) ?_
      exact j_ret (by first | with_reducible rfl | (simp [rValO, c_2, c_16]; done) | (simp_all [rValO]; done) | rfl) (by first | with_reducible rfl | (simp [rValO, c_2, c_16]; done) | (simp_all [rValO]; done) | rfl) rfl (K _ _ dX6_valueOf_32)
  · refine j_aload_n X dX6_valueOf_5 rfl rfl (q := 0) rfl ?_
    refine jg_model X 0 (by decide) lk_RX6_7 rfl rfl dX6_valueOf_6 rfl ?_
    refine j_iload_n X dX6_valueOf_9 rfl rfl (q := 1) rfl ?_
    refine j_ialdN X (k := 2) (wm_ref (by decide)) ((fun _ => rfl) _) (by decide) (by decide) dX6_valueOf_10 rfl ?_
    refine j_goto X (tgt := 32) dX6_valueOf_11 (by decide) ?_
    exact j_ret (by first | with_reducible rfl | (simp [rValO, c_2]; done) | (simp_all [rValO]; done) | rfl) (by first | with_reducible rfl | (simp [rValO, c_2]; done) | (simp_all [rValO]; done) | rfl) rfl (K _ _ dX6_valueOf_32)
set_option maxRecDepth 100000 in
set_option maxHeartbeats 4000000 in
theorem c_X6_valueOf_3 (l : Launch) (Z : wZ) (S : St) (h : Hl) (hcc : okI (S 7 0 1 0) 4) : Ci l yX6_valueOf cX6_valueOf 2 .int 4 86 Z [.ref (zA Z (7) (0) (0)), .int (nI (3))] S h (rValO S 3) (S) (h) := by
  refine Ci.of rfl rfl (Nat.le_of_ble_eq_true rfl) (fun p e s mi args below meth c A0 Q X K => ?_)
  refine j_at rfl rfl (Ls3 := [(0, .ref (zA Z (7) (0) (0))), (1, .int (nI (3)))]) rfl rfl ?_
  refine j_iload_n X dX6_valueOf_0 rfl rfl (q := 1) rfl ?_
  refine j_iconst X dX6_valueOf_1 rfl (v := 3) (by decide) ?_
  refine j_icmpN_ge X (a := 3) (b := 3) (by omega) (by omega) dX6_valueOf_2 rfl (tgt := 14) (by decide) (fun c_2 => ?_) (fun c_2 => ?_)
  · refine j_iload_n X dX6_valueOf_14 rfl rfl (q := 1) rfl ?_
    refine j_iconst X dX6_valueOf_15 rfl (v := 3) (by decide) ?_
    refine j_icmpN_ne X (a := 3) (b := 3) (by omega) (by omega) dX6_valueOf_16 rfl (tgt := 26) (by decide) (fun c_16 => ?_) (fun c_16 => ?_)
    · refine j_aload_n X dX6_valueOf_26 rfl rfl (q := 0) rfl ?_
      refine jg_model X 0 (by decide) lk_RX6_7 rfl rfl dX6_valueOf_27 rfl ?_
      refine j_iconst X dX6_valueOf_30 rfl (v := 4) (by decide) ?_
      refine j_ialdN X (k := 4) (wm_ref (by decide)) ((fun _ => rfl) _) (by decide) (by decide) dX6_valueOf_31 rfl ?_
      exact j_ret (by first | with_reducible rfl | (simp [rValO, c_2, c_16]; done) | (simp_all [rValO]; done) | rfl) (by first | with_reducible rfl | (simp [rValO, c_2, c_16]; done) | (simp_all [rValO]; done) | rfl) rfl (K _ _ dX6_valueOf_32)
    · refine j_aload_n X dX6_valueOf_19 rfl rfl (q := 0) rfl ?_
      refine j_calli X (c_X6_finishedCount l Z S h hcc) (wm_ref (by decide)) ((fun _ => rfl) _) rfl lk_RX6_164 mi_X6_finishedCount ms_X6_finishedCount ini_RX6 mc_X6_finishedCount md_X6_finishedCount ⟨Nat.le_of_ble_eq_true rfl, Nat.le_of_ble_eq_true rfl⟩ ⟨Nat.le_of_ble_eq_true rfl, Nat.le_of_ble_eq_true rfl⟩ rfl (Nat.le_of_ble_eq_true rfl) (as := []) (rest := []) rfl dX6_valueOf_20 rfl ?_
      refine j_goto X (tgt := 32) dX6_valueOf_23 (by decide) ?_
      exact j_ret (by first | with_reducible rfl | (simp [rValO, c_2, c_16]; done) | (simp_all [rValO]; done) | rfl) (by first | with_reducible rfl | (simp [rValO, c_2, c_16]; done) | (simp_all [rValO]; done) | rfl) rfl (K _ _ dX6_valueOf_32)
  · refine j_aload_n X dX6_valueOf_5 rfl rfl (q := 0) rfl ?_
    refine jg_model X 0 (by decide) lk_RX6_7 rfl rfl dX6_valueOf_6 rfl ?_
    refine j_iload_n X dX6_valueOf_9 rfl rfl (q := 1) rfl ?_
    refine j_ialdN X (k := 3) (wm_ref (by decide)) ((fun _ => rfl) _) (by decide) (by decide) dX6_valueOf_10 rfl ?_
    refine j_goto X (tgt := 32) dX6_valueOf_11 (by decide) ?_
    exact j_ret (by first | with_reducible rfl | (simp [rValO, c_2]; done) | (simp_all [rValO]; done) | rfl) (by first | with_reducible rfl | (simp [rValO, c_2]; done) | (simp_all [rValO]; done) | rfl) rfl (K _ _ dX6_valueOf_32)
set_option maxRecDepth 100000 in
set_option maxHeartbeats 4000000 in
theorem c_X6_valueOf_4 (l : Launch) (Z : wZ) (S : St) (h : Hl) (hcc : okI (S 7 0 1 0) 4) : Ci l yX6_valueOf cX6_valueOf 2 .int 4 86 Z [.ref (zA Z (7) (0) (0)), .int (nI (4))] S h (rValO S 4) (S) (h) := by
  refine Ci.of rfl rfl (Nat.le_of_ble_eq_true rfl) (fun p e s mi args below meth c A0 Q X K => ?_)
  refine j_at rfl rfl (Ls3 := [(0, .ref (zA Z (7) (0) (0))), (1, .int (nI (4)))]) rfl rfl ?_
  refine j_iload_n X dX6_valueOf_0 rfl rfl (q := 1) rfl ?_
  refine j_iconst X dX6_valueOf_1 rfl (v := 3) (by decide) ?_
  refine j_icmpN_ge X (a := 4) (b := 3) (by omega) (by omega) dX6_valueOf_2 rfl (tgt := 14) (by decide) (fun c_2 => ?_) (fun c_2 => ?_)
  · refine j_iload_n X dX6_valueOf_14 rfl rfl (q := 1) rfl ?_
    refine j_iconst X dX6_valueOf_15 rfl (v := 3) (by decide) ?_
    refine j_icmpN_ne X (a := 4) (b := 3) (by omega) (by omega) dX6_valueOf_16 rfl (tgt := 26) (by decide) (fun c_16 => ?_) (fun c_16 => ?_)
    · refine j_aload_n X dX6_valueOf_26 rfl rfl (q := 0) rfl ?_
      refine jg_model X 0 (by decide) lk_RX6_7 rfl rfl dX6_valueOf_27 rfl ?_
      refine j_iconst X dX6_valueOf_30 rfl (v := 4) (by decide) ?_
      refine j_ialdN X (k := 4) (wm_ref (by decide)) ((fun _ => rfl) _) (by decide) (by decide) dX6_valueOf_31 rfl ?_
      exact j_ret (by first | with_reducible rfl | (simp [rValO, c_2, c_16]; done) | (simp_all [rValO]; done) | rfl) (by first | with_reducible rfl | (simp [rValO, c_2, c_16]; done) | (simp_all [rValO]; done) | rfl) rfl (K _ _ dX6_valueOf_32)
    · refine j_aload_n X dX6_valueOf_19 rfl rfl (q := 0) rfl ?_
      refine j_calli X (c_X6_finishedCount l Z S h hcc) (wm_ref (by decide)) ((fun _ => rfl) _) rfl lk_RX6_164 mi_X6_finishedCount ms_X6_finishedCount ini_RX6 mc_X6_finishedCount md_X6_finishedCount ⟨Nat.le_of_ble_eq_true rfl, Nat.le_of_ble_eq_true rfl⟩ ⟨Nat.le_of_ble_eq_true rfl, Nat.le_of_ble_eq_true rfl⟩ rfl (Nat.le_of_ble_eq_true rfl) (as := []) (rest := []) rfl dX6_valueOf_20 rfl ?_
      refine j_goto X (tgt := 32) dX6_valueOf_23 (by decide) ?_
      exact j_ret (by first | with_reducible rfl | (simp [rValO, c_2, c_16]; done) | (simp_all [rValO]; done) | rfl) (by first | with_reducible rfl | (simp [rValO, c_2, c_16]; done) | (simp_all [rValO]; done) | rfl) rfl (K _ _ dX6_valueOf_32)
  · refine j_aload_n X dX6_valueOf_5 rfl rfl (q := 0) rfl ?_
    refine jg_model X 0 (by decide) lk_RX6_7 rfl rfl dX6_valueOf_6 rfl ?_
    refine j_iload_n X dX6_valueOf_9 rfl rfl (q := 1) rfl ?_
    refine j_ialdN X (k := 4) (wm_ref (by decide)) ((fun _ => rfl) _) (by decide) (by decide) dX6_valueOf_10 rfl ?_
    refine j_goto X (tgt := 32) dX6_valueOf_11 (by decide) ?_
    exact j_ret (by first | with_reducible rfl | (simp [rValO, c_2]; done) | (simp_all [rValO]; done) | rfl) (by first | with_reducible rfl | (simp [rValO, c_2]; done) | (simp_all [rValO]; done) | rfl) rfl (K _ _ dX6_valueOf_32)
theorem c_X6_valueOf (l : Launch) (Z : wZ) (S : St) (h : Hl) (hcc : okI (S 7 0 1 0) 4) (k : Nat) (hk : k < 5) : Ci l yX6_valueOf cX6_valueOf 2 .int 4 86 Z [.ref (zA Z (7) (0) (0)), .int (nI (k))] S h (rValO S k) (S) h := by
  match k, hk with
  | 0, _ => exact c_X6_valueOf_0 l Z S h hcc
  | 1, _ => exact c_X6_valueOf_1 l Z S h hcc
  | 2, _ => exact c_X6_valueOf_2 l Z S h hcc
  | 3, _ => exact c_X6_valueOf_3 l Z S h hcc
  | 4, _ => exact c_X6_valueOf_4 l Z S h hcc
set_option maxRecDepth 100000 in
set_option maxHeartbeats 4000000 in
theorem c_X6_commits (l : Launch) (Z : wZ) (S : St) (h : Hl)  : Ci l yX6_commits cX6_commits 1 .int 0 0 Z [.ref (zA Z (7) (0) (0))] S h (rCd S 0 7 0 1 21) (rCd S 0) (h) := by
  refine Ci.of rfl rfl (Nat.le_of_ble_eq_true rfl) (fun p e s mi args below meth c A0 Q X K => ?_)
  refine j_at rfl rfl (Ls3 := [(0, .ref (zA Z (7) (0) (0)))]) rfl rfl ?_
  refine j_aload_n X dX6_commits_0 rfl rfl (q := 0) rfl ?_
  refine j_iconst X dX6_commits_1 rfl (v := 0) (by decide) ?_
  refine jp_model X 9 (by decide) lk_RX6_41 rfl rfl rfl (vp_nar_int _) rfl rfl dX6_commits_2 rfl ?_
  refine j_name (fun S1 eS1 => ?_)
  refine j_aload_n X dX6_commits_5 rfl rfl (q := 0) rfl ?_
  refine jg_model X 0 (by decide) lk_RX6_7 rfl rfl dX6_commits_6 rfl ?_
  refine j_bipush X dX6_commits_9 rfl (v := 21) (by decide) ?_
  refine j_ialdN X (k := 21) (wm_ref (by decide)) ((fun _ => rfl) _) (by decide) (by decide) dX6_commits_11 rfl ?_
  exact j_ret (by subst eS1; first | with_reducible rfl | (simp []; done) | (simp_all []; done) | rfl) (by subst eS1; first | with_reducible rfl | (simp []; done) | (simp_all []; done) | rfl) rfl (K _ _ dX6_commits_12)
set_option maxRecDepth 100000 in
set_option maxHeartbeats 4000000 in
theorem L_bT (l : Launch) (Z : wZ) (h : Hl) (x : Int32) {p : Program} {e : Env} {s : State} {mi : MethodId} {args : Array Value} {below : List Frame} {meth : Method} {c : Code} {A0 : Nat → Prop} {Q : State → Prop} (X : JX p s mi args meth c cX6_beginTrial 3 yX6_beginTrial.cls Z A0) : ∀ (n k : Nat) (S : St), k + n = 406 → J p l e { frames := 0, cells := 0, slots := 0, locals := 0 } s mi args below meth c 3 Z A0 0 0 Q ((lp (rTrF) n k S)) h [(0, .ref (zA Z (7) (0) (0))), (1, .int (x))] 27 [] → J p l e { frames := 0, cells := 0, slots := 0, locals := 0 } s mi args below meth c 3 Z A0 0 0 Q S h [(2, .int (nI (k))), (0, .ref (zA Z (7) (0) (0))), (1, .int (x))] 2 [] := by
  intro n
  induction n with
  | zero =>
    intro k S hkn hk
    have hkN : 406 = k := by omega
    subst hkN
    refine j_iload_n X dX6_beginTrial_2 rfl rfl (q := 0) rfl ?_
    refine j_sipush X dX6_beginTrial_3 rfl (v := 406) (by decide) ?_
    refine j_icmp_ge_t X (tgt := 27) dX6_beginTrial_6 (by decide) (nI_le (Nat.le_refl _) (by decide)) ?_
    refine j_sub [1, 2] (Ls2 := [(0, .ref (zA Z (7) (0) (0))), (1, .int (x))]) rfl ?_
    exact hk
  | succ n ih =>
    intro k S hkn hk
    have hlt : k < 406 := by omega
    refine j_iload_n X dX6_beginTrial_2 rfl rfl (q := 0) rfl ?_
    refine j_sipush X dX6_beginTrial_3 rfl (v := 406) (by decide) ?_
    refine j_icmp_ge_f X dX6_beginTrial_6 rfl (tgt := 27) (by decide) (nI_ge hlt (by decide)) ?_
    refine j_aload_n X dX6_beginTrial_9 rfl rfl (q := 1) rfl ?_
    refine jg_model X 15 (by decide) lk_RX6_34 rfl rfl dX6_beginTrial_10 rfl ?_
    refine j_iload_n X dX6_beginTrial_13 rfl rfl (q := 0) rfl ?_
    refine j_aload_n X dX6_beginTrial_14 rfl rfl (q := 1) rfl ?_
    refine jg_model X 0 (by decide) lk_RX6_7 rfl rfl dX6_beginTrial_15 rfl ?_
    refine j_iload_n X dX6_beginTrial_18 rfl rfl (q := 0) rfl ?_
    refine j_ialdN X (k := k) (wm_ref (by decide)) ((fun _ => rfl) _) (by omega) (by decide) dX6_beginTrial_19 rfl ?_
    refine j_iastN X (k := k) (wm_ref (by decide)) (fun r => (fun _ => rfl) r) hlt (by decide) dX6_beginTrial_20 rfl ?_
    refine j_name (fun S1 eS1 => ?_)
    refine j_iinc X dX6_beginTrial_21 rfl (q := 0) rfl (v := (nI (k + 1))) (nI_1 _) (by decide) (Ls2 := [(2, .int (nI (k + 1))), (0, .ref (zA Z (7) (0) (0))), (1, .int (x))]) rfl ?_
    refine j_goto X (tgt := 2) dX6_beginTrial_24 (by decide) ?_
    have eB : (rTrF) k S = S1 := by subst eS1; first | with_reducible rfl | (simp [rTrF]; done) | (simp_all [rTrF]; done) | rfl
    have eL : lp (rTrF) (n + 1) k S = lp (rTrF) n (k + 1) S1 := congrArg (lp (rTrF) n (k + 1)) eB
    rw [eL] at hk
    exact ih (k + 1) S1 (by omega) hk
set_option maxRecDepth 100000 in
set_option maxHeartbeats 4000000 in
theorem c_X6_beginTrial (l : Launch) (Z : wZ) (S : St) (h : Hl) (x : Int32) : Cv l yX6_beginTrial cX6_beginTrial 3 0 0 Z [.ref (zA Z (7) (0) (0)), .int (x)] S h (rBegT S x) (h) := by
  refine Cv.of rfl (Nat.le_of_ble_eq_true rfl) (fun p e s mi args below meth c A0 Q X K => ?_)
  refine j_at rfl rfl (Ls3 := [(0, .ref (zA Z (7) (0) (0))), (1, .int (x))]) rfl rfl ?_
  refine j_iconst X dX6_beginTrial_0 rfl (v := 0) (by decide) ?_
  refine j_istore_n X dX6_beginTrial_1 rfl rfl (by decide) (Ls2 := [(2, .int (0)), (0, .ref (zA Z (7) (0) (0))), (1, .int (x))]) rfl ?_
  refine j_sub [0, 1, 2] (Ls2 := [(2, .int (0)), (0, .ref (zA Z (7) (0) (0))), (1, .int (x))]) rfl ?_
  refine L_bT l Z h x X 406 0 S (by omega) ?_
  refine j_name (fun S1 eS1 => ?_)
  refine j_aload_n X dX6_beginTrial_27 rfl rfl (q := 0) rfl ?_
  refine j_iconst X dX6_beginTrial_28 rfl (v := 1) (by decide) ?_
  refine jp_model X 8 (by decide) lk_RX6_106 rfl rfl rfl (by decide) (by decide) rfl dX6_beginTrial_29 rfl ?_
  refine j_name (fun S2 eS2 => ?_)
  refine j_aload_n X dX6_beginTrial_32 rfl rfl (q := 0) rfl ?_
  refine jg_model X 0 (by decide) lk_RX6_7 rfl rfl dX6_beginTrial_33 rfl ?_
  refine j_iconst X dX6_beginTrial_36 rfl (v := 1) (by decide) ?_
  refine j_iload_n X dX6_beginTrial_37 rfl rfl (q := 1) rfl ?_
  refine j_iastN X (k := 1) (wm_ref (by decide)) (fun r => (fun _ => rfl) r) (by decide) (by decide) dX6_beginTrial_38 rfl ?_
  refine j_name (fun S3 eS3 => ?_)
  exact j_at (by subst eS1; subst eS2; subst eS3; first | with_reducible rfl | (simp [rBegT]; done) | (simp_all [rBegT]; done) | rfl) rfl rfl rfl (K _ _ dX6_beginTrial_39)
set_option maxRecDepth 100000 in
set_option maxHeartbeats 4000000 in
theorem L_eT (l : Launch) (Z : wZ) (h : Hl)  {p : Program} {e : Env} {s : State} {mi : MethodId} {args : Array Value} {below : List Frame} {meth : Method} {c : Code} {A0 : Nat → Prop} {Q : State → Prop} (X : JX p s mi args meth c cX6_endTrial 2 yX6_endTrial.cls Z A0) : ∀ (n k : Nat) (S : St), k + n = 406 → J p l e { frames := 0, cells := 0, slots := 0, locals := 0 } s mi args below meth c 2 Z A0 0 0 Q ((lp (rEnF) n k S)) h [] 32 [] → J p l e { frames := 0, cells := 0, slots := 0, locals := 0 } s mi args below meth c 2 Z A0 0 0 Q S h [(1, .int (nI (k))), (0, .ref (zA Z (7) (0) (0)))] 7 [] := by
  intro n
  induction n with
  | zero =>
    intro k S hkn hk
    have hkN : 406 = k := by omega
    subst hkN
    refine j_iload_n X dX6_endTrial_7 rfl rfl (q := 0) rfl ?_
    refine j_sipush X dX6_endTrial_8 rfl (v := 406) (by decide) ?_
    refine j_icmp_ge_t X (tgt := 32) dX6_endTrial_11 (by decide) (nI_le (Nat.le_refl _) (by decide)) ?_
    refine j_sub [] (Ls2 := []) rfl ?_
    exact hk
  | succ n ih =>
    intro k S hkn hk
    have hlt : k < 406 := by omega
    refine j_iload_n X dX6_endTrial_7 rfl rfl (q := 0) rfl ?_
    refine j_sipush X dX6_endTrial_8 rfl (v := 406) (by decide) ?_
    refine j_icmp_ge_f X dX6_endTrial_11 rfl (tgt := 32) (by decide) (nI_ge hlt (by decide)) ?_
    refine j_aload_n X dX6_endTrial_14 rfl rfl (q := 1) rfl ?_
    refine jg_model X 0 (by decide) lk_RX6_7 rfl rfl dX6_endTrial_15 rfl ?_
    refine j_iload_n X dX6_endTrial_18 rfl rfl (q := 0) rfl ?_
    refine j_aload_n X dX6_endTrial_19 rfl rfl (q := 1) rfl ?_
    refine jg_model X 15 (by decide) lk_RX6_34 rfl rfl dX6_endTrial_20 rfl ?_
    refine j_iload_n X dX6_endTrial_23 rfl rfl (q := 0) rfl ?_
    refine j_ialdN X (k := k) (wm_ref (by decide)) ((fun _ => rfl) _) hlt (by decide) dX6_endTrial_24 rfl ?_
    refine j_iastN X (k := k) (wm_ref (by decide)) (fun r => (fun _ => rfl) r) (by omega) (by decide) dX6_endTrial_25 rfl ?_
    refine j_name (fun S1 eS1 => ?_)
    refine j_iinc X dX6_endTrial_26 rfl (q := 0) rfl (v := (nI (k + 1))) (nI_1 _) (by decide) (Ls2 := [(1, .int (nI (k + 1))), (0, .ref (zA Z (7) (0) (0)))]) rfl ?_
    refine j_goto X (tgt := 7) dX6_endTrial_29 (by decide) ?_
    have eB : (rEnF) k S = S1 := by subst eS1; first | with_reducible rfl | (simp [rEnF]; done) | (simp_all [rEnF]; done) | rfl
    have eL : lp (rEnF) (n + 1) k S = lp (rEnF) n (k + 1) S1 := congrArg (lp (rEnF) n (k + 1)) eB
    rw [eL] at hk
    exact ih (k + 1) S1 (by omega) hk
set_option maxRecDepth 100000 in
set_option maxHeartbeats 4000000 in
theorem c_X6_endTrial (l : Launch) (Z : wZ) (S : St) (h : Hl)  : Cv l yX6_endTrial cX6_endTrial 2 0 0 Z [.ref (zA Z (7) (0) (0))] S h (rEndT S) (h) := by
  refine Cv.of rfl (Nat.le_of_ble_eq_true rfl) (fun p e s mi args below meth c A0 Q X K => ?_)
  refine j_at rfl rfl (Ls3 := [(0, .ref (zA Z (7) (0) (0)))]) rfl rfl ?_
  refine j_aload_n X dX6_endTrial_0 rfl rfl (q := 0) rfl ?_
  refine j_iconst X dX6_endTrial_1 rfl (v := 0) (by decide) ?_
  refine jp_model X 8 (by decide) lk_RX6_106 rfl rfl rfl (by decide) (by decide) rfl dX6_endTrial_2 rfl ?_
  refine j_name (fun S1 eS1 => ?_)
  refine j_iconst X dX6_endTrial_5 rfl (v := 0) (by decide) ?_
  refine j_istore_n X dX6_endTrial_6 rfl rfl (by decide) (Ls2 := [(1, .int (0)), (0, .ref (zA Z (7) (0) (0)))]) rfl ?_
  refine j_sub [0, 1] (Ls2 := [(1, .int (0)), (0, .ref (zA Z (7) (0) (0)))]) rfl ?_
  refine L_eT l Z h  X 406 0 S1 (by omega) ?_
  refine j_name (fun S2 eS2 => ?_)
  exact j_at (by subst eS1; subst eS2; first | with_reducible rfl | (simp [rEndT]; done) | (simp_all [rEndT]; done) | rfl) rfl rfl rfl (K _ _ dX6_endTrial_32)
set_option maxRecDepth 100000 in
set_option maxHeartbeats 4000000 in
theorem c_X6_undo (l : Launch) (Z : wZ) (S : St) (h : Hl)  : Ci l yX6_undo cX6_undo 1 .int 1 22 Z [.ref (zA Z (7) (0) (0))] S h ((rUndo S).1) ((rUndo S).2) (h) := by
  refine Ci.of rfl rfl (Nat.le_of_ble_eq_true rfl) (fun p e s mi args below meth c A0 Q X K => ?_)
  refine j_at rfl rfl (Ls3 := [(0, .ref (zA Z (7) (0) (0)))]) rfl rfl ?_
  refine j_aload_n X dX6_undo_0 rfl rfl (q := 0) rfl ?_
  refine j_aload_n X dX6_undo_1 rfl rfl (q := 0) rfl ?_
  refine jg_model X 5 (by decide) lk_RX6_49 rfl rfl dX6_undo_2 rfl ?_
  refine j_if_ne X dX6_undo_5 rfl (tgt := 12) (by decide) (fun c_5 => ?_) (fun c_5 => ?_)
  · refine j_iconst X dX6_undo_12 rfl (v := 0) (by decide) ?_
    refine jp_model X 9 (by decide) lk_RX6_41 rfl rfl rfl (vp_nar_int _) rfl rfl dX6_undo_13 rfl ?_
    refine j_name (fun S1 eS1 => ?_)
    refine j_aload_n X dX6_undo_16 rfl rfl (q := 0) rfl ?_
    refine jg_model X 9 (by decide) lk_RX6_41 rfl rfl dX6_undo_17 rfl ?_
    refine j_topeq (y := (0)) (by rw [eS1, setF_at, if_pos ⟨rfl, rfl, rfl, rfl⟩]) ?_
    refine j_if_eq_t X (tgt := 25) dX6_undo_20 (by decide) (by decide) ?_
    refine j_aload_n X dX6_undo_25 rfl rfl (q := 0) rfl ?_
    refine jg_model X 1 (by decide) lk_RX6_13 rfl rfl dX6_undo_26 rfl ?_
    refine j_aload_n X dX6_undo_29 rfl rfl (q := 0) rfl ?_
    refine jg_model X 0 (by decide) lk_RX6_7 rfl rfl dX6_undo_30 rfl ?_
    refine j_callSv X (c_X6_copyAll l Z S1 h 2 1 (wm_ref (by decide)) (fun _ _ => rfl) (wm_ref (by decide)) (fun _ _ => rfl)) lk_RX6_45 mt_X6_copyAll ini_RX6 mc_X6_copyAll md_X6_copyAll ⟨Nat.le_of_ble_eq_true rfl, Nat.le_of_ble_eq_true rfl⟩ ⟨Nat.le_of_ble_eq_true rfl, Nat.le_of_ble_eq_true rfl⟩ rfl (Nat.le_of_ble_eq_true rfl) (as := [.ref (zA Z (7) (0) (2)), .ref (zA Z (7) (0) (1))]) (rest := []) rfl dX6_undo_33 rfl ?_
    refine j_name (fun S2 eS2 => ?_)
    refine j_aload_n X dX6_undo_36 rfl rfl (q := 0) rfl ?_
    refine jg_model X 2 (by decide) lk_RX6_16 rfl rfl dX6_undo_37 rfl ?_
    refine j_aload_n X dX6_undo_40 rfl rfl (q := 0) rfl ?_
    refine jg_model X 1 (by decide) lk_RX6_13 rfl rfl dX6_undo_41 rfl ?_
    refine j_callSv X (c_X6_copyAll l Z S2 h 3 2 (wm_ref (by decide)) (fun _ _ => rfl) (wm_ref (by decide)) (fun _ _ => rfl)) lk_RX6_45 mt_X6_copyAll ini_RX6 mc_X6_copyAll md_X6_copyAll ⟨Nat.le_of_ble_eq_true rfl, Nat.le_of_ble_eq_true rfl⟩ ⟨Nat.le_of_ble_eq_true rfl, Nat.le_of_ble_eq_true rfl⟩ rfl (Nat.le_of_ble_eq_true rfl) (as := [.ref (zA Z (7) (0) (3)), .ref (zA Z (7) (0) (2))]) (rest := []) rfl dX6_undo_44 rfl ?_
    refine j_name (fun S3 eS3 => ?_)
    refine j_aload_n X dX6_undo_47 rfl rfl (q := 0) rfl ?_
    refine jg_model X 3 (by decide) lk_RX6_19 rfl rfl dX6_undo_48 rfl ?_
    refine j_aload_n X dX6_undo_51 rfl rfl (q := 0) rfl ?_
    refine jg_model X 2 (by decide) lk_RX6_16 rfl rfl dX6_undo_52 rfl ?_
    refine j_callSv X (c_X6_copyAll l Z S3 h 4 3 (wm_ref (by decide)) (fun _ _ => rfl) (wm_ref (by decide)) (fun _ _ => rfl)) lk_RX6_45 mt_X6_copyAll ini_RX6 mc_X6_copyAll md_X6_copyAll ⟨Nat.le_of_ble_eq_true rfl, Nat.le_of_ble_eq_true rfl⟩ ⟨Nat.le_of_ble_eq_true rfl, Nat.le_of_ble_eq_true rfl⟩ rfl (Nat.le_of_ble_eq_true rfl) (as := [.ref (zA Z (7) (0) (4)), .ref (zA Z (7) (0) (3))]) (rest := []) rfl dX6_undo_55 rfl ?_
    refine j_name (fun S4 eS4 => ?_)
    refine j_aload_n X dX6_undo_58 rfl rfl (q := 0) rfl ?_
    refine jg_model X 4 (by decide) lk_RX6_22 rfl rfl dX6_undo_59 rfl ?_
    refine j_aload_n X dX6_undo_62 rfl rfl (q := 0) rfl ?_
    refine jg_model X 3 (by decide) lk_RX6_19 rfl rfl dX6_undo_63 rfl ?_
    refine j_callSv X (c_X6_copyAll l Z S4 h 5 4 (wm_ref (by decide)) (fun _ _ => rfl) (wm_ref (by decide)) (fun _ _ => rfl)) lk_RX6_45 mt_X6_copyAll ini_RX6 mc_X6_copyAll md_X6_copyAll ⟨Nat.le_of_ble_eq_true rfl, Nat.le_of_ble_eq_true rfl⟩ ⟨Nat.le_of_ble_eq_true rfl, Nat.le_of_ble_eq_true rfl⟩ rfl (Nat.le_of_ble_eq_true rfl) (as := [.ref (zA Z (7) (0) (5)), .ref (zA Z (7) (0) (4))]) (rest := []) rfl dX6_undo_66 rfl ?_
    refine j_name (fun S5 eS5 => ?_)
    refine j_aload_n X dX6_undo_69 rfl rfl (q := 0) rfl ?_
    refine j_dup X dX6_undo_70 rfl rfl ?_
    refine jg_model X 5 (by decide) lk_RX6_49 rfl rfl dX6_undo_71 rfl ?_
    refine j_iconst X dX6_undo_74 rfl (v := 1) (by decide) ?_
    refine j_isub X dX6_undo_75 rfl ?_
    refine jp_model X 5 (by decide) lk_RX6_49 rfl rfl rfl (vp_nar_int _) rfl rfl dX6_undo_76 rfl ?_
    refine j_name (fun S6 eS6 => ?_)
    refine j_aload_n X dX6_undo_79 rfl rfl (q := 0) rfl ?_
    refine jg_model X 5 (by decide) lk_RX6_49 rfl rfl dX6_undo_80 rfl ?_
    exact j_ret (by subst eS1; subst eS2; subst eS3; subst eS4; subst eS5; subst eS6; first | with_reducible rfl | (simp [rUndo, c_5]; done) | (simp_all [rUndo]; done) | rfl) (by subst eS1; subst eS2; subst eS3; subst eS4; subst eS5; subst eS6; first | with_reducible rfl | (simp [rUndo, c_5]; done) | (simp_all [rUndo]; done) | rfl) rfl (K _ _ dX6_undo_83)
  · refine j_iconst X dX6_undo_8 rfl (v := 1) (by decide) ?_
    refine j_goto X (tgt := 13) dX6_undo_9 (by decide) ?_
    refine jp_model X 9 (by decide) lk_RX6_41 rfl rfl rfl (vp_nar_int _) rfl rfl dX6_undo_13 rfl ?_
    refine j_name (fun S7 eS7 => ?_)
    refine j_aload_n X dX6_undo_16 rfl rfl (q := 0) rfl ?_
    refine jg_model X 9 (by decide) lk_RX6_41 rfl rfl dX6_undo_17 rfl ?_
    refine j_topeq (y := (1)) (by rw [eS7, setF_at, if_pos ⟨rfl, rfl, rfl, rfl⟩]) ?_
    refine j_if_eq_f X dX6_undo_20 rfl (tgt := 25) (by decide) (by decide) ?_
    refine j_iconst X dX6_undo_23 rfl (v := 0) (by decide) ?_
    exact j_ret (by subst eS7; first | with_reducible rfl | (simp [rUndo, c_5]; done) | (simp_all [rUndo]; done) | rfl) (by subst eS7; first | with_reducible rfl | (simp [rUndo, c_5]; done) | (simp_all [rUndo]; done) | rfl) rfl (K _ _ dX6_undo_24)
set_option maxRecDepth 100000 in
set_option maxHeartbeats 4000000 in
theorem c_X6_again_no (l : Launch) (Z : wZ) (S : St) (h : Hl) (x : Int32) (hx : rIsC S x = false) : Ci l yX6_again cX6_again 2 .int 3 64 Z [.ref (zA Z (7) (0) (0)), .int (x)] S h (0) (rCd S 1) (h) := by
  refine Ci.of rfl rfl (Nat.le_of_ble_eq_true rfl) (fun p e s mi args below meth c A0 Q X K => ?_)
  refine j_at rfl rfl (Ls3 := [(0, .ref (zA Z (7) (0) (0))), (1, .int (x))]) rfl rfl ?_
  refine j_aload_n X dX6_again_0 rfl rfl (q := 0) rfl ?_
  refine j_aload_n X dX6_again_1 rfl rfl (q := 0) rfl ?_
  refine j_iload_n X dX6_again_2 rfl rfl (q := 1) rfl ?_
  refine j_calli X (c_X6_isCore l Z S h (x)) (wm_ref (by decide)) ((fun _ => rfl) _) rfl lk_RX6_94 mi_X6_isCore ms_X6_isCore ini_RX6 mc_X6_isCore md_X6_isCore ⟨Nat.le_of_ble_eq_true rfl, Nat.le_of_ble_eq_true rfl⟩ ⟨Nat.le_of_ble_eq_true rfl, Nat.le_of_ble_eq_true rfl⟩ rfl (Nat.le_of_ble_eq_true rfl) (as := [.int (x)]) (rest := [.ref (zA Z (7) (0) (0))]) rfl dX6_again_3 rfl ?_
  refine j_if_ne_f X dX6_again_6 rfl (tgt := 13) (by decide) (by rw [show rIn x 0 (S 7 0 1 0 - 1) = false from hx]; decide) ?_
  refine j_iconst X dX6_again_9 rfl (v := 1) (by decide) ?_
  refine j_goto X (tgt := 36) dX6_again_10 (by decide) ?_
  refine jp_model X 9 (by decide) lk_RX6_41 rfl rfl rfl (vp_nar_int _) rfl rfl dX6_again_36 rfl ?_
  refine j_name (fun S1 eS1 => ?_)
  refine j_aload_n X dX6_again_39 rfl rfl (q := 0) rfl ?_
  refine jg_model X 9 (by decide) lk_RX6_41 rfl rfl dX6_again_40 rfl ?_
  refine j_topeq (y := (1)) (by rw [eS1, setF_at, if_pos ⟨rfl, rfl, rfl, rfl⟩]) ?_
  refine j_if_eq_f X dX6_again_43 rfl (tgt := 48) (by decide) (by decide) ?_
  refine j_iconst X dX6_again_46 rfl (v := 0) (by decide) ?_
  exact j_ret (by subst eS1; first | with_reducible rfl | (simp []; done) | (simp_all []; done) | rfl) (by subst eS1; first | with_reducible rfl | (simp []; done) | (simp_all []; done) | rfl) rfl (K _ _ dX6_again_47)
set_option maxRecDepth 100000 in
set_option maxHeartbeats 4000000 in
theorem c_X6_again (l : Launch) (Z : wZ) (S : St) (h : Hl) (a : Nat) (ha : a < 4) (hx : rIsC S (nI a) = true) : Ci l yX6_again cX6_again 2 .int 3 64 Z [.ref (zA Z (7) (0) (0)), .int (nI (a))] S h ((rAgain S a).1) ((rAgain S a).2) (h) := by
  refine Ci.of rfl rfl (Nat.le_of_ble_eq_true rfl) (fun p e s mi args below meth c A0 Q X K => ?_)
  refine j_at rfl rfl (Ls3 := [(0, .ref (zA Z (7) (0) (0))), (1, .int (nI (a)))]) rfl rfl ?_
  refine j_aload_n X dX6_again_0 rfl rfl (q := 0) rfl ?_
  refine j_aload_n X dX6_again_1 rfl rfl (q := 0) rfl ?_
  refine j_iload_n X dX6_again_2 rfl rfl (q := 1) rfl ?_
  refine j_calli X (c_X6_isCore l Z S h (nI (a))) (wm_ref (by decide)) ((fun _ => rfl) _) rfl lk_RX6_94 mi_X6_isCore ms_X6_isCore ini_RX6 mc_X6_isCore md_X6_isCore ⟨Nat.le_of_ble_eq_true rfl, Nat.le_of_ble_eq_true rfl⟩ ⟨Nat.le_of_ble_eq_true rfl, Nat.le_of_ble_eq_true rfl⟩ rfl (Nat.le_of_ble_eq_true rfl) (as := [.int (nI (a))]) (rest := [.ref (zA Z (7) (0) (0))]) rfl dX6_again_3 rfl ?_
  refine j_if_ne_t X (tgt := 13) dX6_again_6 (by decide) (by rw [show rIn (nI a) 0 (S 7 0 1 0 - 1) = true from hx]; decide) ?_
  refine j_aload_n X dX6_again_13 rfl rfl (q := 0) rfl ?_
  refine j_iload_n X dX6_again_14 rfl rfl (q := 1) rfl ?_
  refine j_calli X (c_X6_isFinished l Z S h a (by omega)) (wm_ref (by decide)) ((fun _ => rfl) _) rfl lk_RX6_103 mi_X6_isFinished ms_X6_isFinished ini_RX6 mc_X6_isFinished md_X6_isFinished ⟨Nat.le_of_ble_eq_true rfl, Nat.le_of_ble_eq_true rfl⟩ ⟨Nat.le_of_ble_eq_true rfl, Nat.le_of_ble_eq_true rfl⟩ rfl (Nat.le_of_ble_eq_true rfl) (as := [.int (nI (a))]) (rest := [.ref (zA Z (7) (0) (0))]) rfl dX6_again_15 rfl ?_
  refine j_ifb_eq X dX6_again_18 rfl (tgt := 31) (by decide) (fun c_18 => ?_) (fun c_18 => ?_)
  · refine j_iconst X dX6_again_31 rfl (v := 2) (by decide) ?_
    refine j_goto X (tgt := 36) dX6_again_32 (by decide) ?_
    refine jp_model X 9 (by decide) lk_RX6_41 rfl rfl rfl (vp_nar_int _) rfl rfl dX6_again_36 rfl ?_
    refine j_name (fun S1 eS1 => ?_)
    refine j_aload_n X dX6_again_39 rfl rfl (q := 0) rfl ?_
    refine jg_model X 9 (by decide) lk_RX6_41 rfl rfl dX6_again_40 rfl ?_
    refine j_topeq (y := (2)) (by rw [eS1, setF_at, if_pos ⟨rfl, rfl, rfl, rfl⟩]) ?_
    refine j_if_eq_f X dX6_again_43 rfl (tgt := 48) (by decide) (by decide) ?_
    refine j_iconst X dX6_again_46 rfl (v := 0) (by decide) ?_
    exact j_ret (by subst eS1; first | with_reducible rfl | (simp [rAgain, c_18]; done) | (simp_all [rAgain]; done) | rfl) (by subst eS1; first | with_reducible rfl | (simp [rAgain, c_18]; done) | (simp_all [rAgain]; done) | rfl) rfl (K _ _ dX6_again_47)
  · refine j_aload_n X dX6_again_21 rfl rfl (q := 0) rfl ?_
    refine j_iload_n X dX6_again_22 rfl rfl (q := 1) rfl ?_
    refine j_iconst X dX6_again_23 rfl (v := 3) (by decide) ?_
    refine j_calli X (c_X6_of l Z S h a 3 (by omega)) (wm_ref (by decide)) ((fun _ => rfl) _) rfl lk_RX6_97 mi_X6_of ms_X6_of ini_RX6 mc_X6_of md_X6_of ⟨Nat.le_of_ble_eq_true rfl, Nat.le_of_ble_eq_true rfl⟩ ⟨Nat.le_of_ble_eq_true rfl, Nat.le_of_ble_eq_true rfl⟩ rfl (Nat.le_of_ble_eq_true rfl) (as := [.int (nI (a)), .int (3)]) (rest := [.ref (zA Z (7) (0) (0))]) rfl dX6_again_24 rfl ?_
    refine j_iconst X dX6_again_27 rfl (v := 1) (by decide) ?_
    refine j_icmp_ne X dX6_again_28 rfl (tgt := 35) (by decide) (fun c_28 => ?_) (fun c_28 => ?_)
    · refine j_iconst X dX6_again_35 rfl (v := 0) (by decide) ?_
      refine jp_model X 9 (by decide) lk_RX6_41 rfl rfl rfl (vp_nar_int _) rfl rfl dX6_again_36 rfl ?_
      refine j_name (fun S2 eS2 => ?_)
      refine j_aload_n X dX6_again_39 rfl rfl (q := 0) rfl ?_
      refine jg_model X 9 (by decide) lk_RX6_41 rfl rfl dX6_again_40 rfl ?_
      refine j_topeq (y := (0)) (by rw [eS2, setF_at, if_pos ⟨rfl, rfl, rfl, rfl⟩]) ?_
      refine j_if_eq_t X (tgt := 48) dX6_again_43 (by decide) (by decide) ?_
      refine j_aload_n X dX6_again_48 rfl rfl (q := 0) rfl ?_
      refine j_callv X (c_X6_keep l Z S2 h ) (wm_ref (by decide)) ((fun _ => rfl) _) rfl lk_RX6_63 mi_X6_keep ms_X6_keep ini_RX6 mc_X6_keep md_X6_keep ⟨Nat.le_of_ble_eq_true rfl, Nat.le_of_ble_eq_true rfl⟩ ⟨Nat.le_of_ble_eq_true rfl, Nat.le_of_ble_eq_true rfl⟩ rfl (Nat.le_of_ble_eq_true rfl) (as := []) (rest := []) rfl dX6_again_49 rfl ?_
      refine j_name (fun S3 eS3 => ?_)
      refine j_aload_n X dX6_again_52 rfl rfl (q := 0) rfl ?_
      refine j_iload_n X dX6_again_53 rfl rfl (q := 1) rfl ?_
      refine j_iconst X dX6_again_54 rfl (v := 1) (by decide) ?_
      refine j_iconst X dX6_again_55 rfl (v := 0) (by decide) ?_
      refine j_callv X (c_X6_put l Z S3 h a 1 (0) (by omega)) (wm_ref (by decide)) ((fun _ => rfl) _) rfl lk_RX6_60 mi_X6_put ms_X6_put ini_RX6 mc_X6_put md_X6_put ⟨Nat.le_of_ble_eq_true rfl, Nat.le_of_ble_eq_true rfl⟩ ⟨Nat.le_of_ble_eq_true rfl, Nat.le_of_ble_eq_true rfl⟩ rfl (Nat.le_of_ble_eq_true rfl) (as := [.int (nI (a)), .int (1), .int (0)]) (rest := []) rfl dX6_again_56 rfl ?_
      refine j_name (fun S4 eS4 => ?_)
      refine j_aload_n X dX6_again_59 rfl rfl (q := 0) rfl ?_
      refine j_iload_n X dX6_again_60 rfl rfl (q := 1) rfl ?_
      refine j_iconst X dX6_again_61 rfl (v := 2) (by decide) ?_
      refine j_calli X (c_X6_of l Z S4 h a 2 (by omega)) (wm_ref (by decide)) ((fun _ => rfl) _) rfl lk_RX6_97 mi_X6_of ms_X6_of ini_RX6 mc_X6_of md_X6_of ⟨Nat.le_of_ble_eq_true rfl, Nat.le_of_ble_eq_true rfl⟩ ⟨Nat.le_of_ble_eq_true rfl, Nat.le_of_ble_eq_true rfl⟩ rfl (Nat.le_of_ble_eq_true rfl) (as := [.int (nI (a)), .int (2)]) (rest := []) rfl dX6_again_62 rfl ?_
      exact j_ret (by subst eS2; subst eS3; subst eS4; first | with_reducible rfl | (simp [rAgain, c_18, c_28]; done) | (simp_all [rAgain]; done) | rfl) (by subst eS2; subst eS3; subst eS4; first | with_reducible rfl | (simp [rAgain, c_18, c_28]; done) | (simp_all [rAgain]; done) | rfl) rfl (K _ _ dX6_again_65)
    · refine j_iconst X dX6_again_31 rfl (v := 2) (by decide) ?_
      refine j_goto X (tgt := 36) dX6_again_32 (by decide) ?_
      refine jp_model X 9 (by decide) lk_RX6_41 rfl rfl rfl (vp_nar_int _) rfl rfl dX6_again_36 rfl ?_
      refine j_name (fun S5 eS5 => ?_)
      refine j_aload_n X dX6_again_39 rfl rfl (q := 0) rfl ?_
      refine jg_model X 9 (by decide) lk_RX6_41 rfl rfl dX6_again_40 rfl ?_
      refine j_topeq (y := (2)) (by rw [eS5, setF_at, if_pos ⟨rfl, rfl, rfl, rfl⟩]) ?_
      refine j_if_eq_f X dX6_again_43 rfl (tgt := 48) (by decide) (by decide) ?_
      refine j_iconst X dX6_again_46 rfl (v := 0) (by decide) ?_
      exact j_ret (by subst eS5; first | with_reducible rfl | (simp [rAgain, c_18, c_28]; done) | (simp_all [rAgain]; done) | rfl) (by subst eS5; first | with_reducible rfl | (simp [rAgain, c_18, c_28]; done) | (simp_all [rAgain]; done) | rfl) rfl (K _ _ dX6_again_47)

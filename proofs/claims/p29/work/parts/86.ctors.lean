/-! the bare objects, and what the constructors make of them -/
abbrev dX0 : List Value := [.null, .null, .null, .int 0, .int 0, .int 0, .int 0, .int 0, .int 0, .int 0, .int 0, .int 0, .null, .int 0, .int 0]
theorem dX0_ok : ∀ j, j < 15 → defaultValue (tyX0 j) = vp_V dX0 j := by
  intro j hj
  have h : j = 0 ∨ j = 1 ∨ j = 2 ∨ j = 3 ∨ j = 4 ∨ j = 5 ∨ j = 6 ∨ j = 7 ∨ j = 8 ∨ j = 9 ∨ j = 10 ∨ j = 11 ∨ j = 12 ∨ j = 13 ∨ j = 14 := by omega
  rcases h with rfl | rfl | rfl | rfl | rfl | rfl | rfl | rfl | rfl | rfl | rfl | rfl | rfl | rfl | rfl <;> rfl
abbrev dX1 : List Value := [.int 0, .null, .null, .null, .null, .null, .null, .int 0]
theorem dX1_ok : ∀ j, j < 8 → defaultValue (tyX1 j) = vp_V dX1 j := by
  intro j hj
  have h : j = 0 ∨ j = 1 ∨ j = 2 ∨ j = 3 ∨ j = 4 ∨ j = 5 ∨ j = 6 ∨ j = 7 := by omega
  rcases h with rfl | rfl | rfl | rfl | rfl | rfl | rfl | rfl <;> rfl
abbrev dX2 : List Value := [.null, .null, .null, .null, .int 0, .int 0, .int 0, .int 0, .int 0]
theorem dX2_ok : ∀ j, j < 9 → defaultValue (tyX2 j) = vp_V dX2 j := by
  intro j hj
  have h : j = 0 ∨ j = 1 ∨ j = 2 ∨ j = 3 ∨ j = 4 ∨ j = 5 ∨ j = 6 ∨ j = 7 ∨ j = 8 := by omega
  rcases h with rfl | rfl | rfl | rfl | rfl | rfl | rfl | rfl | rfl <;> rfl
abbrev dX3 : List Value := [.null, .null, .int 0]
theorem dX3_ok : ∀ j, j < 3 → defaultValue (tyX3 j) = vp_V dX3 j := by
  intro j hj
  have h : j = 0 ∨ j = 1 ∨ j = 2 := by omega
  rcases h with rfl | rfl | rfl <;> rfl
abbrev dX4 : List Value := [.null, .int 0, .int 0, .int 0, .int 0, .int 0]
theorem dX4_ok : ∀ j, j < 6 → defaultValue (tyX4 j) = vp_V dX4 j := by
  intro j hj
  have h : j = 0 ∨ j = 1 ∨ j = 2 ∨ j = 3 ∨ j = 4 ∨ j = 5 := by omega
  rcases h with rfl | rfl | rfl | rfl | rfl | rfl <;> rfl
abbrev dX5 : List Value := [.null, .int 0, .null, .null, .null, .null, .int 0, .int 0, .null]
theorem dX5_ok : ∀ j, j < 9 → defaultValue (tyX5 j) = vp_V dX5 j := by
  intro j hj
  have h : j = 0 ∨ j = 1 ∨ j = 2 ∨ j = 3 ∨ j = 4 ∨ j = 5 ∨ j = 6 ∨ j = 7 ∨ j = 8 := by omega
  rcases h with rfl | rfl | rfl | rfl | rfl | rfl | rfl | rfl | rfl <;> rfl
def E3 (Z : wZ) (o : Nat) : List va_E := [.inr (3, [.ref (o + 1), .ref (o + 2), .int 0]), eI Z 30 (fun _ => 0), eI Z 30 (fun _ => 0)]
def E0 (Z : wZ) (o : Nat) : List va_E := (([.inr (0, [.ref (o + 1), .ref (o + 2), .ref (o + 3), .int 0, .int 0, .int (-1), .int (-1), .int 0, .int 0, .int 0, .int 0, .int 0, .ref (o + 6), .int 0, .int 0]), eI Z 8 (fun _ => 0), eI Z 8 (fun _ => 0)] ++ E3 Z (o + 3)) ++ [eI Z 8 (fun _ => 0)])
def E1 (Z : wZ) (o n : Nat) : List va_E := [.inr (1, [.int (nI n), .ref (o + 1), .ref (o + 2), .ref (o + 3), .ref (o + 4), .ref (o + 5), .ref (o + 6), .int 0]), eI Z n (fun _ => 0), eI Z n (fun _ => 0), eI Z n (fun _ => 0), eI Z n (fun _ => 0), eI Z (n * 8) (fun _ => 0), eI Z (n * 8) (fun _ => 0)]
def rows4 (a b c d : Nat) : Nat → Option Nat := va_up (va_up (va_up (va_up (fun _ => none) 0 (some a)) 1 (some b)) 2 (some c)) 3 (some d)
def E2 (Z : wZ) (o n : Nat) : List va_E := (((((([.inr (2, [.ref (o + 1), .ref (o + 30), .ref (o + 31), .ref (o + 32), .int 2, .int 0, .int 4, .int 1, .int 0]), .inl (zC Z, 4, .inr (.inr (.inr (.inr (rows4 (o + 2) (o + 9) (o + 16) (o + 23))))))] ++ E0 Z (o + 2)) ++ E0 Z (o + 9)) ++ E0 Z (o + 16)) ++ E0 Z (o + 23)) ++ [eI Z 8 (fun _ => 0), eI Z 8 (fun _ => 0)]) ++ E1 Z (o + 32) n)
def E4 (Z : wZ) (o : Nat) : List va_E := ([.inr (4, [.ref (o + 1), .int 0, .int 0, .int 0, .int 0, .int 0])] ++ E3 Z (o + 1))
def E5 (Z : wZ) (o : Nat) : List va_E := ((((((((([.inr (5, [.ref (o + 1), .int 0, .ref (o + 2), .ref (o + 6), .ref (o + 45), .ref (o + 84), .int 0, .int 0, .ref (o + 241)]), eI Z 120 (fun _ => 0)] ++ E4 Z (o + 2)) ++ E2 Z (o + 6) 400) ++ E2 Z (o + 45) 0) ++ [.inl (zM Z, 4, .inr (.inr (.inr (.inr (rows4 (o + 85) (o + 124) (o + 163) (o + 202))))))]) ++ E2 Z (o + 85) 400) ++ E2 Z (o + 124) 400) ++ E2 Z (o + 163) 400) ++ E2 Z (o + 202) 400) ++ [eI Z 8 (fun _ => 0)])
theorem n_at {p : Program} {l : Launch} {e : Env} {R : Room} {s : State} {m : MethodId} {args : Array Value} {below : List Frame} {meth : Method} {c : Code} {n : Nat} {Z : wZ} {B : Nat} {F Es Es2 : List va_E} {cells slots k2 n2 : Nat} {Q : State → Prop} {Ls Ls2 : List (Nat × Value)} {pc : Nat} {st st2 : List Value} (h1 : cells = k2) (h2 : slots = n2) (h3 : Es = Es2) (h4 : Ls = Ls2) (h5 : st = st2) (k : NJ p l e R s m args below meth c n Z B k2 n2 Q F Es2 Ls2 pc st2) : NJ p l e R s m args below meth c n Z B cells slots Q F Es Ls pc st := by
  subst h1; subst h2; subst h3; subst h4; subst h5; exact k
set_option maxRecDepth 100000 in
set_option maxHeartbeats 4000000 in
theorem c_X3_init (l : Launch) (Z : wZ) (o : Nat) : Cn l yX3_init cX3_init 1 1 12 2 (60) Z [] o (.inr (3, dX3)) (E3 Z o) := by
  refine Cn.of rfl rfl (Nat.le_of_ble_eq_true rfl) (fun p e s mi args below meth c Q X hin K => ?_)
  refine n_at rfl rfl rfl (Ls2 := [(0, .ref (o + 0))]) rfl rfl ?_
  refine n_aload_n X dX3_init_0 rfl rfl (q := 0) rfl ?_
  refine n_objInit X lk_RX3_3 (List.mem_of_getElem? (i := 9) (by decide +kernel)) (List.mem_of_getElem? (i := 10) (by decide +kernel)) (Nat.le_of_ble_eq_true rfl) (Nat.le_of_ble_eq_true rfl) dX3_init_1 rfl ?_
  refine n_aload_n X dX3_init_4 rfl rfl (q := 0) rfl ?_
  refine n_bipush X dX3_init_5 rfl (v := 30) (by decide) ?_
  refine n_topeq (y := nI (30)) (by decide) ?_
  refine n_newI X (N := 30) (k := 1) (Nat.le_of_ble_eq_true rfl) (List.mem_of_getElem? (i := 11) (by decide +kernel)) (Nat.le_of_ble_eq_true rfl) (Nat.le_of_ble_eq_true rfl) dX3_init_7 rfl rfl ?_
  refine n_putF X (j := 0) (fs := _) inlX3 tyX3 tyX3_ok nmX3 rfl rfl 0 (by decide) lk_RX3_9 rfl rfl hin rfl rfl rfl rfl (Nat.le_of_ble_eq_true rfl) (Es2 := ([.inr (3, [.ref (o + 1), .null, .int 0])] ++ [eI Z (30) (fun _ => 0)])) rfl dX3_init_9 rfl ?_
  refine n_aload_n X dX3_init_12 rfl rfl (q := 0) rfl ?_
  refine n_bipush X dX3_init_13 rfl (v := 30) (by decide) ?_
  refine n_topeq (y := nI (30)) (by decide) ?_
  refine n_newI X (N := 30) (k := 2) (Nat.le_of_ble_eq_true rfl) (List.mem_of_getElem? (i := 11) (by decide +kernel)) (Nat.le_of_ble_eq_true rfl) (Nat.le_of_ble_eq_true rfl) dX3_init_15 rfl rfl ?_
  refine n_putF X (j := 0) (fs := _) inlX3 tyX3 tyX3_ok nmX3 rfl rfl 1 (by decide) lk_RX3_15 rfl rfl hin rfl rfl rfl rfl (Nat.le_of_ble_eq_true rfl) (Es2 := (([.inr (3, [.ref (o + 1), .ref (o + 2), .int 0])] ++ [eI Z (30) (fun _ => 0)]) ++ [eI Z (30) (fun _ => 0)])) rfl dX3_init_17 rfl ?_
  refine n_aload_n X dX3_init_20 rfl rfl (q := 0) rfl ?_
  refine n_iconst X dX3_init_21 rfl (v := 0) (by decide) ?_
  refine n_put X (j := 0) (fs := _) inlX3 tyX3 tyX3_ok nmX3 rfl rfl 2 (by decide) lk_RX3_18 rfl rfl rfl (vp_nar_int _) rfl (Nat.le_of_ble_eq_true rfl) (Es2 := (([.inr (3, [.ref (o + 1), .ref (o + 2), .int (0)])] ++ [eI Z (30) (fun _ => 0)]) ++ [eI Z (30) (fun _ => 0)])) rfl dX3_init_22 rfl ?_
  exact n_at rfl rfl rfl rfl rfl (K _ _ dX3_init_25)
set_option maxRecDepth 100000 in
set_option maxHeartbeats 4000000 in
theorem c_X0_init (l : Launch) (Z : wZ) (o : Nat) : Cn l yX0_init cX0_init 1 2 32 6 (87) Z [] o (.inr (0, dX0)) (E0 Z o) := by
  refine Cn.of rfl rfl (Nat.le_of_ble_eq_true rfl) (fun p e s mi args below meth c Q X hin K => ?_)
  refine n_at rfl rfl rfl (Ls2 := [(0, .ref (o + 0))]) rfl rfl ?_
  refine n_aload_n X dX0_init_0 rfl rfl (q := 0) rfl ?_
  refine n_objInit X lk_RX0_3 (List.mem_of_getElem? (i := 9) (by decide +kernel)) (List.mem_of_getElem? (i := 10) (by decide +kernel)) (Nat.le_of_ble_eq_true rfl) (Nat.le_of_ble_eq_true rfl) dX0_init_1 rfl ?_
  refine n_aload_n X dX0_init_4 rfl rfl (q := 0) rfl ?_
  refine n_bipush X dX0_init_5 rfl (v := 8) (by decide) ?_
  refine n_topeq (y := nI (8)) (by decide) ?_
  refine n_newI X (N := 8) (k := 1) (Nat.le_of_ble_eq_true rfl) (List.mem_of_getElem? (i := 11) (by decide +kernel)) (Nat.le_of_ble_eq_true rfl) (Nat.le_of_ble_eq_true rfl) dX0_init_7 rfl rfl ?_
  refine n_putF X (j := 0) (fs := _) inlX0 tyX0 tyX0_ok nmX0 rfl rfl 0 (by decide) lk_RX0_9 rfl rfl hin rfl rfl rfl rfl (Nat.le_of_ble_eq_true rfl) (Es2 := ([.inr (0, [.ref (o + 1), .null, .null, .int 0, .int 0, .int 0, .int 0, .int 0, .int 0, .int 0, .int 0, .int 0, .null, .int 0, .int 0])] ++ [eI Z (8) (fun _ => 0)])) rfl dX0_init_9 rfl ?_
  refine n_aload_n X dX0_init_12 rfl rfl (q := 0) rfl ?_
  refine n_bipush X dX0_init_13 rfl (v := 8) (by decide) ?_
  refine n_topeq (y := nI (8)) (by decide) ?_
  refine n_newI X (N := 8) (k := 2) (Nat.le_of_ble_eq_true rfl) (List.mem_of_getElem? (i := 11) (by decide +kernel)) (Nat.le_of_ble_eq_true rfl) (Nat.le_of_ble_eq_true rfl) dX0_init_15 rfl rfl ?_
  refine n_putF X (j := 0) (fs := _) inlX0 tyX0 tyX0_ok nmX0 rfl rfl 1 (by decide) lk_RX0_15 rfl rfl hin rfl rfl rfl rfl (Nat.le_of_ble_eq_true rfl) (Es2 := (([.inr (0, [.ref (o + 1), .ref (o + 2), .null, .int 0, .int 0, .int 0, .int 0, .int 0, .int 0, .int 0, .int 0, .int 0, .null, .int 0, .int 0])] ++ [eI Z (8) (fun _ => 0)]) ++ [eI Z (8) (fun _ => 0)])) rfl dX0_init_17 rfl ?_
  refine n_aload_n X dX0_init_20 rfl rfl (q := 0) rfl ?_
  refine n_new X (k := 3) (ci := 3) (fs := dX3) (C := RX3) (T := TX3) (N := 3) inlX3 tyX3 tyX3_ok (List.mem_of_getElem? (i := 68) (by decide +kernel)) (List.mem_of_getElem? (i := 31) (by decide +kernel)) ini_RX3 rfl dX3_ok (Nat.le_of_ble_eq_true rfl) (Nat.le_of_ble_eq_true rfl) dX0_init_21 rfl rfl ?_
  refine n_dup X dX0_init_24 rfl rfl ?_
  refine n_callN X (k := 3) (c_X3_init l Z (o + 3)) rfl nk_RX0_20 mi_X3_init ini_RX3 mc_X3_init ⟨by decide +kernel, by decide +kernel, by decide +kernel⟩ (na := 0) ⟨Nat.le_of_ble_eq_true rfl, Nat.le_of_ble_eq_true rfl⟩ ⟨Nat.le_of_ble_eq_true rfl, (Nat.le_of_ble_eq_true rfl)⟩ rfl (Nat.le_of_ble_eq_true rfl) (as := []) (rest := [.ref (o + 3), .ref (o + 0)]) rfl rfl rfl dX0_init_25 rfl ?_
  refine n_putF X (j := 0) (fs := _) inlX0 tyX0 tyX0_ok nmX0 rfl rfl 2 (by decide) lk_RX0_21 rfl rfl hin rfl rfl rfl rfl (Nat.le_of_ble_eq_true rfl) (Es2 := ((([.inr (0, [.ref (o + 1), .ref (o + 2), .ref (o + 3), .int 0, .int 0, .int 0, .int 0, .int 0, .int 0, .int 0, .int 0, .int 0, .null, .int 0, .int 0])] ++ [eI Z (8) (fun _ => 0)]) ++ [eI Z (8) (fun _ => 0)]) ++ E3 Z (o + 3))) rfl dX0_init_28 rfl ?_
  refine n_aload_n X dX0_init_31 rfl rfl (q := 0) rfl ?_
  refine n_bipush X dX0_init_32 rfl (v := 8) (by decide) ?_
  refine n_topeq (y := nI (8)) (by decide) ?_
  refine n_newI X (N := 8) (k := 6) (Nat.le_of_ble_eq_true rfl) (List.mem_of_getElem? (i := 11) (by decide +kernel)) (Nat.le_of_ble_eq_true rfl) (Nat.le_of_ble_eq_true rfl) dX0_init_34 rfl rfl ?_
  refine n_putF X (j := 0) (fs := _) inlX0 tyX0 tyX0_ok nmX0 rfl rfl 12 (by decide) lk_RX0_25 rfl rfl hin rfl rfl rfl rfl (Nat.le_of_ble_eq_true rfl) (Es2 := (((([.inr (0, [.ref (o + 1), .ref (o + 2), .ref (o + 3), .int 0, .int 0, .int 0, .int 0, .int 0, .int 0, .int 0, .int 0, .int 0, .ref (o + 6), .int 0, .int 0])] ++ [eI Z (8) (fun _ => 0)]) ++ [eI Z (8) (fun _ => 0)]) ++ E3 Z (o + 3)) ++ [eI Z (8) (fun _ => 0)])) rfl dX0_init_36 rfl ?_
  refine n_aload_n X dX0_init_39 rfl rfl (q := 0) rfl ?_
  refine n_iconst X dX0_init_40 rfl (v := -1) (by decide) ?_
  refine n_put X (j := 0) (fs := _) inlX0 tyX0 tyX0_ok nmX0 rfl rfl 5 (by decide) lk_RX0_28 rfl rfl rfl (vp_nar_int _) rfl (Nat.le_of_ble_eq_true rfl) (Es2 := (((([.inr (0, [.ref (o + 1), .ref (o + 2), .ref (o + 3), .int 0, .int 0, .int (-1), .int 0, .int 0, .int 0, .int 0, .int 0, .int 0, .ref (o + 6), .int 0, .int 0])] ++ [eI Z (8) (fun _ => 0)]) ++ [eI Z (8) (fun _ => 0)]) ++ E3 Z (o + 3)) ++ [eI Z (8) (fun _ => 0)])) rfl dX0_init_41 rfl ?_
  refine n_aload_n X dX0_init_44 rfl rfl (q := 0) rfl ?_
  refine n_iconst X dX0_init_45 rfl (v := -1) (by decide) ?_
  refine n_put X (j := 0) (fs := _) inlX0 tyX0 tyX0_ok nmX0 rfl rfl 6 (by decide) lk_RX0_32 rfl rfl rfl (vp_nar_int _) rfl (Nat.le_of_ble_eq_true rfl) (Es2 := (((([.inr (0, [.ref (o + 1), .ref (o + 2), .ref (o + 3), .int 0, .int 0, .int (-1), .int (-1), .int 0, .int 0, .int 0, .int 0, .int 0, .ref (o + 6), .int 0, .int 0])] ++ [eI Z (8) (fun _ => 0)]) ++ [eI Z (8) (fun _ => 0)]) ++ E3 Z (o + 3)) ++ [eI Z (8) (fun _ => 0)])) rfl dX0_init_46 rfl ?_
  exact n_at rfl rfl rfl rfl rfl (K _ _ dX0_init_49)
set_option maxRecDepth 100000 in
set_option maxHeartbeats 4000000 in
theorem c_X1_init (l : Launch) (Z : wZ) (o : Nat) (n : Nat) (hn : n ≤ 400) : Cn l yX1_init cX1_init 2 1 12 6 (0 + (n) + (n) + (n) + (n) + (n * 8) + (n * 8)) Z [.int (nI n)] o (.inr (1, dX1)) (E1 Z o n) := by
  refine Cn.of rfl rfl (Nat.le_of_ble_eq_true rfl) (fun p e s mi args below meth c Q X hin K => ?_)
  refine n_at rfl rfl rfl (Ls2 := [(0, .ref (o + 0)), (1, .int (nI (n)))]) rfl rfl ?_
  refine n_aload_n X dX1_init_0 rfl rfl (q := 0) rfl ?_
  refine n_objInit X lk_RX1_3 (List.mem_of_getElem? (i := 9) (by decide +kernel)) (List.mem_of_getElem? (i := 10) (by decide +kernel)) (Nat.le_of_ble_eq_true rfl) (Nat.le_of_ble_eq_true rfl) dX1_init_1 rfl ?_
  refine n_aload_n X dX1_init_4 rfl rfl (q := 0) rfl ?_
  refine n_iload_n X dX1_init_5 rfl rfl (q := 1) rfl ?_
  refine n_if_ge_t X (tgt := 13) dX1_init_6 (by decide) (nI_pos' (by omega)) ?_
  refine n_iload_n X dX1_init_13 rfl rfl (q := 1) rfl ?_
  refine n_putF X (j := 0) (fs := _) inlX1 tyX1 tyX1_ok nmX1 rfl rfl 0 (by decide) lk_RX1_9 rfl rfl hin rfl rfl (vp_nar_int _) rfl (Nat.le_of_ble_eq_true rfl) (Es2 := [.inr (1, [.int (nI (n)), .null, .null, .null, .null, .null, .null, .int 0])]) rfl dX1_init_14 rfl ?_
  refine n_aload_n X dX1_init_17 rfl rfl (q := 0) rfl ?_
  refine n_aload_n X dX1_init_18 rfl rfl (q := 0) rfl ?_
  refine n_get X (j := 0) inlX1 rfl rfl 0 (by decide) lk_RX1_9 rfl (v := .int (nI (n))) rfl dX1_init_19 rfl ?_
  refine n_newI X (N := n) (k := 1) (by omega) (List.mem_of_getElem? (i := 11) (by decide +kernel)) (Nat.le_of_ble_eq_true rfl) (by dsimp only; omega) dX1_init_22 rfl rfl ?_
  refine n_putF X (j := 0) (fs := _) inlX1 tyX1 tyX1_ok nmX1 rfl rfl 1 (by decide) lk_RX1_15 rfl rfl hin rfl rfl rfl rfl (Nat.le_of_ble_eq_true rfl) (Es2 := ([.inr (1, [.int (nI (n)), .ref (o + 1), .null, .null, .null, .null, .null, .int 0])] ++ [eI Z (n) (fun _ => 0)])) rfl dX1_init_24 rfl ?_
  refine n_aload_n X dX1_init_27 rfl rfl (q := 0) rfl ?_
  refine n_aload_n X dX1_init_28 rfl rfl (q := 0) rfl ?_
  refine n_get X (j := 0) inlX1 rfl rfl 0 (by decide) lk_RX1_9 rfl (v := .int (nI (n))) rfl dX1_init_29 rfl ?_
  refine n_newI X (N := n) (k := 2) (by omega) (List.mem_of_getElem? (i := 11) (by decide +kernel)) (Nat.le_of_ble_eq_true rfl) (by dsimp only; omega) dX1_init_32 rfl rfl ?_
  refine n_putF X (j := 0) (fs := _) inlX1 tyX1 tyX1_ok nmX1 rfl rfl 2 (by decide) lk_RX1_19 rfl rfl hin rfl rfl rfl rfl (Nat.le_of_ble_eq_true rfl) (Es2 := (([.inr (1, [.int (nI (n)), .ref (o + 1), .ref (o + 2), .null, .null, .null, .null, .int 0])] ++ [eI Z (n) (fun _ => 0)]) ++ [eI Z (n) (fun _ => 0)])) rfl dX1_init_34 rfl ?_
  refine n_aload_n X dX1_init_37 rfl rfl (q := 0) rfl ?_
  refine n_aload_n X dX1_init_38 rfl rfl (q := 0) rfl ?_
  refine n_get X (j := 0) inlX1 rfl rfl 0 (by decide) lk_RX1_9 rfl (v := .int (nI (n))) rfl dX1_init_39 rfl ?_
  refine n_newI X (N := n) (k := 3) (by omega) (List.mem_of_getElem? (i := 11) (by decide +kernel)) (Nat.le_of_ble_eq_true rfl) (by dsimp only; omega) dX1_init_42 rfl rfl ?_
  refine n_putF X (j := 0) (fs := _) inlX1 tyX1 tyX1_ok nmX1 rfl rfl 3 (by decide) lk_RX1_22 rfl rfl hin rfl rfl rfl rfl (Nat.le_of_ble_eq_true rfl) (Es2 := ((([.inr (1, [.int (nI (n)), .ref (o + 1), .ref (o + 2), .ref (o + 3), .null, .null, .null, .int 0])] ++ [eI Z (n) (fun _ => 0)]) ++ [eI Z (n) (fun _ => 0)]) ++ [eI Z (n) (fun _ => 0)])) rfl dX1_init_44 rfl ?_
  refine n_aload_n X dX1_init_47 rfl rfl (q := 0) rfl ?_
  refine n_aload_n X dX1_init_48 rfl rfl (q := 0) rfl ?_
  refine n_get X (j := 0) inlX1 rfl rfl 0 (by decide) lk_RX1_9 rfl (v := .int (nI (n))) rfl dX1_init_49 rfl ?_
  refine n_newI X (N := n) (k := 4) (by omega) (List.mem_of_getElem? (i := 11) (by decide +kernel)) (Nat.le_of_ble_eq_true rfl) (by dsimp only; omega) dX1_init_52 rfl rfl ?_
  refine n_putF X (j := 0) (fs := _) inlX1 tyX1 tyX1_ok nmX1 rfl rfl 4 (by decide) lk_RX1_25 rfl rfl hin rfl rfl rfl rfl (Nat.le_of_ble_eq_true rfl) (Es2 := (((([.inr (1, [.int (nI (n)), .ref (o + 1), .ref (o + 2), .ref (o + 3), .ref (o + 4), .null, .null, .int 0])] ++ [eI Z (n) (fun _ => 0)]) ++ [eI Z (n) (fun _ => 0)]) ++ [eI Z (n) (fun _ => 0)]) ++ [eI Z (n) (fun _ => 0)])) rfl dX1_init_54 rfl ?_
  refine n_aload_n X dX1_init_57 rfl rfl (q := 0) rfl ?_
  refine n_aload_n X dX1_init_58 rfl rfl (q := 0) rfl ?_
  refine n_get X (j := 0) inlX1 rfl rfl 0 (by decide) lk_RX1_9 rfl (v := .int (nI (n))) rfl dX1_init_59 rfl ?_
  refine n_bipush X dX1_init_62 rfl (v := 8) (by decide) ?_
  refine n_imul X dX1_init_64 rfl ?_
  refine n_topeq (y := nI (n * 8)) (pk_mul n 8) ?_
  refine n_newI X (N := n * 8) (k := 5) (by omega) (List.mem_of_getElem? (i := 11) (by decide +kernel)) (Nat.le_of_ble_eq_true rfl) (by dsimp only; omega) dX1_init_65 rfl rfl ?_
  refine n_putF X (j := 0) (fs := _) inlX1 tyX1 tyX1_ok nmX1 rfl rfl 5 (by decide) lk_RX1_28 rfl rfl hin rfl rfl rfl rfl (Nat.le_of_ble_eq_true rfl) (Es2 := ((((([.inr (1, [.int (nI (n)), .ref (o + 1), .ref (o + 2), .ref (o + 3), .ref (o + 4), .ref (o + 5), .null, .int 0])] ++ [eI Z (n) (fun _ => 0)]) ++ [eI Z (n) (fun _ => 0)]) ++ [eI Z (n) (fun _ => 0)]) ++ [eI Z (n) (fun _ => 0)]) ++ [eI Z (n * 8) (fun _ => 0)])) rfl dX1_init_67 rfl ?_
  refine n_aload_n X dX1_init_70 rfl rfl (q := 0) rfl ?_
  refine n_aload_n X dX1_init_71 rfl rfl (q := 0) rfl ?_
  refine n_get X (j := 0) inlX1 rfl rfl 0 (by decide) lk_RX1_9 rfl (v := .int (nI (n))) rfl dX1_init_72 rfl ?_
  refine n_bipush X dX1_init_75 rfl (v := 8) (by decide) ?_
  refine n_imul X dX1_init_77 rfl ?_
  refine n_topeq (y := nI (n * 8)) (pk_mul n 8) ?_
  refine n_newI X (N := n * 8) (k := 6) (by omega) (List.mem_of_getElem? (i := 11) (by decide +kernel)) (Nat.le_of_ble_eq_true rfl) (by dsimp only; omega) dX1_init_78 rfl rfl ?_
  refine n_putF X (j := 0) (fs := _) inlX1 tyX1 tyX1_ok nmX1 rfl rfl 6 (by decide) lk_RX1_31 rfl rfl hin rfl rfl rfl rfl (Nat.le_of_ble_eq_true rfl) (Es2 := (((((([.inr (1, [.int (nI (n)), .ref (o + 1), .ref (o + 2), .ref (o + 3), .ref (o + 4), .ref (o + 5), .ref (o + 6), .int 0])] ++ [eI Z (n) (fun _ => 0)]) ++ [eI Z (n) (fun _ => 0)]) ++ [eI Z (n) (fun _ => 0)]) ++ [eI Z (n) (fun _ => 0)]) ++ [eI Z (n * 8) (fun _ => 0)]) ++ [eI Z (n * 8) (fun _ => 0)])) rfl dX1_init_80 rfl ?_
  refine n_aload_n X dX1_init_83 rfl rfl (q := 0) rfl ?_
  refine n_iconst X dX1_init_84 rfl (v := 0) (by decide) ?_
  refine n_put X (j := 0) (fs := _) inlX1 tyX1 tyX1_ok nmX1 rfl rfl 7 (by decide) lk_RX1_34 rfl rfl rfl (vp_nar_int _) rfl (Nat.le_of_ble_eq_true rfl) (Es2 := (((((([.inr (1, [.int (nI (n)), .ref (o + 1), .ref (o + 2), .ref (o + 3), .ref (o + 4), .ref (o + 5), .ref (o + 6), .int (0)])] ++ [eI Z (n) (fun _ => 0)]) ++ [eI Z (n) (fun _ => 0)]) ++ [eI Z (n) (fun _ => 0)]) ++ [eI Z (n) (fun _ => 0)]) ++ [eI Z (n * 8) (fun _ => 0)]) ++ [eI Z (n * 8) (fun _ => 0)])) rfl dX1_init_85 rfl ?_
  exact n_at rfl rfl rfl rfl rfl (K _ _ dX1_init_88)
set_option maxRecDepth 100000 in
set_option maxHeartbeats 4000000 in
theorem c_X2_init (l : Launch) (Z : wZ) (o : Nat) (n : Nat) (hn : n ≤ 400) : Cn l yX2_init cX2_init 3 3 52 38 (0 + 4 + 15 + (87) + 15 + (87) + 15 + (87) + 15 + (87) + (8) + (8) + 8 + (0 + (n) + (n) + (n) + (n) + (n * 8) + (n * 8))) Z [.int (nI n)] o (.inr (2, dX2)) (E2 Z o n) := by
  refine Cn.of rfl rfl (Nat.le_of_ble_eq_true rfl) (fun p e s mi args below meth c Q X hin K => ?_)
  refine n_at rfl rfl rfl (Ls2 := [(0, .ref (o + 0)), (1, .int (nI (n)))]) rfl rfl ?_
  refine n_aload_n X dX2_init_0 rfl rfl (q := 0) rfl ?_
  refine n_objInit X lk_RX2_3 (List.mem_of_getElem? (i := 9) (by decide +kernel)) (List.mem_of_getElem? (i := 10) (by decide +kernel)) (Nat.le_of_ble_eq_true rfl) (Nat.le_of_ble_eq_true rfl) dX2_init_1 rfl ?_
  refine n_aload_n X dX2_init_4 rfl rfl (q := 0) rfl ?_
  refine n_iconst X dX2_init_5 rfl (v := 4) (by decide) ?_
  refine n_newq X (k := 1) X.2.2.2.2.2.2.2.1.1 (t0 := 1) rfl (List.mem_of_getElem? (i := 48) (by decide +kernel)) (Nat.le_of_ble_eq_true rfl) (by dsimp only; omega) dX2_init_6 rfl rfl ?_
  refine n_putF X (j := 0) (fs := _) inlX2 tyX2 tyX2_ok nmX2 rfl rfl 0 (by decide) lk_RX2_11 rfl rfl hin rfl rfl rfl rfl (Nat.le_of_ble_eq_true rfl) (Es2 := ([.inr (2, [.ref (o + 1), .null, .null, .null, .int 0, .int 0, .int 0, .int 0, .int 0])] ++ [.inl (zC Z, 4, .inr (.inr (.inr (.inr (fun _ => none)))))])) rfl dX2_init_9 rfl ?_
  refine n_iconst X dX2_init_12 rfl (v := 0) (by decide) ?_
  refine n_topeq (y := nI (0)) (by decide) ?_
  refine n_istore_n X dX2_init_13 rfl rfl (by decide) (Ls2 := [(2, .int (nI (0))), (0, .ref (o + 0)), (1, .int (nI (n)))]) rfl ?_
  refine n_iload_n X dX2_init_14 rfl rfl (q := 0) rfl ?_
  refine n_iconst X dX2_init_15 rfl (v := 4) (by decide) ?_
  refine n_icmp_ge_f X dX2_init_16 rfl (tgt := 38) (by decide) (by decide) ?_
  refine n_aload_n X dX2_init_19 rfl rfl (q := 1) rfl ?_
  refine n_get X (j := 0) inlX2 rfl rfl 0 (by decide) lk_RX2_11 rfl (v := .ref (o + 1)) rfl dX2_init_20 rfl ?_
  refine n_iload_n X dX2_init_23 rfl rfl (q := 0) rfl ?_
  refine n_new X (k := 2) (ci := 0) (fs := dX0) (C := RX0) (T := TX0) (N := 15) inlX0 tyX0 tyX0_ok (List.mem_of_getElem? (i := 48) (by decide +kernel)) (List.mem_of_getElem? (i := 50) (by decide +kernel)) ini_RX0 rfl dX0_ok (Nat.le_of_ble_eq_true rfl) (by dsimp only; omega) dX2_init_24 rfl rfl ?_
  refine n_dup X dX2_init_27 rfl rfl ?_
  refine n_callN X (k := 2) (c_X0_init l Z (o + 2)) rfl nk_RX2_17 mi_X0_init ini_RX0 mc_X0_init ⟨by decide +kernel, by decide +kernel, by decide +kernel⟩ (na := 0) ⟨Nat.le_of_ble_eq_true rfl, Nat.le_of_ble_eq_true rfl⟩ ⟨Nat.le_of_ble_eq_true rfl, (by dsimp only; omega)⟩ rfl (Nat.le_of_ble_eq_true rfl) (as := []) (rest := [.ref (o + 2), .int (nI (0)), .ref (o + 1)]) rfl rfl rfl dX2_init_28 rfl ?_
  refine n_aast X (j := 1) (jv := 2) (i := 0) (ci := 0) (t0 := 1) rfl rfl rfl rfl (by decide) (Es2 := (([.inr (2, [.ref (o + 1), .null, .null, .null, .int 0, .int 0, .int 0, .int 0, .int 0])] ++ [.inl (zC Z, 4, .inr (.inr (.inr (.inr (va_up (fun _ => none) 0 (some (o + 2)))))))]) ++ E0 Z (o + 2))) rfl dX2_init_31 rfl ?_
  refine n_iinc X dX2_init_32 rfl (q := 0) rfl (v := nI (1)) (by decide) (by decide) (Ls2 := [(2, .int (nI (1))), (0, .ref (o + 0)), (1, .int (nI (n)))]) rfl ?_
  refine n_goto X (tgt := 14) dX2_init_35 (by decide) ?_
  refine n_iload_n X dX2_init_14 rfl rfl (q := 0) rfl ?_
  refine n_iconst X dX2_init_15 rfl (v := 4) (by decide) ?_
  refine n_icmp_ge_f X dX2_init_16 rfl (tgt := 38) (by decide) (by decide) ?_
  refine n_aload_n X dX2_init_19 rfl rfl (q := 1) rfl ?_
  refine n_get X (j := 0) inlX2 rfl rfl 0 (by decide) lk_RX2_11 rfl (v := .ref (o + 1)) rfl dX2_init_20 rfl ?_
  refine n_iload_n X dX2_init_23 rfl rfl (q := 0) rfl ?_
  refine n_new X (k := 9) (ci := 0) (fs := dX0) (C := RX0) (T := TX0) (N := 15) inlX0 tyX0 tyX0_ok (List.mem_of_getElem? (i := 48) (by decide +kernel)) (List.mem_of_getElem? (i := 50) (by decide +kernel)) ini_RX0 rfl dX0_ok (Nat.le_of_ble_eq_true rfl) (by dsimp only; omega) dX2_init_24 rfl rfl ?_
  refine n_dup X dX2_init_27 rfl rfl ?_
  refine n_callN X (k := 9) (c_X0_init l Z (o + 9)) rfl nk_RX2_17 mi_X0_init ini_RX0 mc_X0_init ⟨by decide +kernel, by decide +kernel, by decide +kernel⟩ (na := 0) ⟨Nat.le_of_ble_eq_true rfl, Nat.le_of_ble_eq_true rfl⟩ ⟨Nat.le_of_ble_eq_true rfl, (by dsimp only; omega)⟩ rfl (Nat.le_of_ble_eq_true rfl) (as := []) (rest := [.ref (o + 9), .int (nI (1)), .ref (o + 1)]) rfl rfl rfl dX2_init_28 rfl ?_
  refine n_aast X (j := 1) (jv := 9) (i := 1) (ci := 0) (t0 := 1) rfl rfl rfl rfl (by decide) (Es2 := ((([.inr (2, [.ref (o + 1), .null, .null, .null, .int 0, .int 0, .int 0, .int 0, .int 0])] ++ [.inl (zC Z, 4, .inr (.inr (.inr (.inr (va_up (va_up (fun _ => none) 0 (some (o + 2))) 1 (some (o + 9)))))))]) ++ E0 Z (o + 2)) ++ E0 Z (o + 9))) rfl dX2_init_31 rfl ?_
  refine n_iinc X dX2_init_32 rfl (q := 0) rfl (v := nI (2)) (by decide) (by decide) (Ls2 := [(2, .int (nI (2))), (0, .ref (o + 0)), (1, .int (nI (n)))]) rfl ?_
  refine n_goto X (tgt := 14) dX2_init_35 (by decide) ?_
  refine n_iload_n X dX2_init_14 rfl rfl (q := 0) rfl ?_
  refine n_iconst X dX2_init_15 rfl (v := 4) (by decide) ?_
  refine n_icmp_ge_f X dX2_init_16 rfl (tgt := 38) (by decide) (by decide) ?_
  refine n_aload_n X dX2_init_19 rfl rfl (q := 1) rfl ?_
  refine n_get X (j := 0) inlX2 rfl rfl 0 (by decide) lk_RX2_11 rfl (v := .ref (o + 1)) rfl dX2_init_20 rfl ?_
  refine n_iload_n X dX2_init_23 rfl rfl (q := 0) rfl ?_
  refine n_new X (k := 16) (ci := 0) (fs := dX0) (C := RX0) (T := TX0) (N := 15) inlX0 tyX0 tyX0_ok (List.mem_of_getElem? (i := 48) (by decide +kernel)) (List.mem_of_getElem? (i := 50) (by decide +kernel)) ini_RX0 rfl dX0_ok (Nat.le_of_ble_eq_true rfl) (by dsimp only; omega) dX2_init_24 rfl rfl ?_
  refine n_dup X dX2_init_27 rfl rfl ?_
  refine n_callN X (k := 16) (c_X0_init l Z (o + 16)) rfl nk_RX2_17 mi_X0_init ini_RX0 mc_X0_init ⟨by decide +kernel, by decide +kernel, by decide +kernel⟩ (na := 0) ⟨Nat.le_of_ble_eq_true rfl, Nat.le_of_ble_eq_true rfl⟩ ⟨Nat.le_of_ble_eq_true rfl, (by dsimp only; omega)⟩ rfl (Nat.le_of_ble_eq_true rfl) (as := []) (rest := [.ref (o + 16), .int (nI (2)), .ref (o + 1)]) rfl rfl rfl dX2_init_28 rfl ?_
  refine n_aast X (j := 1) (jv := 16) (i := 2) (ci := 0) (t0 := 1) rfl rfl rfl rfl (by decide) (Es2 := (((([.inr (2, [.ref (o + 1), .null, .null, .null, .int 0, .int 0, .int 0, .int 0, .int 0])] ++ [.inl (zC Z, 4, .inr (.inr (.inr (.inr (va_up (va_up (va_up (fun _ => none) 0 (some (o + 2))) 1 (some (o + 9))) 2 (some (o + 16)))))))]) ++ E0 Z (o + 2)) ++ E0 Z (o + 9)) ++ E0 Z (o + 16))) rfl dX2_init_31 rfl ?_
  refine n_iinc X dX2_init_32 rfl (q := 0) rfl (v := nI (3)) (by decide) (by decide) (Ls2 := [(2, .int (nI (3))), (0, .ref (o + 0)), (1, .int (nI (n)))]) rfl ?_
  refine n_goto X (tgt := 14) dX2_init_35 (by decide) ?_
  refine n_iload_n X dX2_init_14 rfl rfl (q := 0) rfl ?_
  refine n_iconst X dX2_init_15 rfl (v := 4) (by decide) ?_
  refine n_icmp_ge_f X dX2_init_16 rfl (tgt := 38) (by decide) (by decide) ?_
  refine n_aload_n X dX2_init_19 rfl rfl (q := 1) rfl ?_
  refine n_get X (j := 0) inlX2 rfl rfl 0 (by decide) lk_RX2_11 rfl (v := .ref (o + 1)) rfl dX2_init_20 rfl ?_
  refine n_iload_n X dX2_init_23 rfl rfl (q := 0) rfl ?_
  refine n_new X (k := 23) (ci := 0) (fs := dX0) (C := RX0) (T := TX0) (N := 15) inlX0 tyX0 tyX0_ok (List.mem_of_getElem? (i := 48) (by decide +kernel)) (List.mem_of_getElem? (i := 50) (by decide +kernel)) ini_RX0 rfl dX0_ok (Nat.le_of_ble_eq_true rfl) (by dsimp only; omega) dX2_init_24 rfl rfl ?_
  refine n_dup X dX2_init_27 rfl rfl ?_
  refine n_callN X (k := 23) (c_X0_init l Z (o + 23)) rfl nk_RX2_17 mi_X0_init ini_RX0 mc_X0_init ⟨by decide +kernel, by decide +kernel, by decide +kernel⟩ (na := 0) ⟨Nat.le_of_ble_eq_true rfl, Nat.le_of_ble_eq_true rfl⟩ ⟨Nat.le_of_ble_eq_true rfl, (by dsimp only; omega)⟩ rfl (Nat.le_of_ble_eq_true rfl) (as := []) (rest := [.ref (o + 23), .int (nI (3)), .ref (o + 1)]) rfl rfl rfl dX2_init_28 rfl ?_
  refine n_aast X (j := 1) (jv := 23) (i := 3) (ci := 0) (t0 := 1) rfl rfl rfl rfl (by decide) (Es2 := ((((([.inr (2, [.ref (o + 1), .null, .null, .null, .int 0, .int 0, .int 0, .int 0, .int 0])] ++ [.inl (zC Z, 4, .inr (.inr (.inr (.inr (va_up (va_up (va_up (va_up (fun _ => none) 0 (some (o + 2))) 1 (some (o + 9))) 2 (some (o + 16))) 3 (some (o + 23)))))))]) ++ E0 Z (o + 2)) ++ E0 Z (o + 9)) ++ E0 Z (o + 16)) ++ E0 Z (o + 23))) rfl dX2_init_31 rfl ?_
  refine n_iinc X dX2_init_32 rfl (q := 0) rfl (v := nI (4)) (by decide) (by decide) (Ls2 := [(2, .int (nI (4))), (0, .ref (o + 0)), (1, .int (nI (n)))]) rfl ?_
  refine n_goto X (tgt := 14) dX2_init_35 (by decide) ?_
  refine n_iload_n X dX2_init_14 rfl rfl (q := 0) rfl ?_
  refine n_iconst X dX2_init_15 rfl (v := 4) (by decide) ?_
  refine n_icmp_ge_t X (tgt := 38) dX2_init_16 (by decide) (by decide) ?_
  refine n_aload_n X dX2_init_38 rfl rfl (q := 1) rfl ?_
  refine n_bipush X dX2_init_39 rfl (v := 8) (by decide) ?_
  refine n_topeq (y := nI (8)) (by decide) ?_
  refine n_newI X (N := 8) (k := 30) (Nat.le_of_ble_eq_true rfl) (List.mem_of_getElem? (i := 11) (by decide +kernel)) (Nat.le_of_ble_eq_true rfl) (by dsimp only; omega) dX2_init_41 rfl rfl ?_
  refine n_putF X (j := 0) (fs := _) inlX2 tyX2 tyX2_ok nmX2 rfl rfl 1 (by decide) lk_RX2_18 rfl rfl hin rfl rfl rfl rfl (Nat.le_of_ble_eq_true rfl) (Es2 := (((((([.inr (2, [.ref (o + 1), .ref (o + 30), .null, .null, .int 0, .int 0, .int 0, .int 0, .int 0])] ++ [.inl (zC Z, 4, .inr (.inr (.inr (.inr (va_up (va_up (va_up (va_up (fun _ => none) 0 (some (o + 2))) 1 (some (o + 9))) 2 (some (o + 16))) 3 (some (o + 23)))))))]) ++ E0 Z (o + 2)) ++ E0 Z (o + 9)) ++ E0 Z (o + 16)) ++ E0 Z (o + 23)) ++ [eI Z (8) (fun _ => 0)])) rfl dX2_init_43 rfl ?_
  refine n_aload_n X dX2_init_46 rfl rfl (q := 1) rfl ?_
  refine n_bipush X dX2_init_47 rfl (v := 8) (by decide) ?_
  refine n_topeq (y := nI (8)) (by decide) ?_
  refine n_newI X (N := 8) (k := 31) (Nat.le_of_ble_eq_true rfl) (List.mem_of_getElem? (i := 11) (by decide +kernel)) (Nat.le_of_ble_eq_true rfl) (by dsimp only; omega) dX2_init_49 rfl rfl ?_
  refine n_putF X (j := 0) (fs := _) inlX2 tyX2 tyX2_ok nmX2 rfl rfl 2 (by decide) lk_RX2_22 rfl rfl hin rfl rfl rfl rfl (Nat.le_of_ble_eq_true rfl) (Es2 := ((((((([.inr (2, [.ref (o + 1), .ref (o + 30), .ref (o + 31), .null, .int 0, .int 0, .int 0, .int 0, .int 0])] ++ [.inl (zC Z, 4, .inr (.inr (.inr (.inr (va_up (va_up (va_up (va_up (fun _ => none) 0 (some (o + 2))) 1 (some (o + 9))) 2 (some (o + 16))) 3 (some (o + 23)))))))]) ++ E0 Z (o + 2)) ++ E0 Z (o + 9)) ++ E0 Z (o + 16)) ++ E0 Z (o + 23)) ++ [eI Z (8) (fun _ => 0)]) ++ [eI Z (8) (fun _ => 0)])) rfl dX2_init_51 rfl ?_
  refine n_aload_n X dX2_init_54 rfl rfl (q := 1) rfl ?_
  refine n_new X (k := 32) (ci := 1) (fs := dX1) (C := RX1) (T := TX1) (N := 8) inlX1 tyX1 tyX1_ok (List.mem_of_getElem? (i := 54) (by decide +kernel)) (List.mem_of_getElem? (i := 55) (by decide +kernel)) ini_RX1 rfl dX1_ok (Nat.le_of_ble_eq_true rfl) (by dsimp only; omega) dX2_init_55 rfl rfl ?_
  refine n_dup X dX2_init_58 rfl rfl ?_
  refine n_iload_n X dX2_init_59 rfl rfl (q := 2) rfl ?_
  refine n_callN X (k := 32) (c_X1_init l Z (o + 32) n hn) rfl nk_RX2_27 mi_X1_init ini_RX1 mc_X1_init ⟨by decide +kernel, by decide +kernel, by decide +kernel⟩ (na := 1) ⟨Nat.le_of_ble_eq_true rfl, Nat.le_of_ble_eq_true rfl⟩ ⟨Nat.le_of_ble_eq_true rfl, (by dsimp only; omega)⟩ rfl (Nat.le_of_ble_eq_true rfl) (as := [.int (nI (n))]) (rest := [.ref (o + 32), .ref (o + 0)]) rfl rfl rfl dX2_init_60 rfl ?_
  refine n_putF X (j := 0) (fs := _) inlX2 tyX2 tyX2_ok nmX2 rfl rfl 3 (by decide) lk_RX2_30 rfl rfl hin rfl rfl rfl rfl (Nat.le_of_ble_eq_true rfl) (Es2 := (((((((([.inr (2, [.ref (o + 1), .ref (o + 30), .ref (o + 31), .ref (o + 32), .int 0, .int 0, .int 0, .int 0, .int 0])] ++ [.inl (zC Z, 4, .inr (.inr (.inr (.inr (va_up (va_up (va_up (va_up (fun _ => none) 0 (some (o + 2))) 1 (some (o + 9))) 2 (some (o + 16))) 3 (some (o + 23)))))))]) ++ E0 Z (o + 2)) ++ E0 Z (o + 9)) ++ E0 Z (o + 16)) ++ E0 Z (o + 23)) ++ [eI Z (8) (fun _ => 0)]) ++ [eI Z (8) (fun _ => 0)]) ++ E1 Z (o + 32) n)) rfl dX2_init_63 rfl ?_
  refine n_aload_n X dX2_init_66 rfl rfl (q := 1) rfl ?_
  refine n_iconst X dX2_init_67 rfl (v := 2) (by decide) ?_
  refine n_put X (j := 0) (fs := _) inlX2 tyX2 tyX2_ok nmX2 rfl rfl 4 (by decide) lk_RX2_34 rfl rfl rfl (vp_nar_int _) rfl (Nat.le_of_ble_eq_true rfl) (Es2 := (((((((([.inr (2, [.ref (o + 1), .ref (o + 30), .ref (o + 31), .ref (o + 32), .int (2), .int 0, .int 0, .int 0, .int 0])] ++ [.inl (zC Z, 4, .inr (.inr (.inr (.inr (va_up (va_up (va_up (va_up (fun _ => none) 0 (some (o + 2))) 1 (some (o + 9))) 2 (some (o + 16))) 3 (some (o + 23)))))))]) ++ E0 Z (o + 2)) ++ E0 Z (o + 9)) ++ E0 Z (o + 16)) ++ E0 Z (o + 23)) ++ [eI Z (8) (fun _ => 0)]) ++ [eI Z (8) (fun _ => 0)]) ++ E1 Z (o + 32) n)) rfl dX2_init_68 rfl ?_
  refine n_aload_n X dX2_init_71 rfl rfl (q := 1) rfl ?_
  refine n_iconst X dX2_init_72 rfl (v := 0) (by decide) ?_
  refine n_put X (j := 0) (fs := _) inlX2 tyX2 tyX2_ok nmX2 rfl rfl 5 (by decide) lk_RX2_38 rfl rfl rfl (vp_nar_int _) rfl (Nat.le_of_ble_eq_true rfl) (Es2 := (((((((([.inr (2, [.ref (o + 1), .ref (o + 30), .ref (o + 31), .ref (o + 32), .int (2), .int (0), .int 0, .int 0, .int 0])] ++ [.inl (zC Z, 4, .inr (.inr (.inr (.inr (va_up (va_up (va_up (va_up (fun _ => none) 0 (some (o + 2))) 1 (some (o + 9))) 2 (some (o + 16))) 3 (some (o + 23)))))))]) ++ E0 Z (o + 2)) ++ E0 Z (o + 9)) ++ E0 Z (o + 16)) ++ E0 Z (o + 23)) ++ [eI Z (8) (fun _ => 0)]) ++ [eI Z (8) (fun _ => 0)]) ++ E1 Z (o + 32) n)) rfl dX2_init_73 rfl ?_
  refine n_aload_n X dX2_init_76 rfl rfl (q := 1) rfl ?_
  refine n_iconst X dX2_init_77 rfl (v := 4) (by decide) ?_
  refine n_put X (j := 0) (fs := _) inlX2 tyX2 tyX2_ok nmX2 rfl rfl 6 (by decide) lk_RX2_41 rfl rfl rfl (vp_nar_int _) rfl (Nat.le_of_ble_eq_true rfl) (Es2 := (((((((([.inr (2, [.ref (o + 1), .ref (o + 30), .ref (o + 31), .ref (o + 32), .int (2), .int (0), .int (4), .int 0, .int 0])] ++ [.inl (zC Z, 4, .inr (.inr (.inr (.inr (va_up (va_up (va_up (va_up (fun _ => none) 0 (some (o + 2))) 1 (some (o + 9))) 2 (some (o + 16))) 3 (some (o + 23)))))))]) ++ E0 Z (o + 2)) ++ E0 Z (o + 9)) ++ E0 Z (o + 16)) ++ E0 Z (o + 23)) ++ [eI Z (8) (fun _ => 0)]) ++ [eI Z (8) (fun _ => 0)]) ++ E1 Z (o + 32) n)) rfl dX2_init_78 rfl ?_
  refine n_aload_n X dX2_init_81 rfl rfl (q := 1) rfl ?_
  refine n_iconst X dX2_init_82 rfl (v := 1) (by decide) ?_
  refine n_put X (j := 0) (fs := _) inlX2 tyX2 tyX2_ok nmX2 rfl rfl 7 (by decide) lk_RX2_44 rfl rfl rfl (vp_nar_int _) rfl (Nat.le_of_ble_eq_true rfl) (Es2 := (((((((([.inr (2, [.ref (o + 1), .ref (o + 30), .ref (o + 31), .ref (o + 32), .int (2), .int (0), .int (4), .int (1), .int 0])] ++ [.inl (zC Z, 4, .inr (.inr (.inr (.inr (va_up (va_up (va_up (va_up (fun _ => none) 0 (some (o + 2))) 1 (some (o + 9))) 2 (some (o + 16))) 3 (some (o + 23)))))))]) ++ E0 Z (o + 2)) ++ E0 Z (o + 9)) ++ E0 Z (o + 16)) ++ E0 Z (o + 23)) ++ [eI Z (8) (fun _ => 0)]) ++ [eI Z (8) (fun _ => 0)]) ++ E1 Z (o + 32) n)) rfl dX2_init_83 rfl ?_
  refine n_aload_n X dX2_init_86 rfl rfl (q := 1) rfl ?_
  refine n_iconst X dX2_init_87 rfl (v := 0) (by decide) ?_
  refine n_put X (j := 0) (fs := _) inlX2 tyX2 tyX2_ok nmX2 rfl rfl 8 (by decide) lk_RX2_47 rfl rfl rfl (vp_nar_int _) rfl (Nat.le_of_ble_eq_true rfl) (Es2 := (((((((([.inr (2, [.ref (o + 1), .ref (o + 30), .ref (o + 31), .ref (o + 32), .int (2), .int (0), .int (4), .int (1), .int (0)])] ++ [.inl (zC Z, 4, .inr (.inr (.inr (.inr (va_up (va_up (va_up (va_up (fun _ => none) 0 (some (o + 2))) 1 (some (o + 9))) 2 (some (o + 16))) 3 (some (o + 23)))))))]) ++ E0 Z (o + 2)) ++ E0 Z (o + 9)) ++ E0 Z (o + 16)) ++ E0 Z (o + 23)) ++ [eI Z (8) (fun _ => 0)]) ++ [eI Z (8) (fun _ => 0)]) ++ E1 Z (o + 32) n)) rfl dX2_init_88 rfl ?_
  exact n_at rfl rfl rfl rfl rfl (K _ _ dX2_init_91)
set_option maxRecDepth 100000 in
set_option maxHeartbeats 4000000 in
theorem c_X4_init (l : Launch) (Z : wZ) (o : Nat) : Cn l yX4_init cX4_init 1 2 32 3 (63) Z [] o (.inr (4, dX4)) (E4 Z o) := by
  refine Cn.of rfl rfl (Nat.le_of_ble_eq_true rfl) (fun p e s mi args below meth c Q X hin K => ?_)
  refine n_at rfl rfl rfl (Ls2 := [(0, .ref (o + 0))]) rfl rfl ?_
  refine n_aload_n X dX4_init_0 rfl rfl (q := 0) rfl ?_
  refine n_objInit X lk_RX4_3 (List.mem_of_getElem? (i := 9) (by decide +kernel)) (List.mem_of_getElem? (i := 10) (by decide +kernel)) (Nat.le_of_ble_eq_true rfl) (Nat.le_of_ble_eq_true rfl) dX4_init_1 rfl ?_
  refine n_aload_n X dX4_init_4 rfl rfl (q := 0) rfl ?_
  refine n_new X (k := 1) (ci := 3) (fs := dX3) (C := RX3) (T := TX3) (N := 3) inlX3 tyX3 tyX3_ok (List.mem_of_getElem? (i := 30) (by decide +kernel)) (List.mem_of_getElem? (i := 31) (by decide +kernel)) ini_RX3 rfl dX3_ok (Nat.le_of_ble_eq_true rfl) (Nat.le_of_ble_eq_true rfl) dX4_init_5 rfl rfl ?_
  refine n_dup X dX4_init_8 rfl rfl ?_
  refine n_callN X (k := 1) (c_X3_init l Z (o + 1)) rfl nk_RX4_11 mi_X3_init ini_RX3 mc_X3_init ⟨by decide +kernel, by decide +kernel, by decide +kernel⟩ (na := 0) ⟨Nat.le_of_ble_eq_true rfl, Nat.le_of_ble_eq_true rfl⟩ ⟨Nat.le_of_ble_eq_true rfl, (Nat.le_of_ble_eq_true rfl)⟩ rfl (Nat.le_of_ble_eq_true rfl) (as := []) (rest := [.ref (o + 1), .ref (o + 0)]) rfl rfl rfl dX4_init_9 rfl ?_
  refine n_putF X (j := 0) (fs := _) inlX4 tyX4 tyX4_ok nmX4 rfl rfl 0 (by decide) lk_RX4_12 rfl rfl hin rfl rfl rfl rfl (Nat.le_of_ble_eq_true rfl) (Es2 := ([.inr (4, [.ref (o + 1), .int 0, .int 0, .int 0, .int 0, .int 0])] ++ E3 Z (o + 1))) rfl dX4_init_12 rfl ?_
  refine n_aload_n X dX4_init_15 rfl rfl (q := 0) rfl ?_
  refine n_iconst X dX4_init_16 rfl (v := 0) (by decide) ?_
  refine n_put X (j := 0) (fs := _) inlX4 tyX4 tyX4_ok nmX4 rfl rfl 1 (by decide) lk_RX4_18 rfl rfl rfl (vp_nar_int _) rfl (Nat.le_of_ble_eq_true rfl) (Es2 := ([.inr (4, [.ref (o + 1), .int (0), .int 0, .int 0, .int 0, .int 0])] ++ E3 Z (o + 1))) rfl dX4_init_17 rfl ?_
  refine n_aload_n X dX4_init_20 rfl rfl (q := 0) rfl ?_
  refine n_iconst X dX4_init_21 rfl (v := 0) (by decide) ?_
  refine n_put X (j := 0) (fs := _) inlX4 tyX4 tyX4_ok nmX4 rfl rfl 2 (by decide) lk_RX4_22 rfl rfl rfl (vp_nar_int _) rfl (Nat.le_of_ble_eq_true rfl) (Es2 := ([.inr (4, [.ref (o + 1), .int (0), .int (0), .int 0, .int 0, .int 0])] ++ E3 Z (o + 1))) rfl dX4_init_22 rfl ?_
  refine n_aload_n X dX4_init_25 rfl rfl (q := 0) rfl ?_
  refine n_iconst X dX4_init_26 rfl (v := 0) (by decide) ?_
  refine n_put X (j := 0) (fs := _) inlX4 tyX4 tyX4_ok nmX4 rfl rfl 3 (by decide) lk_RX4_25 rfl rfl rfl (vp_nar_int _) rfl (Nat.le_of_ble_eq_true rfl) (Es2 := ([.inr (4, [.ref (o + 1), .int (0), .int (0), .int (0), .int 0, .int 0])] ++ E3 Z (o + 1))) rfl dX4_init_27 rfl ?_
  refine n_aload_n X dX4_init_30 rfl rfl (q := 0) rfl ?_
  refine n_iconst X dX4_init_31 rfl (v := 0) (by decide) ?_
  refine n_put X (j := 0) (fs := _) inlX4 tyX4 tyX4_ok nmX4 rfl rfl 4 (by decide) lk_RX4_28 rfl rfl rfl (vp_nar_int _) rfl (Nat.le_of_ble_eq_true rfl) (Es2 := ([.inr (4, [.ref (o + 1), .int (0), .int (0), .int (0), .int (0), .int 0])] ++ E3 Z (o + 1))) rfl dX4_init_32 rfl ?_
  refine n_aload_n X dX4_init_35 rfl rfl (q := 0) rfl ?_
  refine n_iconst X dX4_init_36 rfl (v := 0) (by decide) ?_
  refine n_put X (j := 0) (fs := _) inlX4 tyX4 tyX4_ok nmX4 rfl rfl 5 (by decide) lk_RX4_31 rfl rfl rfl (by decide) rfl (Nat.le_of_ble_eq_true rfl) (Es2 := ([.inr (4, [.ref (o + 1), .int (0), .int (0), .int (0), .int (0), .int (0)])] ++ E3 Z (o + 1))) rfl dX4_init_37 rfl ?_
  exact n_at rfl rfl rfl rfl rfl (K _ _ dX4_init_40)
set_option maxRecDepth 100000 in
set_option maxHeartbeats 4000000 in
theorem c_X5_init (l : Launch) (Z : wZ) (o : Nat) : Cn l yX5_init cX5_init 2 4 74 241 (42871) Z [] o (.inr (5, dX5)) (E5 Z o) := by
  refine Cn.of rfl rfl (Nat.le_of_ble_eq_true rfl) (fun p e s mi args below meth c Q X hin K => ?_)
  refine n_at rfl rfl rfl (Ls2 := [(0, .ref (o + 0))]) rfl rfl ?_
  refine n_aload_n X dX5_init_0 rfl rfl (q := 0) rfl ?_
  refine n_objInit X lk_RX5_1 (List.mem_of_getElem? (i := 9) (by decide +kernel)) (List.mem_of_getElem? (i := 10) (by decide +kernel)) (Nat.le_of_ble_eq_true rfl) (Nat.le_of_ble_eq_true rfl) dX5_init_1 rfl ?_
  refine n_aload_n X dX5_init_4 rfl rfl (q := 0) rfl ?_
  refine n_bipush X dX5_init_5 rfl (v := 120) (by decide) ?_
  refine n_topeq (y := nI (120)) (by decide) ?_
  refine n_newI X (N := 120) (k := 1) (Nat.le_of_ble_eq_true rfl) (List.mem_of_getElem? (i := 11) (by decide +kernel)) (Nat.le_of_ble_eq_true rfl) (Nat.le_of_ble_eq_true rfl) dX5_init_7 rfl rfl ?_
  refine n_putF X (j := 0) (fs := _) inlX5 tyX5 tyX5_ok nmX5 rfl rfl 0 (by decide) lk_RX5_9 rfl rfl hin rfl rfl rfl rfl (Nat.le_of_ble_eq_true rfl) (Es2 := ([.inr (5, [.ref (o + 1), .int 0, .null, .null, .null, .null, .int 0, .int 0, .null])] ++ [eI Z (120) (fun _ => 0)])) rfl dX5_init_9 rfl ?_
  refine n_aload_n X dX5_init_12 rfl rfl (q := 0) rfl ?_
  refine n_iconst X dX5_init_13 rfl (v := 0) (by decide) ?_
  refine n_put X (j := 0) (fs := _) inlX5 tyX5 tyX5_ok nmX5 rfl rfl 1 (by decide) lk_RX5_13 rfl rfl rfl (vp_nar_int _) rfl (Nat.le_of_ble_eq_true rfl) (Es2 := ([.inr (5, [.ref (o + 1), .int (0), .null, .null, .null, .null, .int 0, .int 0, .null])] ++ [eI Z (120) (fun _ => 0)])) rfl dX5_init_14 rfl ?_
  refine n_aload_n X dX5_init_17 rfl rfl (q := 0) rfl ?_
  refine n_new X (k := 2) (ci := 4) (fs := dX4) (C := RX4) (T := TX4) (N := 6) inlX4 tyX4 tyX4_ok (List.mem_of_getElem? (i := 14) (by decide +kernel)) (List.mem_of_getElem? (i := 15) (by decide +kernel)) ini_RX4 rfl dX4_ok (Nat.le_of_ble_eq_true rfl) (Nat.le_of_ble_eq_true rfl) dX5_init_18 rfl rfl ?_
  refine n_dup X dX5_init_21 rfl rfl ?_
  refine n_callN X (k := 2) (c_X4_init l Z (o + 2)) rfl nk_RX5_19 mi_X4_init ini_RX4 mc_X4_init ⟨by decide +kernel, by decide +kernel, by decide +kernel⟩ (na := 0) ⟨Nat.le_of_ble_eq_true rfl, Nat.le_of_ble_eq_true rfl⟩ ⟨Nat.le_of_ble_eq_true rfl, (Nat.le_of_ble_eq_true rfl)⟩ rfl (Nat.le_of_ble_eq_true rfl) (as := []) (rest := [.ref (o + 2), .ref (o + 0)]) rfl rfl rfl dX5_init_22 rfl ?_
  refine n_putF X (j := 0) (fs := _) inlX5 tyX5 tyX5_ok nmX5 rfl rfl 2 (by decide) lk_RX5_20 rfl rfl hin rfl rfl rfl rfl (Nat.le_of_ble_eq_true rfl) (Es2 := (([.inr (5, [.ref (o + 1), .int (0), .ref (o + 2), .null, .null, .null, .int 0, .int 0, .null])] ++ [eI Z (120) (fun _ => 0)]) ++ E4 Z (o + 2))) rfl dX5_init_25 rfl ?_
  refine n_aload_n X dX5_init_28 rfl rfl (q := 0) rfl ?_
  refine n_new X (k := 6) (ci := 2) (fs := dX2) (C := RX2) (T := TX2) (N := 9) inlX2 tyX2 tyX2_ok (List.mem_of_getElem? (i := 18) (by decide +kernel)) (List.mem_of_getElem? (i := 19) (by decide +kernel)) ini_RX2 rfl dX2_ok (Nat.le_of_ble_eq_true rfl) (Nat.le_of_ble_eq_true rfl) dX5_init_29 rfl rfl ?_
  refine n_dup X dX5_init_32 rfl rfl ?_
  refine n_sipush X dX5_init_33 rfl (v := 400) (by decide) ?_
  refine n_at rfl rfl rfl rfl (st2 := [.int (nI (400)), .ref (o + 6), .ref (o + 6), .ref (o + 0)]) rfl ?_
  refine n_callN X (k := 6) (c_X2_init l Z (o + 6) 400 (by decide)) rfl nk_RX5_26 mi_X2_init ini_RX2 mc_X2_init ⟨by decide +kernel, by decide +kernel, by decide +kernel⟩ (na := 1) ⟨Nat.le_of_ble_eq_true rfl, Nat.le_of_ble_eq_true rfl⟩ ⟨Nat.le_of_ble_eq_true rfl, (Nat.le_of_ble_eq_true rfl)⟩ rfl (Nat.le_of_ble_eq_true rfl) (as := [.int (nI (400))]) (rest := [.ref (o + 6), .ref (o + 0)]) rfl rfl rfl dX5_init_36 rfl ?_
  refine n_putF X (j := 0) (fs := _) inlX5 tyX5 tyX5_ok nmX5 rfl rfl 3 (by decide) lk_RX5_29 rfl rfl hin rfl rfl rfl rfl (Nat.le_of_ble_eq_true rfl) (Es2 := ((([.inr (5, [.ref (o + 1), .int (0), .ref (o + 2), .ref (o + 6), .null, .null, .int 0, .int 0, .null])] ++ [eI Z (120) (fun _ => 0)]) ++ E4 Z (o + 2)) ++ E2 Z (o + 6) 400)) rfl dX5_init_39 rfl ?_
  refine n_aload_n X dX5_init_42 rfl rfl (q := 0) rfl ?_
  refine n_new X (k := 45) (ci := 2) (fs := dX2) (C := RX2) (T := TX2) (N := 9) inlX2 tyX2 tyX2_ok (List.mem_of_getElem? (i := 18) (by decide +kernel)) (List.mem_of_getElem? (i := 19) (by decide +kernel)) ini_RX2 rfl dX2_ok (Nat.le_of_ble_eq_true rfl) (Nat.le_of_ble_eq_true rfl) dX5_init_43 rfl rfl ?_
  refine n_dup X dX5_init_46 rfl rfl ?_
  refine n_iconst X dX5_init_47 rfl (v := 0) (by decide) ?_
  refine n_at rfl rfl rfl rfl (st2 := [.int (nI (0)), .ref (o + 45), .ref (o + 45), .ref (o + 0)]) rfl ?_
  refine n_callN X (k := 45) (c_X2_init l Z (o + 45) 0 (by decide)) rfl nk_RX5_26 mi_X2_init ini_RX2 mc_X2_init ⟨by decide +kernel, by decide +kernel, by decide +kernel⟩ (na := 1) ⟨Nat.le_of_ble_eq_true rfl, Nat.le_of_ble_eq_true rfl⟩ ⟨Nat.le_of_ble_eq_true rfl, (Nat.le_of_ble_eq_true rfl)⟩ rfl (Nat.le_of_ble_eq_true rfl) (as := [.int (nI (0))]) (rest := [.ref (o + 45), .ref (o + 0)]) rfl rfl rfl dX5_init_48 rfl ?_
  refine n_putF X (j := 0) (fs := _) inlX5 tyX5 tyX5_ok nmX5 rfl rfl 4 (by decide) lk_RX5_33 rfl rfl hin rfl rfl rfl rfl (Nat.le_of_ble_eq_true rfl) (Es2 := (((([.inr (5, [.ref (o + 1), .int (0), .ref (o + 2), .ref (o + 6), .ref (o + 45), .null, .int 0, .int 0, .null])] ++ [eI Z (120) (fun _ => 0)]) ++ E4 Z (o + 2)) ++ E2 Z (o + 6) 400) ++ E2 Z (o + 45) 0)) rfl dX5_init_51 rfl ?_
  refine n_aload_n X dX5_init_54 rfl rfl (q := 0) rfl ?_
  refine n_iconst X dX5_init_55 rfl (v := 4) (by decide) ?_
  refine n_newq X (k := 84) X.2.2.2.2.2.2.2.1.2 (t0 := 2) rfl (List.mem_of_getElem? (i := 18) (by decide +kernel)) (Nat.le_of_ble_eq_true rfl) (Nat.le_of_ble_eq_true rfl) dX5_init_56 rfl rfl ?_
  refine n_putF X (j := 0) (fs := _) inlX5 tyX5 tyX5_ok nmX5 rfl rfl 5 (by decide) lk_RX5_36 rfl rfl hin rfl rfl rfl rfl (Nat.le_of_ble_eq_true rfl) (Es2 := ((((([.inr (5, [.ref (o + 1), .int (0), .ref (o + 2), .ref (o + 6), .ref (o + 45), .ref (o + 84), .int 0, .int 0, .null])] ++ [eI Z (120) (fun _ => 0)]) ++ E4 Z (o + 2)) ++ E2 Z (o + 6) 400) ++ E2 Z (o + 45) 0) ++ [.inl (zM Z, 4, .inr (.inr (.inr (.inr (fun _ => none)))))])) rfl dX5_init_59 rfl ?_
  refine n_iconst X dX5_init_62 rfl (v := 0) (by decide) ?_
  refine n_topeq (y := nI (0)) (by decide) ?_
  refine n_istore_n X dX5_init_63 rfl rfl (by decide) (Ls2 := [(1, .int (nI (0))), (0, .ref (o + 0))]) rfl ?_
  refine n_iload_n X dX5_init_64 rfl rfl (q := 0) rfl ?_
  refine n_iconst X dX5_init_65 rfl (v := 4) (by decide) ?_
  refine n_icmp_ge_f X dX5_init_66 rfl (tgt := 91) (by decide) (by decide) ?_
  refine n_aload_n X dX5_init_69 rfl rfl (q := 1) rfl ?_
  refine n_get X (j := 0) inlX5 rfl rfl 5 (by decide) lk_RX5_36 rfl (v := .ref (o + 84)) rfl dX5_init_70 rfl ?_
  refine n_iload_n X dX5_init_73 rfl rfl (q := 0) rfl ?_
  refine n_new X (k := 85) (ci := 2) (fs := dX2) (C := RX2) (T := TX2) (N := 9) inlX2 tyX2 tyX2_ok (List.mem_of_getElem? (i := 18) (by decide +kernel)) (List.mem_of_getElem? (i := 19) (by decide +kernel)) ini_RX2 rfl dX2_ok (Nat.le_of_ble_eq_true rfl) (Nat.le_of_ble_eq_true rfl) dX5_init_74 rfl rfl ?_
  refine n_dup X dX5_init_77 rfl rfl ?_
  refine n_sipush X dX5_init_78 rfl (v := 400) (by decide) ?_
  refine n_at rfl rfl rfl rfl (st2 := [.int (nI (400)), .ref (o + 85), .ref (o + 85), .int (nI (0)), .ref (o + 84)]) rfl ?_
  refine n_callN X (k := 85) (c_X2_init l Z (o + 85) 400 (by decide)) rfl nk_RX5_26 mi_X2_init ini_RX2 mc_X2_init ⟨by decide +kernel, by decide +kernel, by decide +kernel⟩ (na := 1) ⟨Nat.le_of_ble_eq_true rfl, Nat.le_of_ble_eq_true rfl⟩ ⟨Nat.le_of_ble_eq_true rfl, (Nat.le_of_ble_eq_true rfl)⟩ rfl (Nat.le_of_ble_eq_true rfl) (as := [.int (nI (400))]) (rest := [.ref (o + 85), .int (nI (0)), .ref (o + 84)]) rfl rfl rfl dX5_init_81 rfl ?_
  refine n_aast X (j := 84) (jv := 85) (i := 0) (ci := 2) (t0 := 2) rfl rfl rfl rfl (by decide) (Es2 := (((((([.inr (5, [.ref (o + 1), .int (0), .ref (o + 2), .ref (o + 6), .ref (o + 45), .ref (o + 84), .int 0, .int 0, .null])] ++ [eI Z (120) (fun _ => 0)]) ++ E4 Z (o + 2)) ++ E2 Z (o + 6) 400) ++ E2 Z (o + 45) 0) ++ [.inl (zM Z, 4, .inr (.inr (.inr (.inr (va_up (fun _ => none) 0 (some (o + 85)))))))]) ++ E2 Z (o + 85) 400)) rfl dX5_init_84 rfl ?_
  refine n_iinc X dX5_init_85 rfl (q := 0) rfl (v := nI (1)) (by decide) (by decide) (Ls2 := [(1, .int (nI (1))), (0, .ref (o + 0))]) rfl ?_
  refine n_goto X (tgt := 64) dX5_init_88 (by decide) ?_
  refine n_iload_n X dX5_init_64 rfl rfl (q := 0) rfl ?_
  refine n_iconst X dX5_init_65 rfl (v := 4) (by decide) ?_
  refine n_icmp_ge_f X dX5_init_66 rfl (tgt := 91) (by decide) (by decide) ?_
  refine n_aload_n X dX5_init_69 rfl rfl (q := 1) rfl ?_
  refine n_get X (j := 0) inlX5 rfl rfl 5 (by decide) lk_RX5_36 rfl (v := .ref (o + 84)) rfl dX5_init_70 rfl ?_
  refine n_iload_n X dX5_init_73 rfl rfl (q := 0) rfl ?_
  refine n_new X (k := 124) (ci := 2) (fs := dX2) (C := RX2) (T := TX2) (N := 9) inlX2 tyX2 tyX2_ok (List.mem_of_getElem? (i := 18) (by decide +kernel)) (List.mem_of_getElem? (i := 19) (by decide +kernel)) ini_RX2 rfl dX2_ok (Nat.le_of_ble_eq_true rfl) (Nat.le_of_ble_eq_true rfl) dX5_init_74 rfl rfl ?_
  refine n_dup X dX5_init_77 rfl rfl ?_
  refine n_sipush X dX5_init_78 rfl (v := 400) (by decide) ?_
  refine n_at rfl rfl rfl rfl (st2 := [.int (nI (400)), .ref (o + 124), .ref (o + 124), .int (nI (1)), .ref (o + 84)]) rfl ?_
  refine n_callN X (k := 124) (c_X2_init l Z (o + 124) 400 (by decide)) rfl nk_RX5_26 mi_X2_init ini_RX2 mc_X2_init ⟨by decide +kernel, by decide +kernel, by decide +kernel⟩ (na := 1) ⟨Nat.le_of_ble_eq_true rfl, Nat.le_of_ble_eq_true rfl⟩ ⟨Nat.le_of_ble_eq_true rfl, (Nat.le_of_ble_eq_true rfl)⟩ rfl (Nat.le_of_ble_eq_true rfl) (as := [.int (nI (400))]) (rest := [.ref (o + 124), .int (nI (1)), .ref (o + 84)]) rfl rfl rfl dX5_init_81 rfl ?_
  refine n_aast X (j := 84) (jv := 124) (i := 1) (ci := 2) (t0 := 2) rfl rfl rfl rfl (by decide) (Es2 := ((((((([.inr (5, [.ref (o + 1), .int (0), .ref (o + 2), .ref (o + 6), .ref (o + 45), .ref (o + 84), .int 0, .int 0, .null])] ++ [eI Z (120) (fun _ => 0)]) ++ E4 Z (o + 2)) ++ E2 Z (o + 6) 400) ++ E2 Z (o + 45) 0) ++ [.inl (zM Z, 4, .inr (.inr (.inr (.inr (va_up (va_up (fun _ => none) 0 (some (o + 85))) 1 (some (o + 124)))))))]) ++ E2 Z (o + 85) 400) ++ E2 Z (o + 124) 400)) rfl dX5_init_84 rfl ?_
  refine n_iinc X dX5_init_85 rfl (q := 0) rfl (v := nI (2)) (by decide) (by decide) (Ls2 := [(1, .int (nI (2))), (0, .ref (o + 0))]) rfl ?_
  refine n_goto X (tgt := 64) dX5_init_88 (by decide) ?_
  refine n_iload_n X dX5_init_64 rfl rfl (q := 0) rfl ?_
  refine n_iconst X dX5_init_65 rfl (v := 4) (by decide) ?_
  refine n_icmp_ge_f X dX5_init_66 rfl (tgt := 91) (by decide) (by decide) ?_
  refine n_aload_n X dX5_init_69 rfl rfl (q := 1) rfl ?_
  refine n_get X (j := 0) inlX5 rfl rfl 5 (by decide) lk_RX5_36 rfl (v := .ref (o + 84)) rfl dX5_init_70 rfl ?_
  refine n_iload_n X dX5_init_73 rfl rfl (q := 0) rfl ?_
  refine n_new X (k := 163) (ci := 2) (fs := dX2) (C := RX2) (T := TX2) (N := 9) inlX2 tyX2 tyX2_ok (List.mem_of_getElem? (i := 18) (by decide +kernel)) (List.mem_of_getElem? (i := 19) (by decide +kernel)) ini_RX2 rfl dX2_ok (Nat.le_of_ble_eq_true rfl) (Nat.le_of_ble_eq_true rfl) dX5_init_74 rfl rfl ?_
  refine n_dup X dX5_init_77 rfl rfl ?_
  refine n_sipush X dX5_init_78 rfl (v := 400) (by decide) ?_
  refine n_at rfl rfl rfl rfl (st2 := [.int (nI (400)), .ref (o + 163), .ref (o + 163), .int (nI (2)), .ref (o + 84)]) rfl ?_
  refine n_callN X (k := 163) (c_X2_init l Z (o + 163) 400 (by decide)) rfl nk_RX5_26 mi_X2_init ini_RX2 mc_X2_init ⟨by decide +kernel, by decide +kernel, by decide +kernel⟩ (na := 1) ⟨Nat.le_of_ble_eq_true rfl, Nat.le_of_ble_eq_true rfl⟩ ⟨Nat.le_of_ble_eq_true rfl, (Nat.le_of_ble_eq_true rfl)⟩ rfl (Nat.le_of_ble_eq_true rfl) (as := [.int (nI (400))]) (rest := [.ref (o + 163), .int (nI (2)), .ref (o + 84)]) rfl rfl rfl dX5_init_81 rfl ?_
  refine n_aast X (j := 84) (jv := 163) (i := 2) (ci := 2) (t0 := 2) rfl rfl rfl rfl (by decide) (Es2 := (((((((([.inr (5, [.ref (o + 1), .int (0), .ref (o + 2), .ref (o + 6), .ref (o + 45), .ref (o + 84), .int 0, .int 0, .null])] ++ [eI Z (120) (fun _ => 0)]) ++ E4 Z (o + 2)) ++ E2 Z (o + 6) 400) ++ E2 Z (o + 45) 0) ++ [.inl (zM Z, 4, .inr (.inr (.inr (.inr (va_up (va_up (va_up (fun _ => none) 0 (some (o + 85))) 1 (some (o + 124))) 2 (some (o + 163)))))))]) ++ E2 Z (o + 85) 400) ++ E2 Z (o + 124) 400) ++ E2 Z (o + 163) 400)) rfl dX5_init_84 rfl ?_
  refine n_iinc X dX5_init_85 rfl (q := 0) rfl (v := nI (3)) (by decide) (by decide) (Ls2 := [(1, .int (nI (3))), (0, .ref (o + 0))]) rfl ?_
  refine n_goto X (tgt := 64) dX5_init_88 (by decide) ?_
  refine n_iload_n X dX5_init_64 rfl rfl (q := 0) rfl ?_
  refine n_iconst X dX5_init_65 rfl (v := 4) (by decide) ?_
  refine n_icmp_ge_f X dX5_init_66 rfl (tgt := 91) (by decide) (by decide) ?_
  refine n_aload_n X dX5_init_69 rfl rfl (q := 1) rfl ?_
  refine n_get X (j := 0) inlX5 rfl rfl 5 (by decide) lk_RX5_36 rfl (v := .ref (o + 84)) rfl dX5_init_70 rfl ?_
  refine n_iload_n X dX5_init_73 rfl rfl (q := 0) rfl ?_
  refine n_new X (k := 202) (ci := 2) (fs := dX2) (C := RX2) (T := TX2) (N := 9) inlX2 tyX2 tyX2_ok (List.mem_of_getElem? (i := 18) (by decide +kernel)) (List.mem_of_getElem? (i := 19) (by decide +kernel)) ini_RX2 rfl dX2_ok (Nat.le_of_ble_eq_true rfl) (Nat.le_of_ble_eq_true rfl) dX5_init_74 rfl rfl ?_
  refine n_dup X dX5_init_77 rfl rfl ?_
  refine n_sipush X dX5_init_78 rfl (v := 400) (by decide) ?_
  refine n_at rfl rfl rfl rfl (st2 := [.int (nI (400)), .ref (o + 202), .ref (o + 202), .int (nI (3)), .ref (o + 84)]) rfl ?_
  refine n_callN X (k := 202) (c_X2_init l Z (o + 202) 400 (by decide)) rfl nk_RX5_26 mi_X2_init ini_RX2 mc_X2_init ⟨by decide +kernel, by decide +kernel, by decide +kernel⟩ (na := 1) ⟨Nat.le_of_ble_eq_true rfl, Nat.le_of_ble_eq_true rfl⟩ ⟨Nat.le_of_ble_eq_true rfl, (Nat.le_of_ble_eq_true rfl)⟩ rfl (Nat.le_of_ble_eq_true rfl) (as := [.int (nI (400))]) (rest := [.ref (o + 202), .int (nI (3)), .ref (o + 84)]) rfl rfl rfl dX5_init_81 rfl ?_
  refine n_aast X (j := 84) (jv := 202) (i := 3) (ci := 2) (t0 := 2) rfl rfl rfl rfl (by decide) (Es2 := ((((((((([.inr (5, [.ref (o + 1), .int (0), .ref (o + 2), .ref (o + 6), .ref (o + 45), .ref (o + 84), .int 0, .int 0, .null])] ++ [eI Z (120) (fun _ => 0)]) ++ E4 Z (o + 2)) ++ E2 Z (o + 6) 400) ++ E2 Z (o + 45) 0) ++ [.inl (zM Z, 4, .inr (.inr (.inr (.inr (va_up (va_up (va_up (va_up (fun _ => none) 0 (some (o + 85))) 1 (some (o + 124))) 2 (some (o + 163))) 3 (some (o + 202)))))))]) ++ E2 Z (o + 85) 400) ++ E2 Z (o + 124) 400) ++ E2 Z (o + 163) 400) ++ E2 Z (o + 202) 400)) rfl dX5_init_84 rfl ?_
  refine n_iinc X dX5_init_85 rfl (q := 0) rfl (v := nI (4)) (by decide) (by decide) (Ls2 := [(1, .int (nI (4))), (0, .ref (o + 0))]) rfl ?_
  refine n_goto X (tgt := 64) dX5_init_88 (by decide) ?_
  refine n_iload_n X dX5_init_64 rfl rfl (q := 0) rfl ?_
  refine n_iconst X dX5_init_65 rfl (v := 4) (by decide) ?_
  refine n_icmp_ge_t X (tgt := 91) dX5_init_66 (by decide) (by decide) ?_
  refine n_aload_n X dX5_init_91 rfl rfl (q := 1) rfl ?_
  refine n_iconst X dX5_init_92 rfl (v := 0) (by decide) ?_
  refine n_put X (j := 0) (fs := _) inlX5 tyX5 tyX5_ok nmX5 rfl rfl 6 (by decide) lk_RX5_40 rfl rfl rfl (vp_nar_int _) rfl (Nat.le_of_ble_eq_true rfl) (Es2 := ((((((((([.inr (5, [.ref (o + 1), .int (0), .ref (o + 2), .ref (o + 6), .ref (o + 45), .ref (o + 84), .int (0), .int 0, .null])] ++ [eI Z (120) (fun _ => 0)]) ++ E4 Z (o + 2)) ++ E2 Z (o + 6) 400) ++ E2 Z (o + 45) 0) ++ [.inl (zM Z, 4, .inr (.inr (.inr (.inr (va_up (va_up (va_up (va_up (fun _ => none) 0 (some (o + 85))) 1 (some (o + 124))) 2 (some (o + 163))) 3 (some (o + 202)))))))]) ++ E2 Z (o + 85) 400) ++ E2 Z (o + 124) 400) ++ E2 Z (o + 163) 400) ++ E2 Z (o + 202) 400)) rfl dX5_init_93 rfl ?_
  refine n_aload_n X dX5_init_96 rfl rfl (q := 1) rfl ?_
  refine n_iconst X dX5_init_97 rfl (v := 0) (by decide) ?_
  refine n_put X (j := 0) (fs := _) inlX5 tyX5 tyX5_ok nmX5 rfl rfl 7 (by decide) lk_RX5_43 rfl rfl rfl (vp_nar_int _) rfl (Nat.le_of_ble_eq_true rfl) (Es2 := ((((((((([.inr (5, [.ref (o + 1), .int (0), .ref (o + 2), .ref (o + 6), .ref (o + 45), .ref (o + 84), .int (0), .int (0), .null])] ++ [eI Z (120) (fun _ => 0)]) ++ E4 Z (o + 2)) ++ E2 Z (o + 6) 400) ++ E2 Z (o + 45) 0) ++ [.inl (zM Z, 4, .inr (.inr (.inr (.inr (va_up (va_up (va_up (va_up (fun _ => none) 0 (some (o + 85))) 1 (some (o + 124))) 2 (some (o + 163))) 3 (some (o + 202)))))))]) ++ E2 Z (o + 85) 400) ++ E2 Z (o + 124) 400) ++ E2 Z (o + 163) 400) ++ E2 Z (o + 202) 400)) rfl dX5_init_98 rfl ?_
  refine n_aload_n X dX5_init_101 rfl rfl (q := 1) rfl ?_
  refine n_bipush X dX5_init_102 rfl (v := 8) (by decide) ?_
  refine n_topeq (y := nI (8)) (by decide) ?_
  refine n_newI X (N := 8) (k := 241) (Nat.le_of_ble_eq_true rfl) (List.mem_of_getElem? (i := 11) (by decide +kernel)) (Nat.le_of_ble_eq_true rfl) (Nat.le_of_ble_eq_true rfl) dX5_init_104 rfl rfl ?_
  refine n_putF X (j := 0) (fs := _) inlX5 tyX5 tyX5_ok nmX5 rfl rfl 8 (by decide) lk_RX5_46 rfl rfl hin rfl rfl rfl rfl (Nat.le_of_ble_eq_true rfl) (Es2 := (((((((((([.inr (5, [.ref (o + 1), .int (0), .ref (o + 2), .ref (o + 6), .ref (o + 45), .ref (o + 84), .int (0), .int (0), .ref (o + 241)])] ++ [eI Z (120) (fun _ => 0)]) ++ E4 Z (o + 2)) ++ E2 Z (o + 6) 400) ++ E2 Z (o + 45) 0) ++ [.inl (zM Z, 4, .inr (.inr (.inr (.inr (va_up (va_up (va_up (va_up (fun _ => none) 0 (some (o + 85))) 1 (some (o + 124))) 2 (some (o + 163))) 3 (some (o + 202)))))))]) ++ E2 Z (o + 85) 400) ++ E2 Z (o + 124) 400) ++ E2 Z (o + 163) 400) ++ E2 Z (o + 202) 400) ++ [eI Z (8) (fun _ => 0)])) rfl dX5_init_106 rfl ?_
  exact n_at rfl rfl rfl rfl rfl (K _ _ dX5_init_109)

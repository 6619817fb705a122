/-! the law up to its first call -/
set_option maxRecDepth 100000 in
set_option maxHeartbeats 4000000 in
theorem law_begin {p : Program} {l : Launch} {e : Env} {s : State} {m : MethodId} {args : Array Value} {below : List Frame} {meth : Method} {c : Code} {Z : wZ} {B b : Nat} {Q : State → Prop} (X : NX p s m args meth c cL_law 14 RL Z B [] B) (hB : s.heap.size = B) (hO : zO Z = false) (hz : ∀ m g i, zA Z m g i = B + ix m g i)
    (K : JX p s m args meth c cL_law 14 RL Z (fun x => B ≤ x) → J p l e room_1 s m args below meth c 14 Z (fun x => B ≤ x) 242 42880 Q S0 h0 [(1, .ref (zA Z 6 0 0)), (0, .ref b)] 8 []) : NJ p l e room_1 s m args below meth c 14 Z B 0 0 Q [] [] [(0, .ref b)] 0 [] := by
  have J0 : JX p s m args meth c cL_law 14 RL Z (fun q => B ≤ q) := ⟨X.1, X.2.1, X.2.2.1, X.2.2.2.1, X.2.2.2.2.1, X.2.2.2.2.2.1, X.2.2.2.2.2.2.1, lay_D hO hz, fun q hq => by show B ≤ q; omega⟩
  refine n_new X (k := 0) (ci := 5) (fs := dX5) (C := RX5) (T := TX5) (N := 9) inlX5 tyX5 tyX5_ok (List.mem_of_getElem? (i := 0) (by decide +kernel)) (List.mem_of_getElem? (i := 1) (by decide +kernel)) ini_RX5 rfl dX5_ok (Nat.le_of_ble_eq_true rfl) (Nat.le_of_ble_eq_true rfl) dL_law_0 rfl rfl ?_
  refine n_dup X dL_law_3 rfl rfl ?_
  refine n_callI X (k := 0) (c_X5_init l Z (B + 0)) rfl lk_RL_163 mi_X5_init ini_RX5 mc_X5_init ⟨by decide +kernel, by decide +kernel, by decide +kernel⟩ (na := 0) ⟨Nat.le_of_ble_eq_true rfl, Nat.le_of_ble_eq_true rfl⟩ ⟨Nat.le_of_ble_eq_true rfl, Nat.le_of_ble_eq_true rfl⟩ rfl (Nat.le_of_ble_eq_true rfl) (as := []) (rest := [.ref (B + 0)]) rfl rfl (E5_len Z _) dL_law_4 rfl ?_
  refine n_at (Es2 := E5 Z B) rfl rfl rfl rfl (st2 := [.ref B]) rfl ?_
  refine n_astore_n X dL_law_7 rfl rfl (by decide) (Ls2 := [(1, .ref B), (0, .ref b)]) rfl ?_
  have e6 : zA Z 6 0 0 = B := hz 6 0 0
  have k1 := K J0
  rw [e6] at k1
  exact fun H locs ls hW hcz hS hl => k1 H locs ls (conv hO hz hW) hS hl


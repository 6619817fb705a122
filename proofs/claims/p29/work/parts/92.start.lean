/-! the start: what the tables and the premises give, and the law's run -/
theorem st_flags {l : Launch} (h : l.flags = flags0) : l.stackTraces = false := by unfold Launch.stackTraces; rw [h]; decide +kernel
theorem arr_int {s : State} {args : Array Value} (h : (Cond.arrayClass .int).before args s = true) : ∃ cA, ArrOfT s cA .int ∧ va_RA s cA .int := by
  obtain ⟨c, k, comp, h1, h2, h3⟩ := Cond.arrayClass_spec h
  exact ⟨c, fun n z => ⟨fun k h => (by cases h), k, h2, comp, h3⟩, h1⟩
theorem arr_obj {s : State} {C : String} (h : va_AO C s) : ∃ cA, ArrOfT s cA (.object C) ∧ va_RA s cA (.object C) := by
  obtain ⟨comp, c, k, h1, h2, h3, h4, h5⟩ := Cond.arrayOver_spec h
  exact ⟨c, fun n z => ⟨fun k h => (by cases h), k, h3, comp, h4⟩, k, comp, h3, h4, h1, h5⟩
set_option maxRecDepth 100000 in
theorem nw_tab : ∀ w ∈ NWs, w ∈ tables_1 ∧ w.onTables = true := by decide +kernel
set_option maxRecDepth 100000 in
theorem ao_tab : Cond.arrayOver (.object "SpeculativeCaches$Core") ∈ tables_1 ∧ Cond.arrayOver (.object "SpeculativeCaches$Machine") ∈ tables_1 := by decide +kernel
set_option maxRecDepth 100000 in
theorem exB_tab : ∀ w ∈ exB, w ∈ tables_1 ∧ w.onTables = true := by decide +kernel
set_option maxRecDepth 100000 in
theorem str_tab : ∀ q ∈ strL, Cond.stringRef RX5 q.1 q.2 ∈ tables_1 := by decide +kernel
set_option maxRecDepth 100000 in
theorem zq_tab : Cond.laysStatic Bundle.tN "UNASSIGNED_STACK" Bundle.steD ∈ tables_1 ∧ Cond.laysStatic Bundle.tN "SUPPRESSED_SENTINEL" Bundle.listD ∈ tables_1 ∧ Cond.initialized Bundle.tN ∈ tables_1 := by decide +kernel
section START
variable {args : Array Value} {s : State}
set_option maxRecDepth 100000 in
theorem str_flat (hg : (Jvm.Cond.and given_1 narrow_1).before args s = true) : ∀ q ∈ strL, (Cond.exactly (Term.string RX5 q.1) "java/lang/String").before args s = true := by
  have hs := flat_of_before _ hg
  unfold strL
  refine List.forall_mem_cons.mpr ⟨hs _ (by decide +kernel), List.forall_mem_cons.mpr ⟨hs _ (by decide +kernel), List.forall_mem_cons.mpr ⟨hs _ (by decide +kernel), List.forall_mem_cons.mpr ⟨hs _ (by decide +kernel), List.forall_mem_cons.mpr ⟨hs _ (by decide +kernel), List.forall_mem_cons.mpr ⟨hs _ (by decide +kernel), List.forall_mem_cons.mpr ⟨hs _ (by decide +kernel), List.forall_mem_cons.mpr ⟨hs _ (by decide +kernel), List.forall_mem_cons.mpr ⟨hs _ (by decide +kernel), List.forall_mem_cons.mpr ⟨hs _ (by decide +kernel), List.forall_mem_cons.mpr ⟨hs _ (by decide +kernel), List.forall_mem_cons.mpr ⟨hs _ (by decide +kernel), List.forall_mem_cons.mpr ⟨hs _ (by decide +kernel), List.forall_mem_cons.mpr ⟨hs _ (by decide +kernel), List.forall_mem_cons.mpr ⟨hs _ (by decide +kernel), List.forall_mem_cons.mpr ⟨hs _ (by decide +kernel), fun _ h => absurd h List.not_mem_nil⟩⟩⟩⟩⟩⟩⟩⟩⟩⟩⟩⟩⟩⟩⟩⟩
set_option maxRecDepth 100000 in
theorem str_start (hts : ∀ w ∈ tables_1, w.before args s = true) (hg : (Jvm.Cond.and given_1 narrow_1).before args s = true) : hStr s := by
  have hs := flat_of_before _ hg
  refine ⟨fun w hw => va_Nw.of (exB_tab w hw).2 (hts w (exB_tab w hw).1), fun q hq => ?_, va_Nc.of (hs _ (by decide +kernel)), va_Nc.of (hs _ (by decide +kernel)), va_Nc.of (hs _ (by decide +kernel))⟩
  obtain ⟨a, c, cell, k, h1, -⟩ := Cond.exactly_spec (str_flat hg q hq)
  exact ⟨a, vk_R.of (hts _ (str_tab q hq)) h1⟩
set_option maxRecDepth 100000 in
theorem zq_start (hts : ∀ w ∈ tables_1, w.before args s = true) (hg : (Jvm.Cond.and given_1 narrow_1).before args s = true) : hZq (fun q => s.heap.size ≤ q) s s.heap := by
  have hs := flat_of_before _ hg
  obtain ⟨z1, z2, z3⟩ := zq_tab
  exact ⟨vx_Zqof (hts _ z1) (hts _ z3) (hs _ (by decide +kernel)) (fun a ha => Nat.not_le.mpr ha), vx_Zqof (hts _ z2) (hts _ z3) (hs _ (by decide +kernel)) (fun a ha => Nat.not_le.mpr ha)⟩
end START
set_option maxRecDepth 100000 in
set_option maxHeartbeats 4000000 in
theorem whole_start {p : Program} {e : Env} {s : State} {m : MethodId} {below : List Frame} {meth : Method} {c : Code} (l : Launch) (hflags : l.flags = flags0) {b L : Nat} {xs : Nat → Int32} (hL : L ≤ 260) (C0 : lw_At p s m meth c b L xs) : W p l e room_1 s m #[Value.ref b] below meth c s.heap [] 0 0 (lw_Z below #[Value.ref b] s) (entryFrame m ([Value.ref b] : List Value).toArray 14) := by
  obtain ⟨hx, hb, hr, hml, hown, hts, hX, hbl, hlocks, hgv⟩ := C0
  have hin : ∀ w ∈ wsL_law, w.before #[Value.ref b] s = true := fun w hw => hts w (law_in w hw)
  have htb : ∀ w ∈ tables_1, w.before #[Value.ref b] s = true := fun w hw => hts w (List.mem_append_right _ hw)
  have hNw : hNW s := fun w hw => va_Nw.of (nw_tab w hw).2 (htb w (nw_tab w hw).1)
  have hAo : hAO s := ⟨va_AO.of (htb _ ao_tab.1), va_AO.of (htb _ ao_tab.2)⟩
  obtain ⟨aI, aI1, aI2⟩ := arr_int (hin _ (List.mem_of_getElem? (i := 11) (by decide +kernel)))
  obtain ⟨aC, aC1, aC2⟩ := arr_obj hAo.1
  obtain ⟨aM, aM1, aM2⟩ := arr_obj hAo.2
  obtain ⟨c0, i0, k0⟩ := u_known (C := RX0) (T := TX0) (N := 15) (n := 15) hin inlX0 (hin _ (List.mem_of_getElem? (i := 50) (by decide +kernel)))
  obtain ⟨c1, i1, k1⟩ := u_known (C := RX1) (T := TX1) (N := 8) (n := 8) hin inlX1 (hin _ (List.mem_of_getElem? (i := 55) (by decide +kernel)))
  obtain ⟨c2, i2, k2⟩ := u_known (C := RX2) (T := TX2) (N := 9) (n := 9) hin inlX2 (hin _ (List.mem_of_getElem? (i := 19) (by decide +kernel)))
  obtain ⟨c3, i3, k3⟩ := u_known (C := RX3) (T := TX3) (N := 3) (n := 3) hin inlX3 (hin _ (List.mem_of_getElem? (i := 31) (by decide +kernel)))
  obtain ⟨c4, i4, k4⟩ := u_known (C := RX4) (T := TX4) (N := 6) (n := 6) hin inlX4 (hin _ (List.mem_of_getElem? (i := 15) (by decide +kernel)))
  obtain ⟨c5, i5, k5⟩ := u_known (C := RX5) (T := TX5) (N := 9) (n := 9) hin inlX5 (hin _ (List.mem_of_getElem? (i := 1) (by decide +kernel)))
  obtain ⟨Z, hZ⟩ : ∃ Z : wZ, Z = ((fun c => match c with | 0 => c0 | 1 => c1 | 2 => c2 | 3 => c3 | 4 => c4 | _ => c5, fun c => match c with | 0 => i0 | 1 => i1 | 2 => i2 | 3 => i3 | 4 => i4 | _ => i5), (aI, aC, aM, aI), false, fun m g i => s.heap.size + ix m g i) := ⟨_, rfl⟩
  have hK : va_K (zG Z) vwCl (zT Z) s := by
    subst hZ
    refine ⟨fun c q hq => ?_, fun k q hq => ?_⟩
    · rcases c with _ | _ | _ | _ | _ | _ | c
      · cases hq; exact k0
      · cases hq; exact k1
      · cases hq; exact k2
      · cases hq; exact k3
      · cases hq; exact k4
      · cases hq; exact k5
      · cases hq
    · rcases k with _ | _ | _ | k
      · cases hq; exact ⟨aI1, aI2⟩
      · cases hq; exact ⟨aC1, aC2⟩
      · cases hq; exact ⟨aM1, aM2⟩
      · cases hq
  have hO : zO Z = false := by subst hZ; rfl
  have hz : ∀ m g i, zA Z m g i = s.heap.size + ix m g i := fun m g i => by subst hZ; rfl
  have X : NX p s m #[Value.ref b] meth c cL_law 14 RL Z s.heap.size [] s.heap.size := ⟨hx, hb, hml, hown, hin, hNw, hK, hAo, rfl⟩
  have hl := lv_entry [.ref b] (n := 14) (Nat.le_of_ble_eq_true rfl)
  rw [lg_entry_eq]
  refine law_begin X rfl hO hz (fun J1 => ?_) s.heap [] _ ⟨rfl, fun k q hq => by cases hq⟩ rfl va_S.rf hl
  exact law_run J1 (str_start htb hgv) (zq_start htb hgv) ⟨hX, hbl, Nat.not_le.mpr hbl, hL⟩ (st_flags hflags) hO LI0 S0_e.1 S0_e.2 ⟨Nat.le_of_ble_eq_true rfl, Nat.le_of_ble_eq_true rfl, Nat.le_of_ble_eq_true rfl, Nat.le_of_ble_eq_true rfl⟩ (fun S2 ce sl Ls pc h1 h2 hd H locs ls hP hS hl => va_forget (fun q hq => hS.2.2 q hq) (W.widen (by omega) (by omega) (lw_ret hx hb hr hlocks hd)))

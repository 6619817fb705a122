/-! the law's small methods -/
def pLow (x n : Int32) : Int32 := (x &&& 2147483647) - (x &&& 2147483647) / n * n
theorem and31_ex (x : Int32) : ∃ a, a < 2 ^ 31 ∧ x &&& 2147483647 = nI a := by
  refine ⟨(x &&& 2147483647).toBitVec.toNat, ?_, ?_⟩
  · rw [Int32.toBitVec_and]
    have : (x.toBitVec &&& (2147483647 : Int32).toBitVec).toNat = x.toBitVec.toNat &&& 2147483647 := BitVec.toNat_and ..
    rw [this]
    exact Nat.and_lt_two_pow (n := 31) _ (by decide)
  · apply Int32.toBitVec_inj.mp
    show (x &&& 2147483647).toBitVec = BitVec.ofNat 32 (x &&& 2147483647).toBitVec.toNat
    rw [BitVec.ofNat_toNat, BitVec.setWidth_eq]
theorem low_ok (x : Int32) {k : Nat} (h0 : 0 < k) (hk : k < 2 ^ 31) : ∃ j, j < k ∧ pLow x (nI k) = nI j := by
  obtain ⟨a, ha, ea⟩ := and31_ex x
  refine ⟨a % k, Nat.mod_lt _ h0, ?_⟩
  unfold pLow; rw [ea]; exact pk_rem ha h0 hk
/-- the bits counted as the law counts them -/
def kz : Nat → Int32 → Bool
  | 0, x => decide (x = 0)
  | n + 1, x => decide (x = 0) || kz n (x &&& (x - 1))
def kern : Nat → Int32 → Int32 → Int32
  | 0, _, c => c
  | n + 1, x, c => if x = 0 then c else kern n (x &&& (x - 1)) (c + 1)
theorem kz_8 : ∀ a, a < 256 → kz 8 (nI a) = true := by decide +kernel
theorem kern_8 : ∀ a, a < 256 → kern 8 (nI a) 0 = rSize (nI a) := by decide +kernel
theorem kz_ok {x : Int32} (h : ok8 x) : kz 8 x = true ∧ kern 8 x 0 = rSize x := by
  obtain ⟨a, ha, rfl⟩ := h
  exact ⟨kz_8 a ha, kern_8 a ha⟩
theorem rHas_t {a b : Int32} (h : a >>> (b &&& 31) &&& 1 = 1) : rHas a b = true := by unfold rHas; exact decide_eq_true h
theorem rHas_f {a b : Int32} (h : ¬ a >>> (b &&& 31) &&& 1 = 1) : rHas a b = false := by unfold rHas; exact decide_eq_false h
theorem ccn {S : St} {nn : Nat} (hn : S 0 4 0 4 = nI nn) (hn4 : nn ≤ 4) : okI (S 0 4 0 4) 4 := by rw [hn]; exact okI_nI hn4 (by decide)
theorem pHasC_n {S : St} {nn a : Nat} (hn : S 0 4 0 4 = nI nn) (hn4 : nn ≤ 4) (ha : a < nn) : pHasC S 0 (nI a) = true :=
  pHasC_ok (ccn hn hn4) (by show a < (S 0 4 0 4).toNatClampNeg; rw [hn, nI_clamp (by omega)]; exact ha)
/-- the law's script, which no run of the law writes -/
def LSc (s : State) (A0 : Nat → Prop) (b L : Nat) (xs : Nat → Int32) : Prop := va_X b L xs s s.heap ∧ b < s.heap.size ∧ ¬ A0 b ∧ L ≤ 260
def pCell (L : Nat) (xs : Nat → Int32) (j : Nat) : Int32 := if j < L then xs j else 367571959 * (nI j + 1163) + 991
section JLR
variable {p : Program} {l : Launch} {e : Env} {R : Room} {s : State} {m : MethodId} {args : Array Value} {below : List Frame} {meth : Method} {c : Code} {n : Nat} {Z : wZ} {A0 : Nat → Prop} {cells slots : Nat} {Q : State → Prop} {cc : ByteArray} {own : String} {S : St} {h : Hl} {Ls : List (Nat × Value)} {pc pc2 : Nat} {st rest : List Value}
theorem j_sld (X : JX p s m args meth c cc n own Z A0) {b L k : Nat} {xs : Nat → Int32} (hX : LSc s A0 b L xs) (hk : k < L) (hdg : decode cc pc = .ok (.iaload, 1)) (hp : pc + 1 = pc2) (kk : J p l e R s m args below meth c n Z A0 cells slots Q S h Ls pc2 (.int (xs k) :: st)) : J p l e R s m args below meth c n Z A0 cells slots Q S h Ls pc (.int (nI k) :: .ref b :: st) := by
  subst hp
  intro H locs ls hP hS hl
  have hL := hX.2.2.2
  exact va_sld X.1 X.2.1 hX.1 hX.2.1 hX.2.2.1 hS (i := nI k) (vp_in_nI hk (by omega)) hdg (by rw [nI_clamp (by omega)]; exact kk H locs ls hP hS hl)
theorem j_slen (X : JX p s m args meth c cc n own Z A0) {b L : Nat} {xs : Nat → Int32} (hX : LSc s A0 b L xs) (hdg : decode cc pc = .ok (.arraylength, 1)) (hp : pc + 1 = pc2) (kk : J p l e R s m args below meth c n Z A0 cells slots Q S h Ls pc2 (.int (nI L) :: st)) : J p l e R s m args below meth c n Z A0 cells slots Q S h Ls pc (.ref b :: st) := by
  subst hp
  intro H locs ls hP hS hl
  exact va_slen X.1 X.2.1 hX.1 hX.2.1 hX.2.2.1 hS hdg (kk H locs ls hP hS hl)
def PcX (Z : wZ) (b L : Nat) (xs : Nat → Int32) (as : List Value) (S : St) (h : Hl) (sz : Nat) : Array Value → State → Prop := va_Pc as (fun U => U.heap.size = sz ∧ Wd Z S h U ∧ va_X b L xs U U.heap ∧ b < sz ∧ ¬ va_A (ws Z S h) sz b ∧ L ≤ 260)
theorem PcX.blind {Z : wZ} {b L : Nat} {xs : Nat → Int32} {as : List Value} {S : St} {h : Hl} {sz : Nat} : FrameBlind (PcX Z b L xs as S h sz) := fun a U g mk q => by
  obtain ⟨q0, q1, ⟨qP, qK, qN, qD⟩, qX, q2⟩ := q
  exact ⟨q0, q1, ⟨qP, va_K.moved (u := U) (U := U.calling g mk a) (Vm.Alike.refl U.vm) qK, hNW.same (s := U) (U := U.calling g mk a) rfl qN, qD⟩, va_X.moved (u := U) (U := U.calling g mk a) (Vm.Alike.refl U.vm) qX, q2⟩
/-- the contract of a method of the law that reads the script and leaves all as it is -/
def Cx (l : Launch) (y : MethodName) (cc : ByteArray) (ml fr lo : Nat) (Z : wZ) (b L : Nat) (xs : Nat → Int32) (as : List Value) (S : St) (h : Hl) (r : Int32) : Prop :=
  ∀ sz : Nat, Met l y (.code y cc ml (some .int) :: wsL_law) { frames := fr, cells := 0, slots := 0, locals := lo } (PcX Z b L xs as S h sz) (va_Qi (fun (r' : Int32) (_ : Unit) => r' = r) (fun _ t => Wd Z S h t) (va_A (ws Z S h) sz)) 0 0 (va_A (ws Z S h) sz)
theorem Cx.of {y : MethodName} {ml fr lo b L : Nat} {xs : Nat → Int32} {as : List Value} {r : Int32} (hcls : y.cls = RL) (hy : plainName y.cls = true) (hlen : (lg_sl as).length ≤ ml)
    (body : ∀ (p : Program) (e : Env) (s : State) (m : MethodId) (args : Array Value) (below : List Frame) (meth : Method) (c : Code) (A0 : Nat → Prop) (Q : State → Prop), JX p s m args meth c cc ml RL Z A0 → LSc s A0 b L xs →
      (∀ (Ls : List (Nat × Value)) (pc : Nat), decode cc pc = .ok (.ireturn, 1) → J p l e { frames := fr, cells := 0, slots := 0, locals := lo } s m args below meth c ml Z A0 0 0 Q S h Ls pc [.int r]) →
      J p l e { frames := fr, cells := 0, slots := 0, locals := lo } s m args below meth c ml Z A0 0 0 Q S h (lv_args 0 as) 0 []) : Cx l y cc ml fr lo Z b L xs as S h r := by
  intro sz
  refine Met.ofW (cc := cc) (maxL := ml) (ret := (some .int)) hy rfl ?_
  intro p e s m args below meth c s₁ B hml hv
  obtain ⟨rfl, hsz, ⟨hP, hK, hN, hD0⟩, hX, hb, hA, hL⟩ := hv
  subst hsz
  have hts := atoms_spec (ws := .code y cc ml (some .int) :: wsL_law) B.pre
  have hown : s.vm.findClass RL = some m.cls := by rw [← hcls]; exact findClass_of_methodNamed B.named
  have hlocks := B.notSynchronized
  have hD := hD0.self (sz := s.heap.size)
  have hl := lv_entry as (n := ml) hlen
  rw [lg_entry_eq]
  refine body p e s m as.toArray below meth c (va_A (ws Z S h) s.heap.size) _ ⟨B.exec, B.bytes, hml, hown, fun w hw => hts w (List.mem_cons_of_mem _ hw), hN, hK, fun S3 h3 => ws_D hD, fun q hq => Or.inr hq⟩ ⟨hX, hb, hA, hL⟩ (fun Ls pc hdg => ?_) s.heap [] _ hP va_S.rf hl
  intro H locs ls hP2 hS2 hl2
  exact W.zret (v := r) B.exec B.bytes B.returns rfl (fun t ht hW => ⟨⟨r, (), rfl, rfl, by rw [ht]; exact hP2, va_K.moved hW.alike hK, hN.warm hW, ws_D hD0⟩, hS2.F ht⟩) hS2.2.2 hdg
theorem j_callX (X : JX p s m args meth c cc n RL Z A0) {b L : Nat} {xs : Nat → Int32} (hX : LSc s A0 b L xs) {y : MethodName} {bytes : ByteArray} {ml fr lo idx na : Nat} {as : List Value} {r : Int32} (hC : Cx l y bytes ml fr lo Z b L xs as S h r) (w1 : Cond.methodLink RL idx y ∈ wsL_law) (w2 : Cond.static y ∈ wsL_law) (w4 : Cond.initialized RL ∈ wsL_law) (w5 : Cond.code y bytes ml (some .int) ∈ wsL_law) (hd : y.cls = RL ∧ y.cls ≠ "java/lang/invoke/MethodHandle" ∧ y.cls ≠ "java/lang/invoke/VarHandle" ∧ (parseMethodDescriptor y.desc).map (fun d => d.parameters.length) = some na) (hR : fr + 1 ≤ R.frames ∧ 8 + (ml + 11) + lo ≤ R.locals) (hcs : cells ≤ R.cells ∧ slots ≤ R.slots) (hna : as.length = na) (hcat : (rest.map fun v => v.category).sum ≤ 8) (hst : st = as.reverse ++ rest) (hdg : decode cc pc = .ok (.invokestatic idx, 3)) (hp : pc + 3 = pc2) (k : J p l e R s m args below meth c n Z A0 cells slots Q S h Ls pc2 (.int r :: rest)) : J p l e R s m args below meth c n Z A0 cells slots Q S h Ls pc st := by
  subst hp; subst hst
  intro H locs ls hP hS hl
  have hF := ca_free (X.2.2.2.2.2.2.2.1 S h) hS X.2.2.2.2.2.2.2.2
  refine va_calli (va_runS (As := as) (rest := rest) ⟨X.1, X.2.1, X.2.2.1, X.2.2.2.1, X.2.2.2.2.1⟩ (hC H.size) (cwS na X.2.2.2.2.1 (gd (fun w hw => ?_)) rfl rfl rfl hd hR) ⟨PcX.blind, fun U hU hW => ⟨rfl, by rw [hU], ⟨by rw [hU]; exact hP, va_K.moved hW.alike X.2.2.2.2.2.2.1, X.2.2.2.2.2.1.warm hW, (X.2.2.2.2.2.2.2.1 S h).weaken (fun _ _ _ _ => trivial)⟩, (by rw [hU]; exact (hX.1.kept (hS.2.1 b hX.2.1 hX.2.2.1)).moved hW.alike), Nat.lt_of_lt_of_le hX.2.1 hS.1, fun z => hX.2.2.1 (hF b z), hX.2.2.2⟩⟩ rfl hna hl.1 rfl (lv_room hcat) hdg hcs) hS (fun q _ hq => hF q hq) hF (fun r1 u t H1 locs1 ht hvm hr1 hB hz1 hk1 hS1 => ?_)
  · simp only [wsS, List.mem_append, List.mem_cons, List.not_mem_nil, or_false] at hw
    rcases hw with (rfl | rfl | rfl) | rfl | hw
    all_goals assumption
  subst hr1
  obtain ⟨hP1, -⟩ := hB
  rw [ht] at hP1
  exact k H1 locs1 ls hP1 hS1 hl
end JLR
set_option maxRecDepth 100000 in
set_option maxHeartbeats 4000000 in
theorem L_size (l : Launch) (Z : wZ) (S : St) (h : Hl) {p : Program} {e : Env} {s : State} {mi : MethodId} {args : Array Value} {below : List Frame} {meth : Method} {c : Code} {A0 : Nat → Prop} {Q : State → Prop} (X : JX p s mi args meth c cL_size 3 RL Z A0) : ∀ (n : Nat) (x v : Int32), kz n x = true → J p l e { frames := 0, cells := 0, slots := 0, locals := 0 } s mi args below meth c 3 Z A0 0 0 Q S h [(1, .int (kern n x v))] 20 [] → J p l e { frames := 0, cells := 0, slots := 0, locals := 0 } s mi args below meth c 3 Z A0 0 0 Q S h [(2, .int x), (1, .int v)] 4 [] := by
  intro n
  induction n with
  | zero =>
    intro x v hz hk
    have hx : x = 0 := by simpa [kz] using hz
    refine j_iload_n X dL_size_4 rfl rfl (q := 0) rfl ?_
    refine j_if_eq_t X (tgt := 20) dL_size_5 (by decide) hx ?_
    exact j_sub [1] (Ls2 := [(1, .int v)]) rfl hk
  | succ n ih =>
    intro x v hz hk
    refine j_iload_n X dL_size_4 rfl rfl (q := 0) rfl ?_
    refine j_if_eq X dL_size_5 rfl (tgt := 20) (by decide) (fun c5 => ?_) (fun c5 => ?_)
    · rw [kern, if_pos c5] at hk
      exact j_sub [1] (Ls2 := [(1, .int v)]) rfl hk
    · rw [kern, if_neg c5] at hk
      have hz2 : kz n (x &&& (x - 1)) = true := by
        rw [kz, decide_eq_false c5, Bool.false_or] at hz; exact hz
      refine j_iinc X dL_size_8 rfl (q := 1) rfl (v := v + 1) rfl (by decide) (Ls2 := [(1, .int (v + 1)), (2, .int x)]) rfl ?_
      refine j_iload_n X dL_size_11 rfl rfl (q := 1) rfl ?_
      refine j_iload_n X dL_size_12 rfl rfl (q := 1) rfl ?_
      refine j_iconst X dL_size_13 rfl (v := 1) (by decide) ?_
      refine j_isub X dL_size_14 rfl ?_
      refine j_iand X dL_size_15 rfl ?_
      refine j_istore_n X dL_size_16 rfl rfl (by decide) (Ls2 := [(2, .int (x &&& (x - 1))), (1, .int (v + 1))]) rfl ?_
      refine j_goto X (tgt := 4) dL_size_17 (by decide) ?_
      exact ih _ _ hz2 hk
set_option maxRecDepth 100000 in
set_option maxHeartbeats 4000000 in
theorem c_L_size (l : Launch) (Z : wZ) (S : St) (h : Hl) (x : Int32) (hx : kz 8 x = true) : Cq l yL_size (.code yL_size cL_size 3 (some .int)) 0 0 0 0 Z [.int x] S h (kern 8 x 0) S h := by
  refine Cq.of rfl rfl rfl (Nat.le_of_ble_eq_true rfl) (fun p e s mi args below meth c A0 Q X hSt hZ K => ?_)
  refine j_at rfl rfl (Ls3 := [(0, .int x)]) rfl rfl ?_
  refine j_iconst X dL_size_0 rfl (v := 0) (by decide) ?_
  refine j_istore_n X dL_size_1 rfl rfl (by decide) (Ls2 := [(1, .int 0), (0, .int x)]) rfl ?_
  refine j_iload_n X dL_size_2 rfl rfl (q := 1) rfl ?_
  refine j_istore_n X dL_size_3 rfl rfl (by decide) (Ls2 := [(2, .int x), (1, .int 0), (0, .int x)]) rfl ?_
  refine j_sub [0, 1] (Ls2 := [(2, .int x), (1, .int 0)]) rfl ?_
  refine L_size l Z S h X 8 x 0 hx ?_
  refine j_iload_n X dL_size_20 rfl rfl (q := 0) rfl ?_
  exact K _ _ dL_size_21
set_option maxRecDepth 100000 in
set_option maxHeartbeats 4000000 in
theorem c_L_cell (l : Launch) (Z : wZ) (S : St) (h : Hl) (b L : Nat) (xs : Nat → Int32) (j : Nat) (hj : j < 1000) : Cx l yL_cell cL_cell 2 0 0 Z b L xs [.ref b, .int (nI j)] S h (pCell L xs j) := by
  refine Cx.of rfl rfl (Nat.le_of_ble_eq_true rfl) (fun p e s mi args below meth c A0 Q X hX K => ?_)
  refine j_at rfl rfl (Ls3 := [(0, .ref b), (1, .int (nI j))]) rfl rfl ?_
  have hL := hX.2.2.2
  refine j_iload_n X dL_cell_0 rfl rfl (q := 1) rfl ?_
  refine j_aload_n X dL_cell_1 rfl rfl (q := 0) rfl ?_
  refine j_slen X hX dL_cell_2 rfl ?_
  refine j_icmpN_ge X (a := j) (b := L) (by omega) (by omega) dL_cell_3 rfl (tgt := 12) (by decide) (fun c3 => ?_) (fun c3 => ?_)
  · refine j_ldc X (v := 367571959) dL_cell_12 rfl (List.mem_of_getElem? (i := 88) (by decide +kernel)) ?_
    refine j_iload_n X dL_cell_14 rfl rfl (q := 1) rfl ?_
    refine j_sipush X dL_cell_15 rfl (v := 1163) (by decide) ?_
    refine j_iadd X dL_cell_18 rfl ?_
    refine j_imul X dL_cell_19 rfl ?_
    refine j_sipush X dL_cell_20 rfl (v := 991) (by decide) ?_
    refine j_iadd X dL_cell_23 rfl ?_
    exact j_ret (by unfold pCell; rw [if_neg (by omega)]) rfl rfl (K _ _ dL_cell_24)
  · refine j_aload_n X dL_cell_6 rfl rfl (q := 0) rfl ?_
    refine j_iload_n X dL_cell_7 rfl rfl (q := 1) rfl ?_
    refine j_sld X hX (by omega) dL_cell_8 rfl ?_
    refine j_goto X (tgt := 24) dL_cell_9 (by decide) ?_
    exact j_ret (by unfold pCell; rw [if_pos (by omega)]) rfl rfl (K _ _ dL_cell_24)
set_option maxRecDepth 100000 in
set_option maxHeartbeats 4000000 in
theorem c_L_low (l : Launch) (Z : wZ) (S : St) (h : Hl) (x n : Int32) (hn : ¬ n = 0) : Cq l yL_low (.code yL_low cL_low 2 (some .int)) 0 0 0 0 Z [.int (x), .int (n)] S h (pLow x n) (S) h := by
  refine Cq.of rfl rfl rfl (Nat.le_of_ble_eq_true rfl) (fun p e s mi args below meth c A0 Q X hSt hZ K => ?_)
  refine j_at rfl rfl (Ls3 := [(0, .int (x)), (1, .int (n))]) rfl rfl ?_
  refine j_iload_n X dL_low_0 rfl rfl (q := 0) rfl ?_
  refine j_ldc X (v := 2147483647) dL_low_1 rfl (List.mem_of_getElem? (i := 92) (by decide +kernel)) ?_
  refine j_iand X dL_low_3 rfl ?_
  refine j_iload_n X dL_low_4 rfl rfl (q := 1) rfl ?_
  refine j_irem X dL_low_5 rfl hn ?_
  exact j_ret (by first | with_reducible rfl | (simp [pLow]; done) | (simp_all [pLow]; done) | rfl) (by first | with_reducible rfl | (simp [pLow]; done) | (simp_all [pLow]; done) | rfl) rfl (K _ _ dL_low_6)
set_option maxRecDepth 100000 in
set_option maxHeartbeats 4000000 in
theorem c_L_commits (l : Launch) (Z : wZ) (S : St) (h : Hl)  : Cq l yL_commits (.code yL_commits cL_commits 1 (some .int)) 0 0 1 20 Z [.ref (zA Z (6) (0) (0))] S h (S 0 4 4 7) (S) h := by
  refine Cq.of rfl rfl rfl (Nat.le_of_ble_eq_true rfl) (fun p e s mi args below meth c A0 Q X hSt hZ K => ?_)
  refine j_at rfl rfl (Ls3 := [(0, .ref (zA Z (6) (0) (0)))]) rfl rfl ?_
  refine j_aload_n X dL_commits_0 rfl rfl (q := 0) rfl ?_
  refine j_calli X (c_X5_commits l Z S h ) (wm_top (by decide)) ((fun _ => rfl) _) rfl lk_RL_120 mi_X5_commits ms_X5_commits ini_RX5 mc_X5_commits md_X5_commits ⟨Nat.le_of_ble_eq_true rfl, Nat.le_of_ble_eq_true rfl⟩ ⟨Nat.le_of_ble_eq_true rfl, Nat.le_of_ble_eq_true rfl⟩ rfl (Nat.le_of_ble_eq_true rfl) (as := []) (rest := []) rfl dL_commits_1 rfl ?_
  exact j_ret (by first | with_reducible rfl | (simp []; done) | (simp_all []; done) | rfl) (by first | with_reducible rfl | (simp []; done) | (simp_all []; done) | rfl) rfl (K _ _ dL_commits_4)

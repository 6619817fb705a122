/-! the law's own static methods: their contracts have room for new cells; they may catch -/
section JW
variable {p : Program} {l : Launch} {e : Env} {R : Room} {s : State} {m : MethodId} {args : Array Value} {below : List Frame} {meth : Method} {c : Code} {n : Nat} {Z : wZ} {A0 : Nat → Prop} {cells slots : Nat} {Q : State → Prop} {cc : ByteArray} {own : String} {S S2 : St} {h h2 : Hl} {Ls Ls2 : List (Nat × Value)} {pc pc2 : Nat} {st rest : List Value}
theorem j_widen {k2 n2 : Nat} (h1 : cells ≤ k2) (h2 : slots ≤ n2) (kk : J p l e R s m args below meth c n Z A0 k2 n2 Q S h Ls pc st) : J p l e R s m args below meth c n Z A0 cells slots Q S h Ls pc st :=
  fun H locs ls hP hS hl => W.widen h1 h2 (kk H locs ls hP hS hl)
theorem zq_at {H : Heap} {locs : List Loc} {U : State} (X : JX p s m args meth c cc n own Z A0) (hZ : hZq A0 s s.heap) (hS : va_S A0 s.heap H locs) (hU : U.heap = H) (hW : s.WarmedH U.vm) : hZq (va_A (ws Z S h) H.size) U U.heap := by
  have hF := ca_free (X.2.2.2.2.2.2.2.1 S h) hS X.2.2.2.2.2.2.2.2
  rw [hU]
  exact ⟨((hZ.1.kept hS.2.1).moved hW.alike).narrow hF, ((hZ.2.kept hS.2.1).moved hW.alike).narrow hF⟩
/-- a call that throws, and is caught -/
theorem j_callT (X : JX p s m args meth c cc n own Z A0) (hSt : hStr s) (hZ : hZq A0 s s.heap) {y : MethodName} {bytes : ByteArray} {ml fr lo idx na : Nat} {as : List Value} {ret : FieldType} {E : String} {C : String} {T : u_T} {N ci mm g i : Nat} {fs : List Value} (hC : Ct l y bytes ml ret fr lo Z (.ref (zA Z mm g i) :: as) S h E) (hq : (mm, g, i) ∈ wPl Z) (he : wE Z h mm g i (S mm g i) = .inr (ci, fs)) (hc : vwCl[ci]? = some (C, T, N)) (w1 : Cond.methodLink own idx y ∈ wsL_law) (w2 : Cond.instanceMethod y ∈ wsL_law) (w3 : Cond.selects C y y ∈ wsL_law) (w4 : Cond.initialized C ∈ wsL_law) (w5 : Cond.code y bytes ml (some ret) ∈ wsL_law) (hd : y.cls = C ∧ y.cls ≠ "java/lang/invoke/MethodHandle" ∧ y.cls ≠ "java/lang/invoke/VarHandle" ∧ (parseMethodDescriptor y.desc).map (fun d => d.parameters.length) = some na) (hR : fr + 1 ≤ R.frames ∧ 8 + (ml + 11) + lo ≤ R.locals) (hcs : cells + 1 ≤ R.cells ∧ slots + 6 ≤ R.slots) (hna : as.length = na) (hcat : (rest.map fun v => v.category).sum ≤ 8) (hst : st = as.reverse ++ .ref (zA Z mm g i) :: rest) (hdg : decode cc pc = .ok (.invokevirtual idx, 3))
    {hh : List (Nat × Nat × Nat × Nat)} (htab : c.exceptionTable.toList = tableOf hh) (pre : List ExceptionTableEntry) (x : ExceptionTableEntry) (suf : List ExceptionTableEntry) (hsplit : tableOf hh = pre ++ x :: suf) (hpass : ∀ z ∈ pre, z.catchType ≠ 0 ∧ ∃ nm : String, Cond.classLink own z.catchType nm ∈ wsL_law ∧ va_Nc E nm s) (hx : covers x pc = true) (h0 : x.catchType ≠ 0) (hlink : Cond.classLink own x.catchType E ∈ wsL_law) (hcast : Cond.castable E E ∈ exB)
    (k : ∀ q9 : Nat, J p l e R s m args below meth c n Z A0 (cells + 1) (slots + 6) Q S h Ls x.handlerPc [.ref q9]) : J p l e R s m args below meth c n Z A0 cells slots Q S h Ls pc st := by
  subst hst
  intro H locs ls hP hS hl
  obtain ⟨q0, -, hw⟩ := ws_at Z S h hq
  rw [he] at hw
  have hF := ca_free (X.2.2.2.2.2.2.2.1 S h) hS X.2.2.2.2.2.2.2.2
  refine vx_calli (vx_runV (As := as) (rest := rest) ⟨X.1, X.2.1, X.2.2.1, X.2.2.2.1, X.2.2.2.2.1⟩ (hC H.size) (cwV na X.2.2.2.2.1 (gd (fun w hw => ?_)) rfl rfl rfl hd hR) ⟨PcT.blind, va_recv X.2.2.2.2.2.2.1 hP hc hw, fun U hU hW => ⟨rfl, by rw [hU], ⟨by rw [hU]; exact hP, va_K.moved hW.alike X.2.2.2.2.2.2.1, X.2.2.2.2.2.1.warm hW, (X.2.2.2.2.2.2.2.1 S h).weaken (fun _ _ _ _ => trivial)⟩, hSt.warm hW, zq_at X hZ hS hU hW⟩⟩ rfl hna hl.1 rfl (lv_room hcat) hdg hcs) hS (fun q _ hq => hF q hq) hF (fun q _ hq => hF q hq) (fun E' ce q9 u t H1 locs1 ht hvm hpx hB hz1 hk1 hS1 hce hcv hcl => ?_) (fun r1 u t H1 locs1 ht hvm hr1 hB hz1 hk1 hS1 => hr1.elim)
  · simp only [wsV, List.mem_append, List.mem_cons, List.not_mem_nil, or_false] at hw
    rcases hw with (rfl | rfl | rfl | rfl) | rfl | hw
    all_goals assumption
  · obtain ⟨rfl, hP1⟩ := hB
    rw [ht] at hP1
    exact vx_catch X.2.2.2.1 pre x suf (htab.trans hsplit) (fun z hz => Or.inr ⟨(hpass z hz).1, by obtain ⟨nm, n1, n2⟩ := (hpass z hz).2; exact ⟨nm, X.2.2.2.2.1 _ n1, n2⟩⟩) hx h0 (X.2.2.2.2.1 _ hlink) (va_Nw.use rfl (hSt.1 _ hcast)) hce hcv hcl (k q9 H1 locs1 ls hP1 hS1 hl)
theorem j_lconst (X : JX p s m args meth c cc n own Z A0) {i : Fin 2} {v : Int64} (hdg : decode cc pc = .ok (.lconst i, 1)) (hp : pc + 1 = pc2) (hv : Int64.ofNat (i : Nat) = v) (k : J p l e R s m args below meth c n Z A0 cells slots Q S h Ls pc2 (.long v :: st)) : J p l e R s m args below meth c n Z A0 cells slots Q S h Ls pc st := by
  subst hp; exact fun H locs ls hP hS hl => lv_lconst X.1 X.2.1 hdg hv (k H locs ls hP hS hl)
theorem j_land (X : JX p s m args meth c cc n own Z A0) {x y : Int64} (hdg : decode cc pc = .ok (.land, 1)) (hp : pc + 1 = pc2) (k : J p l e R s m args below meth c n Z A0 cells slots Q S h Ls pc2 (.long (x &&& y) :: st)) : J p l e R s m args below meth c n Z A0 cells slots Q S h Ls pc (.long y :: .long x :: st) := by
  subst hp; exact fun H locs ls hP hS hl => lv_land X.1 X.2.1 hdg (k H locs ls hP hS hl)
theorem j_lor (X : JX p s m args meth c cc n own Z A0) {x y : Int64} (hdg : decode cc pc = .ok (.lor, 1)) (hp : pc + 1 = pc2) (k : J p l e R s m args below meth c n Z A0 cells slots Q S h Ls pc2 (.long (x ||| y) :: st)) : J p l e R s m args below meth c n Z A0 cells slots Q S h Ls pc (.long y :: .long x :: st) := by
  subst hp; exact fun H locs ls hP hS hl => lv_lor X.1 X.2.1 hdg (k H locs ls hP hS hl)
theorem j_lshl (X : JX p s m args meth c cc n own Z A0) {x : Int64} {y : Int32} (hdg : decode cc pc = .ok (.lshl, 1)) (hp : pc + 1 = pc2) (k : J p l e R s m args below meth c n Z A0 cells slots Q S h Ls pc2 (.long (x <<< (y.toInt64 &&& 63)) :: st)) : J p l e R s m args below meth c n Z A0 cells slots Q S h Ls pc (.int y :: .long x :: st) := by
  subst hp; exact fun H locs ls hP hS hl => lv_lshl X.1 X.2.1 hdg rfl (k H locs ls hP hS hl)
theorem j_lshr (X : JX p s m args meth c cc n own Z A0) {x : Int64} {y : Int32} (hdg : decode cc pc = .ok (.lshr, 1)) (hp : pc + 1 = pc2) (k : J p l e R s m args below meth c n Z A0 cells slots Q S h Ls pc2 (.long (x >>> (y.toInt64 &&& 63)) :: st)) : J p l e R s m args below meth c n Z A0 cells slots Q S h Ls pc (.int y :: .long x :: st) := by
  subst hp; exact fun H locs ls hP hS hl => lv_lshr X.1 X.2.1 hdg rfl (k H locs ls hP hS hl)
/-- two states that are alike where the world lies -/
theorem ws_eq {Z : wZ} {S S' : St} {h h' : Hl} (e : ∀ q ∈ wPl Z, S q.1 q.2.1 q.2.2 = S' q.1 q.2.1 q.2.2) : ws Z S h = ws Z S' h' := by
  unfold ws
  refine List.map_congr_left (fun q hq => ?_)
  rw [e q hq]; rfl
theorem j_ws (hw9 : ∀ q ∈ wPl Z, S q.1 q.2.1 q.2.2 = S2 q.1 q.2.1 q.2.2) (k : J p l e R s m args below meth c n Z A0 cells slots Q S2 h Ls pc st) : J p l e R s m args below meth c n Z A0 cells slots Q S h Ls pc st :=
  fun H locs ls hP hS hl => k H locs ls (by rw [← ws_eq hw9 (h := h)]; exact hP) hS hl
/-- a contract of the law's own method: it answers r, leaves S2, and makes at most kc cells of ks slots -/
def Cq (l : Launch) (y : MethodName) (kw : Cond) (kc ks fr lo : Nat) (Z : wZ) (as : List Value) (S : St) (h : Hl) (r : Int32) (S2 : St) (h2 : Hl) : Prop :=
  ∀ sz : Nat, Met l y (kw :: wsL_law) { frames := fr, cells := kc, slots := ks, locals := lo } (PcT Z as S h sz) (va_Qi (fun (r' : Int32) (_ : Unit) => r' = r) (fun _ t => va_P (zG Z) vwCl (ws Z S2 h2) t.heap) (va_A (ws Z S h) sz)) kc ks (va_A (ws Z S h) sz)
theorem Cq.to {y : MethodName} {kw : Cond} {kc ks fr lo : Nat} {as : List Value} {r r3 : Int32} {S3 : St} (hC : Cq l y kw kc ks fr lo Z as S h r S2 h2) (hr : r = r3) (e : ∀ q ∈ wPl Z, S2 q.1 q.2.1 q.2.2 = S3 q.1 q.2.1 q.2.2) : Cq l y kw kc ks fr lo Z as S h r3 S3 h2 := by
  subst hr
  unfold Cq at *
  rw [ws_eq e (h := h2) (h' := h2)] at hC
  exact hC
theorem Cq.ofW {y : MethodName} {hh : List (Nat × Nat × Nat × Nat)} {ml kc ks fr lo : Nat} {as : List Value} {r : Int32} {ret : FieldType} (hcls : y.cls = RL) (hy : plainName y.cls = true) (hn : narrow ret (.int r) = .int r) (hlen : (lg_sl as).length ≤ ml)
    (body : ∀ (p : Program) (e : Env) (s : State) (m : MethodId) (args : Array Value) (below : List Frame) (meth : Method) (c : Code) (A0 : Nat → Prop) (Q : State → Prop), JX p s m args meth c cc ml RL Z A0 → hStr s → hZq A0 s s.heap → c.exceptionTable.toList = tableOf hh →
      (∀ (Ls : List (Nat × Value)) (pc : Nat), decode cc pc = .ok (.ireturn, 1) → J p l e { frames := fr, cells := kc, slots := ks, locals := lo } s m args below meth c ml Z A0 kc ks Q S2 h2 Ls pc [.int r]) →
      J p l e { frames := fr, cells := kc, slots := ks, locals := lo } s m args below meth c ml Z A0 0 0 Q S h (lv_args 0 as) 0 []) : Cq l y (.codeWith y cc ml (some ret) hh) kc ks fr lo Z as S h r S2 h2 := by
  intro sz
  refine va_MetW (cc := cc) (maxL := ml) (ret := (some ret)) (hh := hh) hy rfl ?_
  intro p e s m args below meth c s₁ B hml hv
  obtain ⟨rfl, hsz, ⟨hP, hK, hN, hD0⟩, hSt, hZ⟩ := hv
  subst hsz
  have hts := atoms_spec (ws := .codeWith y cc ml (some ret) hh :: wsL_law) B.pre
  have hown : s.vm.findClass RL = some m.cls := by rw [← hcls]; exact findClass_of_methodNamed B.named
  have hlocks := B.notSynchronized
  have hD := hD0.self (sz := s.heap.size)
  have hl := lv_entry as (n := ml) hlen
  rw [lg_entry_eq]
  refine body p e s m as.toArray below meth c (va_A (ws Z S h) s.heap.size) _ ⟨B.exec, B.bytes, hml, hown, fun w hw => hts w (List.mem_cons_of_mem _ hw), hN, hK, fun S3 h3 => ws_D hD, fun q hq => Or.inr hq⟩ hSt hZ (vx_table (x := y) B (hts _ List.mem_cons_self)) (fun Ls pc hdg => ?_) s.heap [] _ hP va_S.rf hl
  intro H locs ls hP2 hS2 hl2
  exact W.zret (v := r) B.exec B.bytes B.returns hn (fun t ht hW => ⟨⟨r, (), rfl, rfl, (show va_P (zG Z) vwCl (ws Z S2 h2) t.heap by rw [ht]; exact hP2)⟩, hS2.F ht⟩) hS2.2.2 hdg
theorem Cq.of {y : MethodName} {ml kc ks fr lo : Nat} {as : List Value} {r : Int32} {ret : FieldType} (hcls : y.cls = RL) (hy : plainName y.cls = true) (hn : narrow ret (.int r) = .int r) (hlen : (lg_sl as).length ≤ ml)
    (body : ∀ (p : Program) (e : Env) (s : State) (m : MethodId) (args : Array Value) (below : List Frame) (meth : Method) (c : Code) (A0 : Nat → Prop) (Q : State → Prop), JX p s m args meth c cc ml RL Z A0 → hStr s → hZq A0 s s.heap →
      (∀ (Ls : List (Nat × Value)) (pc : Nat), decode cc pc = .ok (.ireturn, 1) → J p l e { frames := fr, cells := kc, slots := ks, locals := lo } s m args below meth c ml Z A0 kc ks Q S2 h2 Ls pc [.int r]) →
      J p l e { frames := fr, cells := kc, slots := ks, locals := lo } s m args below meth c ml Z A0 0 0 Q S h (lv_args 0 as) 0 []) : Cq l y (.code y cc ml (some ret)) kc ks fr lo Z as S h r S2 h2 := by
  intro sz
  refine Met.ofW (cc := cc) (maxL := ml) (ret := (some ret)) hy rfl ?_
  intro p e s m args below meth c s₁ B hml hv
  obtain ⟨rfl, hsz, ⟨hP, hK, hN, hD0⟩, hSt, hZ⟩ := hv
  subst hsz
  have hts := atoms_spec (ws := .code y cc ml (some ret) :: wsL_law) B.pre
  have hown : s.vm.findClass RL = some m.cls := by rw [← hcls]; exact findClass_of_methodNamed B.named
  have hlocks := B.notSynchronized
  have hD := hD0.self (sz := s.heap.size)
  have hl := lv_entry as (n := ml) hlen
  rw [lg_entry_eq]
  refine body p e s m as.toArray below meth c (va_A (ws Z S h) s.heap.size) _ ⟨B.exec, B.bytes, hml, hown, fun w hw => hts w (List.mem_cons_of_mem _ hw), hN, hK, fun S3 h3 => ws_D hD, fun q hq => Or.inr hq⟩ hSt hZ (fun Ls pc hdg => ?_) s.heap [] _ hP va_S.rf hl
  intro H locs ls hP2 hS2 hl2
  exact W.zret (v := r) B.exec B.bytes B.returns hn (fun t ht hW => ⟨⟨r, (), rfl, rfl, (show va_P (zG Z) vwCl (ws Z S2 h2) t.heap by rw [ht]; exact hP2)⟩, hS2.F ht⟩) hS2.2.2 hdg
/-- the law's call of its own static method -/
theorem j_callQW (X : JX p s m args meth c cc n RL Z A0) (hSt : hStr s) (hZ : hZq A0 s s.heap) {y : MethodName} {bytes : ByteArray} {hh : List (Nat × Nat × Nat × Nat)} {ml kc ks fr lo idx na : Nat} {as : List Value} {r : Int32} {ret : FieldType} (hC : Cq l y (.codeWith y bytes ml (some ret) hh) kc ks fr lo Z as S h r S2 h2) (w1 : Cond.methodLink RL idx y ∈ wsL_law) (w2 : Cond.static y ∈ wsL_law) (w4 : Cond.initialized RL ∈ wsL_law) (w5 : Cond.codeWith y bytes ml (some ret) hh ∈ wsL_law) (hd : y.cls = RL ∧ y.cls ≠ "java/lang/invoke/MethodHandle" ∧ y.cls ≠ "java/lang/invoke/VarHandle" ∧ (parseMethodDescriptor y.desc).map (fun d => d.parameters.length) = some na) (hR : fr + 1 ≤ R.frames ∧ 8 + (ml + 11) + lo ≤ R.locals) (hcs : cells + kc ≤ R.cells ∧ slots + ks ≤ R.slots) (hna : as.length = na) (hcat : (rest.map fun v => v.category).sum ≤ 8) (hst : st = as.reverse ++ rest) (hdg : decode cc pc = .ok (.invokestatic idx, 3)) (hp : pc + 3 = pc2) (k : J p l e R s m args below meth c n Z A0 (cells + kc) (slots + ks) Q S2 h2 Ls pc2 (.int r :: rest)) : J p l e R s m args below meth c n Z A0 cells slots Q S h Ls pc st := by
  subst hp; subst hst
  intro H locs ls hP hS hl
  have hF := ca_free (X.2.2.2.2.2.2.2.1 S h) hS X.2.2.2.2.2.2.2.2
  have w4' : Cond.initialized y.cls ∈ wsL_law := by rw [hd.1]; exact w4
  refine va_calli (vx_runSW (As := as) (rest := rest) ⟨X.1, X.2.1, X.2.2.1, X.2.2.2.1, X.2.2.2.2.1⟩ (hC H.size) (vx_cwSW na X.2.2.2.2.1 (gd (fun w hw => ?_)) rfl rfl rfl hd.2 hR) ⟨PcT.blind, fun U hU hW => ⟨rfl, by rw [hU], ⟨by rw [hU]; exact hP, va_K.moved hW.alike X.2.2.2.2.2.2.1, X.2.2.2.2.2.1.warm hW, (X.2.2.2.2.2.2.2.1 S h).weaken (fun _ _ _ _ => trivial)⟩, hSt.warm hW, zq_at X hZ hS hU hW⟩⟩ rfl hna hl.1 rfl (lv_room hcat) hdg hcs) hS (fun q _ hq => hF q hq) hF (fun r1 u t H1 locs1 ht hvm hr1 hB hz1 hk1 hS1 => ?_)
  · simp only [va_wsS, List.mem_append, List.mem_cons, List.not_mem_nil, or_false] at hw
    rcases hw with (rfl | rfl | rfl) | rfl | hw
    all_goals assumption
  subst hr1
  rw [ht] at hB
  exact k H1 locs1 ls hB hS1 hl
/-- the law's call of its own static method -/
theorem j_callQ (X : JX p s m args meth c cc n RL Z A0) (hSt : hStr s) (hZ : hZq A0 s s.heap) {y : MethodName} {bytes : ByteArray} {ml kc ks fr lo idx na : Nat} {as : List Value} {r : Int32} {ret : FieldType} (hC : Cq l y (.code y bytes ml (some ret)) kc ks fr lo Z as S h r S2 h2) (w1 : Cond.methodLink RL idx y ∈ wsL_law) (w2 : Cond.static y ∈ wsL_law) (w4 : Cond.initialized RL ∈ wsL_law) (w5 : Cond.code y bytes ml (some ret) ∈ wsL_law) (hd : y.cls = RL ∧ y.cls ≠ "java/lang/invoke/MethodHandle" ∧ y.cls ≠ "java/lang/invoke/VarHandle" ∧ (parseMethodDescriptor y.desc).map (fun d => d.parameters.length) = some na) (hR : fr + 1 ≤ R.frames ∧ 8 + (ml + 11) + lo ≤ R.locals) (hcs : cells + kc ≤ R.cells ∧ slots + ks ≤ R.slots) (hna : as.length = na) (hcat : (rest.map fun v => v.category).sum ≤ 8) (hst : st = as.reverse ++ rest) (hdg : decode cc pc = .ok (.invokestatic idx, 3)) (hp : pc + 3 = pc2) (k : J p l e R s m args below meth c n Z A0 (cells + kc) (slots + ks) Q S2 h2 Ls pc2 (.int r :: rest)) : J p l e R s m args below meth c n Z A0 cells slots Q S h Ls pc st := by
  subst hp; subst hst
  intro H locs ls hP hS hl
  have hF := ca_free (X.2.2.2.2.2.2.2.1 S h) hS X.2.2.2.2.2.2.2.2
  have w4' : Cond.initialized y.cls ∈ wsL_law := by rw [hd.1]; exact w4
  refine va_calli (va_runS (As := as) (rest := rest) ⟨X.1, X.2.1, X.2.2.1, X.2.2.2.1, X.2.2.2.2.1⟩ (hC H.size) (cwS na X.2.2.2.2.1 (gd (fun w hw => ?_)) rfl rfl rfl hd hR) ⟨PcT.blind, fun U hU hW => ⟨rfl, by rw [hU], ⟨by rw [hU]; exact hP, va_K.moved hW.alike X.2.2.2.2.2.2.1, X.2.2.2.2.2.1.warm hW, (X.2.2.2.2.2.2.2.1 S h).weaken (fun _ _ _ _ => trivial)⟩, hSt.warm hW, zq_at X hZ hS hU hW⟩⟩ rfl hna hl.1 rfl (lv_room hcat) hdg hcs) hS (fun q _ hq => hF q hq) hF (fun r1 u t H1 locs1 ht hvm hr1 hB hz1 hk1 hS1 => ?_)
  · simp only [wsS, List.mem_append, List.mem_cons, List.not_mem_nil, or_false] at hw
    rcases hw with (rfl | rfl | rfl) | rfl | hw
    all_goals assumption
  subst hr1
  rw [ht] at hB
  exact k H1 locs1 ls hB hS1 hl
end JW

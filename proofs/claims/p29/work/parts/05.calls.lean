/-! CONTRACTS: from the world of S, h and the arguments as, the method returns r and leaves the world of S2, h2 -/
def Wd (Z : wZ) (S : St) (h : Hl) (U : State) : Prop := va_P (zG Z) vwCl (ws Z S h) U.heap ∧ va_K (zG Z) vwCl (zT Z) U ∧ hNW U ∧ va_D (fun _ => True) (ws Z S h)
def PcW (Z : wZ) (as : List Value) (S : St) (h : Hl) (sz : Nat) : Array Value → State → Prop := va_Pc as (fun U => U.heap.size = sz ∧ Wd Z S h U)
theorem PcW.blind {Z : wZ} {as : List Value} {S : St} {h : Hl} {sz : Nat} : FrameBlind (PcW Z as S h sz) := fun a U g mk q => by
  obtain ⟨q0, q1, qP, qK, qN, qD⟩ := q
  exact ⟨q0, q1, qP, va_K.moved (u := U) (U := U.calling g mk a) (Vm.Alike.refl U.vm) qK, hNW.same (s := U) (U := U.calling g mk a) rfl qN, qD⟩
def Ci (l : Launch) (y : MethodName) (cc : ByteArray) (ml : Nat) (ret : FieldType) (fr lo : Nat) (Z : wZ) (as : List Value) (S : St) (h : Hl) (r : Int32) (S2 : St) (h2 : Hl) : Prop :=
  ∀ sz : Nat, Met l y (.code y cc ml (some ret) :: wsL_law) { frames := fr, cells := 0, slots := 0, locals := lo } (PcW Z as S h sz) (va_Qi (fun (r' : Int32) (_ : Unit) => r' = r) (fun _ t => Wd Z S2 h2 t) (va_A (ws Z S h) sz)) 0 0 (va_A (ws Z S h) sz)
def Cv (l : Launch) (y : MethodName) (cc : ByteArray) (ml : Nat) (fr lo : Nat) (Z : wZ) (as : List Value) (S : St) (h : Hl) (S2 : St) (h2 : Hl) : Prop :=
  ∀ sz : Nat, Met l y (.code y cc ml none :: wsL_law) { frames := fr, cells := 0, slots := 0, locals := lo } (PcW Z as S h sz) (va_Qv (fun (_ : Unit) => True) (fun _ t => Wd Z S2 h2 t) (va_A (ws Z S h) sz)) 0 0 (va_A (ws Z S h) sz)
def Cl (l : Launch) (y : MethodName) (cc : ByteArray) (ml : Nat) (fr lo : Nat) (Z : wZ) (as : List Value) (S : St) (h : Hl) (r : Int64) (S2 : St) (h2 : Hl) : Prop :=
  ∀ sz : Nat, Met l y (.code y cc ml (some .long) :: wsL_law) { frames := fr, cells := 0, slots := 0, locals := lo } (PcW Z as S h sz) (va_Ql (fun (r' : Int64) (_ : Unit) => r' = r) (fun _ t => Wd Z S2 h2 t) (va_A (ws Z S h) sz)) 0 0 (va_A (ws Z S h) sz)
theorem Ci.of {l : Launch} {y : MethodName} {cc : ByteArray} {ml fr lo : Nat} {Z : wZ} {as : List Value} {S S2 : St} {h h2 : Hl} {ret : FieldType} {r : Int32} (hy : plainName y.cls = true)  (hn : narrow ret (.int r) = .int r) (hlen : (lg_sl as).length ≤ ml)
    (body : ∀ (p : Program) (e : Env) (s : State) (m : MethodId) (args : Array Value) (below : List Frame) (meth : Method) (c : Code) (A0 : Nat → Prop) (Q : State → Prop), JX p s m args meth c cc ml y.cls Z A0 →
      (∀ (Ls : List (Nat × Value)) (pc : Nat), decode cc pc = .ok (.ireturn, 1) → J p l e { frames := fr, cells := 0, slots := 0, locals := lo } s m args below meth c ml Z A0 0 0 Q S2 h2 Ls pc [.int r]) →
      J p l e { frames := fr, cells := 0, slots := 0, locals := lo } s m args below meth c ml Z A0 0 0 Q S h (lv_args 0 as) 0 []) : Ci l y cc ml ret fr lo Z as S h r S2 h2 := by
  intro sz
  refine Met.ofW (cc := cc) (maxL := ml) (ret := (some ret)) hy rfl ?_
  intro p e s m args below meth c s₁ B hml hv
  obtain ⟨rfl, hsz, hP, hK, hN, hD0⟩ := hv
  subst hsz
  have hts := atoms_spec (ws := .code y cc ml (some ret) :: wsL_law) B.pre
  have hown : s.vm.findClass y.cls = some m.cls := findClass_of_methodNamed B.named
  have hlocks := B.notSynchronized
  have hD := hD0.self (sz := s.heap.size)
  have hl := lv_entry as (n := ml) hlen
  rw [lg_entry_eq]
  refine body p e s m as.toArray below meth c (va_A (ws Z S h) s.heap.size) _ ⟨B.exec, B.bytes, hml, hown, fun w hw => hts w (List.mem_cons_of_mem _ hw), hN, hK, fun S3 h3 => ws_D hD, fun q hq => Or.inr hq⟩ (fun Ls pc hdg => ?_) s.heap [] _ hP va_S.rf hl
  intro H locs ls hP2 hS2 hl2
  exact W.zret (v := r) B.exec B.bytes B.returns hn (fun t ht hW => ⟨⟨r, (), rfl, rfl, by rw [ht]; exact hP2, va_K.moved hW.alike hK, hN.warm hW, ws_D hD0⟩, hS2.F ht⟩) hS2.2.2 hdg
theorem Cv.of {l : Launch} {y : MethodName} {cc : ByteArray} {ml fr lo : Nat} {Z : wZ} {as : List Value} {S S2 : St} {h h2 : Hl} (hy : plainName y.cls = true)  (hlen : (lg_sl as).length ≤ ml)
    (body : ∀ (p : Program) (e : Env) (s : State) (m : MethodId) (args : Array Value) (below : List Frame) (meth : Method) (c : Code) (A0 : Nat → Prop) (Q : State → Prop), JX p s m args meth c cc ml y.cls Z A0 →
      (∀ (Ls : List (Nat × Value)) (pc : Nat), decode cc pc = .ok (.return_, 1) → J p l e { frames := fr, cells := 0, slots := 0, locals := lo } s m args below meth c ml Z A0 0 0 Q S2 h2 Ls pc []) →
      J p l e { frames := fr, cells := 0, slots := 0, locals := lo } s m args below meth c ml Z A0 0 0 Q S h (lv_args 0 as) 0 []) : Cv l y cc ml fr lo Z as S h S2 h2 := by
  intro sz
  refine Met.ofW (cc := cc) (maxL := ml) (ret := none) hy rfl ?_
  intro p e s m args below meth c s₁ B hml hv
  obtain ⟨rfl, hsz, hP, hK, hN, hD0⟩ := hv
  subst hsz
  have hts := atoms_spec (ws := .code y cc ml none :: wsL_law) B.pre
  have hown : s.vm.findClass y.cls = some m.cls := findClass_of_methodNamed B.named
  have hlocks := B.notSynchronized
  have hD := hD0.self (sz := s.heap.size)
  have hl := lv_entry as (n := ml) hlen
  rw [lg_entry_eq]
  refine body p e s m as.toArray below meth c (va_A (ws Z S h) s.heap.size) _ ⟨B.exec, B.bytes, hml, hown, fun w hw => hts w (List.mem_cons_of_mem _ hw), hN, hK, fun S3 h3 => ws_D hD, fun q hq => Or.inr hq⟩ (fun Ls pc hdg => ?_) s.heap [] _ hP va_S.rf hl
  intro H locs ls hP2 hS2 hl2
  exact W.vret B.exec B.bytes B.returns (fun t ht hW => ⟨⟨(), rfl, trivial, by rw [ht]; exact hP2, va_K.moved hW.alike hK, hN.warm hW, ws_D hD0⟩, hS2.F ht⟩) hS2.2.2 hdg
theorem Cl.of {l : Launch} {y : MethodName} {cc : ByteArray} {ml fr lo : Nat} {Z : wZ} {as : List Value} {S S2 : St} {h h2 : Hl} {r : Int64} (hy : plainName y.cls = true)  (hlen : (lg_sl as).length ≤ ml)
    (body : ∀ (p : Program) (e : Env) (s : State) (m : MethodId) (args : Array Value) (below : List Frame) (meth : Method) (c : Code) (A0 : Nat → Prop) (Q : State → Prop), JX p s m args meth c cc ml y.cls Z A0 →
      (∀ (Ls : List (Nat × Value)) (pc : Nat), decode cc pc = .ok (.lreturn, 1) → J p l e { frames := fr, cells := 0, slots := 0, locals := lo } s m args below meth c ml Z A0 0 0 Q S2 h2 Ls pc [.long r]) →
      J p l e { frames := fr, cells := 0, slots := 0, locals := lo } s m args below meth c ml Z A0 0 0 Q S h (lv_args 0 as) 0 []) : Cl l y cc ml fr lo Z as S h r S2 h2 := by
  intro sz
  refine Met.ofW (cc := cc) (maxL := ml) (ret := (some .long)) hy rfl ?_
  intro p e s m args below meth c s₁ B hml hv
  obtain ⟨rfl, hsz, hP, hK, hN, hD0⟩ := hv
  subst hsz
  have hts := atoms_spec (ws := .code y cc ml (some .long) :: wsL_law) B.pre
  have hown : s.vm.findClass y.cls = some m.cls := findClass_of_methodNamed B.named
  have hlocks := B.notSynchronized
  have hD := hD0.self (sz := s.heap.size)
  have hl := lv_entry as (n := ml) hlen
  rw [lg_entry_eq]
  refine body p e s m as.toArray below meth c (va_A (ws Z S h) s.heap.size) _ ⟨B.exec, B.bytes, hml, hown, fun w hw => hts w (List.mem_cons_of_mem _ hw), hN, hK, fun S3 h3 => ws_D hD, fun q hq => Or.inr hq⟩ (fun Ls pc hdg => ?_) s.heap [] _ hP va_S.rf hl
  intro H locs ls hP2 hS2 hl2
  exact W.lret (v := r) B.exec B.bytes B.returns (fun t ht hW => ⟨⟨r, (), rfl, rfl, by rw [ht]; exact hP2, va_K.moved hW.alike hK, hN.warm hW, ws_D hD0⟩, hS2.F ht⟩) hS2.2.2 hdg
section JC
variable {p : Program} {l : Launch} {e : Env} {R : Room} {s : State} {m : MethodId} {args : Array Value} {below : List Frame} {meth : Method} {c : Code} {n : Nat} {Z : wZ} {A0 : Nat → Prop} {cells slots : Nat} {Q : State → Prop} {cc : ByteArray} {own : String} {S S2 : St} {h h2 : Hl} {Ls : List (Nat × Value)} {pc pc2 : Nat} {st rest : List Value}
theorem gd {W : List Cond} (h : ∀ w ∈ W, w ∈ wsL_law) : GoodIn wsL_law W := fun w hw => ⟨h w hw, good_of_word (List.all_eq_true.mp law_good w (h w hw))⟩
theorem ca_free {A0 : Nat → Prop} {H0 H : Heap} {locs : List Loc} {Z : wZ} {S : St} {h : Hl} (hD : va_D A0 (ws Z S h)) (hS : va_S A0 H0 H locs) (hA : ∀ q : Nat, H0.size ≤ q → A0 q) : ∀ q, va_A (ws Z S h) H.size q → A0 q := by
  intro q hq
  rcases hq with ⟨k, e, hk⟩ | hq
  · exact hD.2 k _ hk
  · exact hA q (Nat.le_trans hS.1 hq)
theorem j_calli (X : JX p s m args meth c cc n own Z A0) {y : MethodName} {bytes : ByteArray} {ml fr lo idx na : Nat} {as : List Value} {ret : FieldType} {r : Int32} {C : String} {T : u_T} {N ci mm g i : Nat} {fs : List Value} (hC : Ci l y bytes ml ret fr lo Z (.ref (zA Z mm g i) :: as) S h r S2 h2) (hq : (mm, g, i) ∈ wPl Z) (he : wE Z h mm g i (S mm g i) = .inr (ci, fs)) (hc : vwCl[ci]? = some (C, T, N)) (w1 : Cond.methodLink own idx y ∈ wsL_law) (w2 : Cond.instanceMethod y ∈ wsL_law) (w3 : Cond.selects C y y ∈ wsL_law) (w4 : Cond.initialized C ∈ wsL_law) (w5 : Cond.code y bytes ml (some ret) ∈ wsL_law) (hd : y.cls = C ∧ y.cls ≠ "java/lang/invoke/MethodHandle" ∧ y.cls ≠ "java/lang/invoke/VarHandle" ∧ (parseMethodDescriptor y.desc).map (fun d => d.parameters.length) = some na) (hR : fr + 1 ≤ R.frames ∧ 8 + (ml + 11) + lo ≤ R.locals) (hcs : cells ≤ R.cells ∧ slots ≤ R.slots) (hna : as.length = na) (hcat : (rest.map fun v => v.category).sum ≤ 8) (hst : st = as.reverse ++ .ref (zA Z mm g i) :: rest) (hdg : decode cc pc = .ok (.invokevirtual idx, 3)) (hp : pc + 3 = pc2) (k : J p l e R s m args below meth c n Z A0 cells slots Q S2 h2 Ls pc2 (.int r :: rest)) : J p l e R s m args below meth c n Z A0 cells slots Q S h Ls pc st := by
  subst hp; subst hst
  intro H locs ls hP hS hl
  obtain ⟨q0, -, hw⟩ := ws_at Z S h hq
  rw [he] at hw
  have hF := ca_free (X.2.2.2.2.2.2.2.1 S h) hS X.2.2.2.2.2.2.2.2
  refine va_calli (va_runV (As := as) (rest := rest) ⟨X.1, X.2.1, X.2.2.1, X.2.2.2.1, X.2.2.2.2.1⟩ (hC H.size) (cwV na X.2.2.2.2.1 (gd (fun w hw => ?_)) rfl rfl rfl hd hR) ⟨PcW.blind, va_recv X.2.2.2.2.2.2.1 hP hc hw, fun U hU hW => ⟨rfl, by rw [hU], by rw [hU]; exact hP, va_K.moved hW.alike X.2.2.2.2.2.2.1, X.2.2.2.2.2.1.warm hW, (X.2.2.2.2.2.2.2.1 S h).weaken (fun _ _ _ _ => trivial)⟩⟩ rfl hna hl.1 rfl (lv_room hcat) hdg hcs) hS (fun q _ hq => hF q hq) hF (fun r1 u t H1 locs1 ht hvm hr1 hB hz1 hk1 hS1 => ?_)
  · simp only [wsV, List.mem_append, List.mem_cons, List.not_mem_nil, or_false] at hw
    rcases hw with (rfl | rfl | rfl | rfl) | rfl | hw
    all_goals assumption
  subst hr1
  obtain ⟨hP1, -⟩ := hB
  rw [ht] at hP1
  exact k H1 locs1 ls hP1 hS1 hl
theorem j_callNi (X : JX p s m args meth c cc n own Z A0) {y : MethodName} {bytes : ByteArray} {ml fr lo idx na : Nat} {as : List Value} {ret : FieldType} {r : Int32} {C host : String} {T : u_T} {N ci mm g i : Nat} {fs : List Value} (hC : Ci l y bytes ml ret fr lo Z (.ref (zA Z mm g i) :: as) S h r S2 h2) (hq : (mm, g, i) ∈ wPl Z) (he : wE Z h mm g i (S mm g i) = .inr (ci, fs)) (hc : vwCl[ci]? = some (C, T, N)) (w1 : Cond.methodLinkNest own idx y host ∈ NWs) (w2 : Cond.instanceMethod y ∈ wsL_law) (w3 : Cond.selects C y y ∈ wsL_law) (w4 : Cond.initialized C ∈ wsL_law) (w5 : Cond.code y bytes ml (some ret) ∈ wsL_law) (hd : y.cls = C ∧ y.cls ≠ "java/lang/invoke/MethodHandle" ∧ y.cls ≠ "java/lang/invoke/VarHandle" ∧ (parseMethodDescriptor y.desc).map (fun d => d.parameters.length) = some na) (hR : fr + 1 ≤ R.frames ∧ 8 + (ml + 11) + lo ≤ R.locals) (hcs : cells ≤ R.cells ∧ slots ≤ R.slots) (hna : as.length = na) (hcat : (rest.map fun v => v.category).sum ≤ 8) (hst : st = as.reverse ++ .ref (zA Z mm g i) :: rest) (hdg : decode cc pc = .ok (.invokevirtual idx, 3)) (hp : pc + 3 = pc2) (k : J p l e R s m args below meth c n Z A0 cells slots Q S2 h2 Ls pc2 (.int r :: rest)) : J p l e R s m args below meth c n Z A0 cells slots Q S h Ls pc st := by
  subst hp; subst hst
  intro H locs ls hP hS hl
  obtain ⟨q0, -, hw⟩ := ws_at Z S h hq
  rw [he] at hw
  have hF := ca_free (X.2.2.2.2.2.2.2.1 S h) hS X.2.2.2.2.2.2.2.2
  have hts := X.2.2.2.2.1
  refine va_calli (va_runVN (As := as) (rest := rest) ⟨X.1, X.2.1, X.2.2.1, X.2.2.2.1, X.2.2.2.2.1⟩ (hC H.size) ⟨va_cnB na X.2.2.2.2.1 (gd (fun w hw => ?_)) rfl rfl rfl (X.2.2.2.2.2.1 _ w1) (by rw [hd.1]; exact hts _ w4) hd.2 hR, hts _ w2, hts _ w3⟩ ⟨PcW.blind, va_recv X.2.2.2.2.2.2.1 hP hc hw, fun U hU hW => ⟨rfl, by rw [hU], by rw [hU]; exact hP, va_K.moved hW.alike X.2.2.2.2.2.2.1, X.2.2.2.2.2.1.warm hW, (X.2.2.2.2.2.2.2.1 S h).weaken (fun _ _ _ _ => trivial)⟩⟩ rfl hna hl.1 rfl (lv_room hcat) hdg hcs) hS (fun q _ hq => hF q hq) hF (fun r1 u t H1 locs1 ht hvm hr1 hB hz1 hk1 hS1 => ?_)
  · simp only [List.mem_cons] at hw
    rcases hw with rfl | hw
    all_goals assumption
  subst hr1
  obtain ⟨hP1, -⟩ := hB
  rw [ht] at hP1
  exact k H1 locs1 ls hP1 hS1 hl
theorem j_callSi (X : JX p s m args meth c cc n own Z A0) {y : MethodName} {bytes : ByteArray} {ml fr lo idx na : Nat} {as : List Value} {ret : FieldType} {r : Int32} (hC : Ci l y bytes ml ret fr lo Z as S h r S2 h2) (w1 : Cond.methodLink own idx y ∈ wsL_law) (w2 : Cond.static y ∈ wsL_law) (w4 : Cond.initialized own ∈ wsL_law) (w5 : Cond.code y bytes ml (some ret) ∈ wsL_law) (hd : y.cls = own ∧ y.cls ≠ "java/lang/invoke/MethodHandle" ∧ y.cls ≠ "java/lang/invoke/VarHandle" ∧ (parseMethodDescriptor y.desc).map (fun d => d.parameters.length) = some na) (hR : fr + 1 ≤ R.frames ∧ 8 + (ml + 11) + lo ≤ R.locals) (hcs : cells ≤ R.cells ∧ slots ≤ R.slots) (hna : as.length = na) (hcat : (rest.map fun v => v.category).sum ≤ 8) (hst : st = as.reverse ++ rest) (hdg : decode cc pc = .ok (.invokestatic idx, 3)) (hp : pc + 3 = pc2) (k : J p l e R s m args below meth c n Z A0 cells slots Q S2 h2 Ls pc2 (.int r :: rest)) : J p l e R s m args below meth c n Z A0 cells slots Q S h Ls pc st := by
  subst hp; subst hst
  intro H locs ls hP hS hl
  have hF := ca_free (X.2.2.2.2.2.2.2.1 S h) hS X.2.2.2.2.2.2.2.2
  refine va_calli (va_runS (As := as) (rest := rest) ⟨X.1, X.2.1, X.2.2.1, X.2.2.2.1, X.2.2.2.2.1⟩ (hC H.size) (cwS na X.2.2.2.2.1 (gd (fun w hw => ?_)) rfl rfl rfl hd hR) ⟨PcW.blind, fun U hU hW => ⟨rfl, by rw [hU], by rw [hU]; exact hP, va_K.moved hW.alike X.2.2.2.2.2.2.1, X.2.2.2.2.2.1.warm hW, (X.2.2.2.2.2.2.2.1 S h).weaken (fun _ _ _ _ => trivial)⟩⟩ rfl hna hl.1 rfl (lv_room hcat) hdg hcs) hS (fun q _ hq => hF q hq) hF (fun r1 u t H1 locs1 ht hvm hr1 hB hz1 hk1 hS1 => ?_)
  · simp only [wsS, List.mem_append, List.mem_cons, List.not_mem_nil, or_false] at hw
    rcases hw with (rfl | rfl | rfl) | rfl | hw
    all_goals assumption
  subst hr1
  obtain ⟨hP1, -⟩ := hB
  rw [ht] at hP1
  exact k H1 locs1 ls hP1 hS1 hl
theorem j_callSOi (X : JX p s m args meth c cc n own Z A0) {y : MethodName} {bytes : ByteArray} {ml fr lo idx na : Nat} {as : List Value} {ret : FieldType} {r : Int32} {C : String} (hC : Ci l y bytes ml ret fr lo Z as S h r S2 h2) (w1 : Cond.methodLink own idx y ∈ wsL_law) (w2 : Cond.static y ∈ wsL_law) (w4 : Cond.initialized C ∈ wsL_law) (w5 : Cond.code y bytes ml (some ret) ∈ wsL_law) (hd : y.cls = C ∧ y.cls ≠ "java/lang/invoke/MethodHandle" ∧ y.cls ≠ "java/lang/invoke/VarHandle" ∧ (parseMethodDescriptor y.desc).map (fun d => d.parameters.length) = some na) (hR : fr + 1 ≤ R.frames ∧ 8 + (ml + 11) + lo ≤ R.locals) (hcs : cells ≤ R.cells ∧ slots ≤ R.slots) (hna : as.length = na) (hcat : (rest.map fun v => v.category).sum ≤ 8) (hst : st = as.reverse ++ rest) (hdg : decode cc pc = .ok (.invokestatic idx, 3)) (hp : pc + 3 = pc2) (k : J p l e R s m args below meth c n Z A0 cells slots Q S2 h2 Ls pc2 (.int r :: rest)) : J p l e R s m args below meth c n Z A0 cells slots Q S h Ls pc st := by
  subst hp; subst hst
  intro H locs ls hP hS hl
  have hF := ca_free (X.2.2.2.2.2.2.2.1 S h) hS X.2.2.2.2.2.2.2.2
  have w4' : Cond.initialized y.cls ∈ wsL_law := by rw [hd.1]; exact w4
  refine va_calli (va_runS (As := as) (rest := rest) ⟨X.1, X.2.1, X.2.2.1, X.2.2.2.1, X.2.2.2.2.1⟩ (hC H.size) (va_cwS na X.2.2.2.2.1 (gd (fun w hw => ?_)) rfl rfl rfl hd.2 hR) ⟨PcW.blind, fun U hU hW => ⟨rfl, by rw [hU], by rw [hU]; exact hP, va_K.moved hW.alike X.2.2.2.2.2.2.1, X.2.2.2.2.2.1.warm hW, (X.2.2.2.2.2.2.2.1 S h).weaken (fun _ _ _ _ => trivial)⟩⟩ rfl hna hl.1 rfl (lv_room hcat) hdg hcs) hS (fun q _ hq => hF q hq) hF (fun r1 u t H1 locs1 ht hvm hr1 hB hz1 hk1 hS1 => ?_)
  · simp only [va_wsS, List.mem_append, List.mem_cons, List.not_mem_nil, or_false] at hw
    rcases hw with (rfl | rfl | rfl) | rfl | hw
    all_goals assumption
  subst hr1
  obtain ⟨hP1, -⟩ := hB
  rw [ht] at hP1
  exact k H1 locs1 ls hP1 hS1 hl
theorem j_callSNi (X : JX p s m args meth c cc n own Z A0) {y : MethodName} {bytes : ByteArray} {ml fr lo idx na : Nat} {as : List Value} {ret : FieldType} {r : Int32} {C host : String} (hC : Ci l y bytes ml ret fr lo Z as S h r S2 h2) (w1 : Cond.methodLinkNest own idx y host ∈ NWs) (w2 : Cond.static y ∈ wsL_law) (w4 : Cond.initialized C ∈ wsL_law) (w5 : Cond.code y bytes ml (some ret) ∈ wsL_law) (hd : y.cls = C ∧ y.cls ≠ "java/lang/invoke/MethodHandle" ∧ y.cls ≠ "java/lang/invoke/VarHandle" ∧ (parseMethodDescriptor y.desc).map (fun d => d.parameters.length) = some na) (hR : fr + 1 ≤ R.frames ∧ 8 + (ml + 11) + lo ≤ R.locals) (hcs : cells ≤ R.cells ∧ slots ≤ R.slots) (hna : as.length = na) (hcat : (rest.map fun v => v.category).sum ≤ 8) (hst : st = as.reverse ++ rest) (hdg : decode cc pc = .ok (.invokestatic idx, 3)) (hp : pc + 3 = pc2) (k : J p l e R s m args below meth c n Z A0 cells slots Q S2 h2 Ls pc2 (.int r :: rest)) : J p l e R s m args below meth c n Z A0 cells slots Q S h Ls pc st := by
  subst hp; subst hst
  intro H locs ls hP hS hl
  have hF := ca_free (X.2.2.2.2.2.2.2.1 S h) hS X.2.2.2.2.2.2.2.2
  have hts := X.2.2.2.2.1
  refine va_calli (va_runSN (As := as) (rest := rest) ⟨X.1, X.2.1, X.2.2.1, X.2.2.2.1, X.2.2.2.2.1⟩ (hC H.size) ⟨va_cnB na X.2.2.2.2.1 (gd (fun w hw => ?_)) rfl rfl rfl (X.2.2.2.2.2.1 _ w1) (by rw [hd.1]; exact hts _ w4) hd.2 hR, hts _ w2, trivial⟩ ⟨PcW.blind, fun U hU hW => ⟨rfl, by rw [hU], by rw [hU]; exact hP, va_K.moved hW.alike X.2.2.2.2.2.2.1, X.2.2.2.2.2.1.warm hW, (X.2.2.2.2.2.2.2.1 S h).weaken (fun _ _ _ _ => trivial)⟩⟩ rfl hna hl.1 rfl (lv_room hcat) hdg hcs) hS (fun q _ hq => hF q hq) hF (fun r1 u t H1 locs1 ht hvm hr1 hB hz1 hk1 hS1 => ?_)
  · simp only [List.mem_cons] at hw
    rcases hw with rfl | hw
    all_goals assumption
  subst hr1
  obtain ⟨hP1, -⟩ := hB
  rw [ht] at hP1
  exact k H1 locs1 ls hP1 hS1 hl
theorem j_callv (X : JX p s m args meth c cc n own Z A0) {y : MethodName} {bytes : ByteArray} {ml fr lo idx na : Nat} {as : List Value} {C : String} {T : u_T} {N ci mm g i : Nat} {fs : List Value} (hC : Cv l y bytes ml fr lo Z (.ref (zA Z mm g i) :: as) S h S2 h2) (hq : (mm, g, i) ∈ wPl Z) (he : wE Z h mm g i (S mm g i) = .inr (ci, fs)) (hc : vwCl[ci]? = some (C, T, N)) (w1 : Cond.methodLink own idx y ∈ wsL_law) (w2 : Cond.instanceMethod y ∈ wsL_law) (w3 : Cond.selects C y y ∈ wsL_law) (w4 : Cond.initialized C ∈ wsL_law) (w5 : Cond.code y bytes ml none ∈ wsL_law) (hd : y.cls = C ∧ y.cls ≠ "java/lang/invoke/MethodHandle" ∧ y.cls ≠ "java/lang/invoke/VarHandle" ∧ (parseMethodDescriptor y.desc).map (fun d => d.parameters.length) = some na) (hR : fr + 1 ≤ R.frames ∧ 8 + (ml + 11) + lo ≤ R.locals) (hcs : cells ≤ R.cells ∧ slots ≤ R.slots) (hna : as.length = na) (hcat : (rest.map fun v => v.category).sum ≤ 8) (hst : st = as.reverse ++ .ref (zA Z mm g i) :: rest) (hdg : decode cc pc = .ok (.invokevirtual idx, 3)) (hp : pc + 3 = pc2) (k : J p l e R s m args below meth c n Z A0 cells slots Q S2 h2 Ls pc2 rest) : J p l e R s m args below meth c n Z A0 cells slots Q S h Ls pc st := by
  subst hp; subst hst
  intro H locs ls hP hS hl
  obtain ⟨q0, -, hw⟩ := ws_at Z S h hq
  rw [he] at hw
  have hF := ca_free (X.2.2.2.2.2.2.2.1 S h) hS X.2.2.2.2.2.2.2.2
  refine va_callv (va_runV (As := as) (rest := rest) ⟨X.1, X.2.1, X.2.2.1, X.2.2.2.1, X.2.2.2.2.1⟩ (hC H.size) (cwV na X.2.2.2.2.1 (gd (fun w hw => ?_)) rfl rfl rfl hd hR) ⟨PcW.blind, va_recv X.2.2.2.2.2.2.1 hP hc hw, fun U hU hW => ⟨rfl, by rw [hU], by rw [hU]; exact hP, va_K.moved hW.alike X.2.2.2.2.2.2.1, X.2.2.2.2.2.1.warm hW, (X.2.2.2.2.2.2.2.1 S h).weaken (fun _ _ _ _ => trivial)⟩⟩ rfl hna hl.1 rfl (lv_room hcat) hdg hcs) hS (fun q _ hq => hF q hq) hF (fun u t H1 locs1 ht hvm hr1 hB hz1 hk1 hS1 => ?_)
  · simp only [wsV, List.mem_append, List.mem_cons, List.not_mem_nil, or_false] at hw
    rcases hw with (rfl | rfl | rfl | rfl) | rfl | hw
    all_goals assumption
  obtain ⟨hP1, -⟩ := hB
  rw [ht] at hP1
  exact k H1 locs1 ls hP1 hS1 hl
theorem j_callNv (X : JX p s m args meth c cc n own Z A0) {y : MethodName} {bytes : ByteArray} {ml fr lo idx na : Nat} {as : List Value} {C host : String} {T : u_T} {N ci mm g i : Nat} {fs : List Value} (hC : Cv l y bytes ml fr lo Z (.ref (zA Z mm g i) :: as) S h S2 h2) (hq : (mm, g, i) ∈ wPl Z) (he : wE Z h mm g i (S mm g i) = .inr (ci, fs)) (hc : vwCl[ci]? = some (C, T, N)) (w1 : Cond.methodLinkNest own idx y host ∈ NWs) (w2 : Cond.instanceMethod y ∈ wsL_law) (w3 : Cond.selects C y y ∈ wsL_law) (w4 : Cond.initialized C ∈ wsL_law) (w5 : Cond.code y bytes ml none ∈ wsL_law) (hd : y.cls = C ∧ y.cls ≠ "java/lang/invoke/MethodHandle" ∧ y.cls ≠ "java/lang/invoke/VarHandle" ∧ (parseMethodDescriptor y.desc).map (fun d => d.parameters.length) = some na) (hR : fr + 1 ≤ R.frames ∧ 8 + (ml + 11) + lo ≤ R.locals) (hcs : cells ≤ R.cells ∧ slots ≤ R.slots) (hna : as.length = na) (hcat : (rest.map fun v => v.category).sum ≤ 8) (hst : st = as.reverse ++ .ref (zA Z mm g i) :: rest) (hdg : decode cc pc = .ok (.invokevirtual idx, 3)) (hp : pc + 3 = pc2) (k : J p l e R s m args below meth c n Z A0 cells slots Q S2 h2 Ls pc2 rest) : J p l e R s m args below meth c n Z A0 cells slots Q S h Ls pc st := by
  subst hp; subst hst
  intro H locs ls hP hS hl
  obtain ⟨q0, -, hw⟩ := ws_at Z S h hq
  rw [he] at hw
  have hF := ca_free (X.2.2.2.2.2.2.2.1 S h) hS X.2.2.2.2.2.2.2.2
  have hts := X.2.2.2.2.1
  refine va_callv (va_runVN (As := as) (rest := rest) ⟨X.1, X.2.1, X.2.2.1, X.2.2.2.1, X.2.2.2.2.1⟩ (hC H.size) ⟨va_cnB na X.2.2.2.2.1 (gd (fun w hw => ?_)) rfl rfl rfl (X.2.2.2.2.2.1 _ w1) (by rw [hd.1]; exact hts _ w4) hd.2 hR, hts _ w2, hts _ w3⟩ ⟨PcW.blind, va_recv X.2.2.2.2.2.2.1 hP hc hw, fun U hU hW => ⟨rfl, by rw [hU], by rw [hU]; exact hP, va_K.moved hW.alike X.2.2.2.2.2.2.1, X.2.2.2.2.2.1.warm hW, (X.2.2.2.2.2.2.2.1 S h).weaken (fun _ _ _ _ => trivial)⟩⟩ rfl hna hl.1 rfl (lv_room hcat) hdg hcs) hS (fun q _ hq => hF q hq) hF (fun u t H1 locs1 ht hvm hr1 hB hz1 hk1 hS1 => ?_)
  · simp only [List.mem_cons] at hw
    rcases hw with rfl | hw
    all_goals assumption
  obtain ⟨hP1, -⟩ := hB
  rw [ht] at hP1
  exact k H1 locs1 ls hP1 hS1 hl
theorem j_callSv (X : JX p s m args meth c cc n own Z A0) {y : MethodName} {bytes : ByteArray} {ml fr lo idx na : Nat} {as : List Value} (hC : Cv l y bytes ml fr lo Z as S h S2 h2) (w1 : Cond.methodLink own idx y ∈ wsL_law) (w2 : Cond.static y ∈ wsL_law) (w4 : Cond.initialized own ∈ wsL_law) (w5 : Cond.code y bytes ml none ∈ wsL_law) (hd : y.cls = own ∧ y.cls ≠ "java/lang/invoke/MethodHandle" ∧ y.cls ≠ "java/lang/invoke/VarHandle" ∧ (parseMethodDescriptor y.desc).map (fun d => d.parameters.length) = some na) (hR : fr + 1 ≤ R.frames ∧ 8 + (ml + 11) + lo ≤ R.locals) (hcs : cells ≤ R.cells ∧ slots ≤ R.slots) (hna : as.length = na) (hcat : (rest.map fun v => v.category).sum ≤ 8) (hst : st = as.reverse ++ rest) (hdg : decode cc pc = .ok (.invokestatic idx, 3)) (hp : pc + 3 = pc2) (k : J p l e R s m args below meth c n Z A0 cells slots Q S2 h2 Ls pc2 rest) : J p l e R s m args below meth c n Z A0 cells slots Q S h Ls pc st := by
  subst hp; subst hst
  intro H locs ls hP hS hl
  have hF := ca_free (X.2.2.2.2.2.2.2.1 S h) hS X.2.2.2.2.2.2.2.2
  refine va_callv (va_runS (As := as) (rest := rest) ⟨X.1, X.2.1, X.2.2.1, X.2.2.2.1, X.2.2.2.2.1⟩ (hC H.size) (cwS na X.2.2.2.2.1 (gd (fun w hw => ?_)) rfl rfl rfl hd hR) ⟨PcW.blind, fun U hU hW => ⟨rfl, by rw [hU], by rw [hU]; exact hP, va_K.moved hW.alike X.2.2.2.2.2.2.1, X.2.2.2.2.2.1.warm hW, (X.2.2.2.2.2.2.2.1 S h).weaken (fun _ _ _ _ => trivial)⟩⟩ rfl hna hl.1 rfl (lv_room hcat) hdg hcs) hS (fun q _ hq => hF q hq) hF (fun u t H1 locs1 ht hvm hr1 hB hz1 hk1 hS1 => ?_)
  · simp only [wsS, List.mem_append, List.mem_cons, List.not_mem_nil, or_false] at hw
    rcases hw with (rfl | rfl | rfl) | rfl | hw
    all_goals assumption
  obtain ⟨hP1, -⟩ := hB
  rw [ht] at hP1
  exact k H1 locs1 ls hP1 hS1 hl
theorem j_callSOv (X : JX p s m args meth c cc n own Z A0) {y : MethodName} {bytes : ByteArray} {ml fr lo idx na : Nat} {as : List Value} {C : String} (hC : Cv l y bytes ml fr lo Z as S h S2 h2) (w1 : Cond.methodLink own idx y ∈ wsL_law) (w2 : Cond.static y ∈ wsL_law) (w4 : Cond.initialized C ∈ wsL_law) (w5 : Cond.code y bytes ml none ∈ wsL_law) (hd : y.cls = C ∧ y.cls ≠ "java/lang/invoke/MethodHandle" ∧ y.cls ≠ "java/lang/invoke/VarHandle" ∧ (parseMethodDescriptor y.desc).map (fun d => d.parameters.length) = some na) (hR : fr + 1 ≤ R.frames ∧ 8 + (ml + 11) + lo ≤ R.locals) (hcs : cells ≤ R.cells ∧ slots ≤ R.slots) (hna : as.length = na) (hcat : (rest.map fun v => v.category).sum ≤ 8) (hst : st = as.reverse ++ rest) (hdg : decode cc pc = .ok (.invokestatic idx, 3)) (hp : pc + 3 = pc2) (k : J p l e R s m args below meth c n Z A0 cells slots Q S2 h2 Ls pc2 rest) : J p l e R s m args below meth c n Z A0 cells slots Q S h Ls pc st := by
  subst hp; subst hst
  intro H locs ls hP hS hl
  have hF := ca_free (X.2.2.2.2.2.2.2.1 S h) hS X.2.2.2.2.2.2.2.2
  have w4' : Cond.initialized y.cls ∈ wsL_law := by rw [hd.1]; exact w4
  refine va_callv (va_runS (As := as) (rest := rest) ⟨X.1, X.2.1, X.2.2.1, X.2.2.2.1, X.2.2.2.2.1⟩ (hC H.size) (va_cwS na X.2.2.2.2.1 (gd (fun w hw => ?_)) rfl rfl rfl hd.2 hR) ⟨PcW.blind, fun U hU hW => ⟨rfl, by rw [hU], by rw [hU]; exact hP, va_K.moved hW.alike X.2.2.2.2.2.2.1, X.2.2.2.2.2.1.warm hW, (X.2.2.2.2.2.2.2.1 S h).weaken (fun _ _ _ _ => trivial)⟩⟩ rfl hna hl.1 rfl (lv_room hcat) hdg hcs) hS (fun q _ hq => hF q hq) hF (fun u t H1 locs1 ht hvm hr1 hB hz1 hk1 hS1 => ?_)
  · simp only [va_wsS, List.mem_append, List.mem_cons, List.not_mem_nil, or_false] at hw
    rcases hw with (rfl | rfl | rfl) | rfl | hw
    all_goals assumption
  obtain ⟨hP1, -⟩ := hB
  rw [ht] at hP1
  exact k H1 locs1 ls hP1 hS1 hl
theorem j_callSNv (X : JX p s m args meth c cc n own Z A0) {y : MethodName} {bytes : ByteArray} {ml fr lo idx na : Nat} {as : List Value} {C host : String} (hC : Cv l y bytes ml fr lo Z as S h S2 h2) (w1 : Cond.methodLinkNest own idx y host ∈ NWs) (w2 : Cond.static y ∈ wsL_law) (w4 : Cond.initialized C ∈ wsL_law) (w5 : Cond.code y bytes ml none ∈ wsL_law) (hd : y.cls = C ∧ y.cls ≠ "java/lang/invoke/MethodHandle" ∧ y.cls ≠ "java/lang/invoke/VarHandle" ∧ (parseMethodDescriptor y.desc).map (fun d => d.parameters.length) = some na) (hR : fr + 1 ≤ R.frames ∧ 8 + (ml + 11) + lo ≤ R.locals) (hcs : cells ≤ R.cells ∧ slots ≤ R.slots) (hna : as.length = na) (hcat : (rest.map fun v => v.category).sum ≤ 8) (hst : st = as.reverse ++ rest) (hdg : decode cc pc = .ok (.invokestatic idx, 3)) (hp : pc + 3 = pc2) (k : J p l e R s m args below meth c n Z A0 cells slots Q S2 h2 Ls pc2 rest) : J p l e R s m args below meth c n Z A0 cells slots Q S h Ls pc st := by
  subst hp; subst hst
  intro H locs ls hP hS hl
  have hF := ca_free (X.2.2.2.2.2.2.2.1 S h) hS X.2.2.2.2.2.2.2.2
  have hts := X.2.2.2.2.1
  refine va_callv (va_runSN (As := as) (rest := rest) ⟨X.1, X.2.1, X.2.2.1, X.2.2.2.1, X.2.2.2.2.1⟩ (hC H.size) ⟨va_cnB na X.2.2.2.2.1 (gd (fun w hw => ?_)) rfl rfl rfl (X.2.2.2.2.2.1 _ w1) (by rw [hd.1]; exact hts _ w4) hd.2 hR, hts _ w2, trivial⟩ ⟨PcW.blind, fun U hU hW => ⟨rfl, by rw [hU], by rw [hU]; exact hP, va_K.moved hW.alike X.2.2.2.2.2.2.1, X.2.2.2.2.2.1.warm hW, (X.2.2.2.2.2.2.2.1 S h).weaken (fun _ _ _ _ => trivial)⟩⟩ rfl hna hl.1 rfl (lv_room hcat) hdg hcs) hS (fun q _ hq => hF q hq) hF (fun u t H1 locs1 ht hvm hr1 hB hz1 hk1 hS1 => ?_)
  · simp only [List.mem_cons] at hw
    rcases hw with rfl | hw
    all_goals assumption
  obtain ⟨hP1, -⟩ := hB
  rw [ht] at hP1
  exact k H1 locs1 ls hP1 hS1 hl
theorem j_calll (X : JX p s m args meth c cc n own Z A0) {y : MethodName} {bytes : ByteArray} {ml fr lo idx na : Nat} {as : List Value} {r : Int64} {C : String} {T : u_T} {N ci mm g i : Nat} {fs : List Value} (hC : Cl l y bytes ml fr lo Z (.ref (zA Z mm g i) :: as) S h r S2 h2) (hq : (mm, g, i) ∈ wPl Z) (he : wE Z h mm g i (S mm g i) = .inr (ci, fs)) (hc : vwCl[ci]? = some (C, T, N)) (w1 : Cond.methodLink own idx y ∈ wsL_law) (w2 : Cond.instanceMethod y ∈ wsL_law) (w3 : Cond.selects C y y ∈ wsL_law) (w4 : Cond.initialized C ∈ wsL_law) (w5 : Cond.code y bytes ml (some .long) ∈ wsL_law) (hd : y.cls = C ∧ y.cls ≠ "java/lang/invoke/MethodHandle" ∧ y.cls ≠ "java/lang/invoke/VarHandle" ∧ (parseMethodDescriptor y.desc).map (fun d => d.parameters.length) = some na) (hR : fr + 1 ≤ R.frames ∧ 8 + (ml + 11) + lo ≤ R.locals) (hcs : cells ≤ R.cells ∧ slots ≤ R.slots) (hna : as.length = na) (hcat : (rest.map fun v => v.category).sum ≤ 8) (hst : st = as.reverse ++ .ref (zA Z mm g i) :: rest) (hdg : decode cc pc = .ok (.invokevirtual idx, 3)) (hp : pc + 3 = pc2) (k : J p l e R s m args below meth c n Z A0 cells slots Q S2 h2 Ls pc2 (.long r :: rest)) : J p l e R s m args below meth c n Z A0 cells slots Q S h Ls pc st := by
  subst hp; subst hst
  intro H locs ls hP hS hl
  obtain ⟨q0, -, hw⟩ := ws_at Z S h hq
  rw [he] at hw
  have hF := ca_free (X.2.2.2.2.2.2.2.1 S h) hS X.2.2.2.2.2.2.2.2
  refine va_calll (va_runV (As := as) (rest := rest) ⟨X.1, X.2.1, X.2.2.1, X.2.2.2.1, X.2.2.2.2.1⟩ (hC H.size) (cwV na X.2.2.2.2.1 (gd (fun w hw => ?_)) rfl rfl rfl hd hR) ⟨PcW.blind, va_recv X.2.2.2.2.2.2.1 hP hc hw, fun U hU hW => ⟨rfl, by rw [hU], by rw [hU]; exact hP, va_K.moved hW.alike X.2.2.2.2.2.2.1, X.2.2.2.2.2.1.warm hW, (X.2.2.2.2.2.2.2.1 S h).weaken (fun _ _ _ _ => trivial)⟩⟩ rfl hna hl.1 rfl (lv_room hcat) hdg hcs) hS (fun q _ hq => hF q hq) hF (fun r1 u t H1 locs1 ht hvm hr1 hB hz1 hk1 hS1 => ?_)
  · simp only [wsV, List.mem_append, List.mem_cons, List.not_mem_nil, or_false] at hw
    rcases hw with (rfl | rfl | rfl | rfl) | rfl | hw
    all_goals assumption
  subst hr1
  obtain ⟨hP1, -⟩ := hB
  rw [ht] at hP1
  exact k H1 locs1 ls hP1 hS1 hl
theorem j_callNl (X : JX p s m args meth c cc n own Z A0) {y : MethodName} {bytes : ByteArray} {ml fr lo idx na : Nat} {as : List Value} {r : Int64} {C host : String} {T : u_T} {N ci mm g i : Nat} {fs : List Value} (hC : Cl l y bytes ml fr lo Z (.ref (zA Z mm g i) :: as) S h r S2 h2) (hq : (mm, g, i) ∈ wPl Z) (he : wE Z h mm g i (S mm g i) = .inr (ci, fs)) (hc : vwCl[ci]? = some (C, T, N)) (w1 : Cond.methodLinkNest own idx y host ∈ NWs) (w2 : Cond.instanceMethod y ∈ wsL_law) (w3 : Cond.selects C y y ∈ wsL_law) (w4 : Cond.initialized C ∈ wsL_law) (w5 : Cond.code y bytes ml (some .long) ∈ wsL_law) (hd : y.cls = C ∧ y.cls ≠ "java/lang/invoke/MethodHandle" ∧ y.cls ≠ "java/lang/invoke/VarHandle" ∧ (parseMethodDescriptor y.desc).map (fun d => d.parameters.length) = some na) (hR : fr + 1 ≤ R.frames ∧ 8 + (ml + 11) + lo ≤ R.locals) (hcs : cells ≤ R.cells ∧ slots ≤ R.slots) (hna : as.length = na) (hcat : (rest.map fun v => v.category).sum ≤ 8) (hst : st = as.reverse ++ .ref (zA Z mm g i) :: rest) (hdg : decode cc pc = .ok (.invokevirtual idx, 3)) (hp : pc + 3 = pc2) (k : J p l e R s m args below meth c n Z A0 cells slots Q S2 h2 Ls pc2 (.long r :: rest)) : J p l e R s m args below meth c n Z A0 cells slots Q S h Ls pc st := by
  subst hp; subst hst
  intro H locs ls hP hS hl
  obtain ⟨q0, -, hw⟩ := ws_at Z S h hq
  rw [he] at hw
  have hF := ca_free (X.2.2.2.2.2.2.2.1 S h) hS X.2.2.2.2.2.2.2.2
  have hts := X.2.2.2.2.1
  refine va_calll (va_runVN (As := as) (rest := rest) ⟨X.1, X.2.1, X.2.2.1, X.2.2.2.1, X.2.2.2.2.1⟩ (hC H.size) ⟨va_cnB na X.2.2.2.2.1 (gd (fun w hw => ?_)) rfl rfl rfl (X.2.2.2.2.2.1 _ w1) (by rw [hd.1]; exact hts _ w4) hd.2 hR, hts _ w2, hts _ w3⟩ ⟨PcW.blind, va_recv X.2.2.2.2.2.2.1 hP hc hw, fun U hU hW => ⟨rfl, by rw [hU], by rw [hU]; exact hP, va_K.moved hW.alike X.2.2.2.2.2.2.1, X.2.2.2.2.2.1.warm hW, (X.2.2.2.2.2.2.2.1 S h).weaken (fun _ _ _ _ => trivial)⟩⟩ rfl hna hl.1 rfl (lv_room hcat) hdg hcs) hS (fun q _ hq => hF q hq) hF (fun r1 u t H1 locs1 ht hvm hr1 hB hz1 hk1 hS1 => ?_)
  · simp only [List.mem_cons] at hw
    rcases hw with rfl | hw
    all_goals assumption
  subst hr1
  obtain ⟨hP1, -⟩ := hB
  rw [ht] at hP1
  exact k H1 locs1 ls hP1 hS1 hl
theorem j_callSl (X : JX p s m args meth c cc n own Z A0) {y : MethodName} {bytes : ByteArray} {ml fr lo idx na : Nat} {as : List Value} {r : Int64} (hC : Cl l y bytes ml fr lo Z as S h r S2 h2) (w1 : Cond.methodLink own idx y ∈ wsL_law) (w2 : Cond.static y ∈ wsL_law) (w4 : Cond.initialized own ∈ wsL_law) (w5 : Cond.code y bytes ml (some .long) ∈ wsL_law) (hd : y.cls = own ∧ y.cls ≠ "java/lang/invoke/MethodHandle" ∧ y.cls ≠ "java/lang/invoke/VarHandle" ∧ (parseMethodDescriptor y.desc).map (fun d => d.parameters.length) = some na) (hR : fr + 1 ≤ R.frames ∧ 8 + (ml + 11) + lo ≤ R.locals) (hcs : cells ≤ R.cells ∧ slots ≤ R.slots) (hna : as.length = na) (hcat : (rest.map fun v => v.category).sum ≤ 8) (hst : st = as.reverse ++ rest) (hdg : decode cc pc = .ok (.invokestatic idx, 3)) (hp : pc + 3 = pc2) (k : J p l e R s m args below meth c n Z A0 cells slots Q S2 h2 Ls pc2 (.long r :: rest)) : J p l e R s m args below meth c n Z A0 cells slots Q S h Ls pc st := by
  subst hp; subst hst
  intro H locs ls hP hS hl
  have hF := ca_free (X.2.2.2.2.2.2.2.1 S h) hS X.2.2.2.2.2.2.2.2
  refine va_calll (va_runS (As := as) (rest := rest) ⟨X.1, X.2.1, X.2.2.1, X.2.2.2.1, X.2.2.2.2.1⟩ (hC H.size) (cwS na X.2.2.2.2.1 (gd (fun w hw => ?_)) rfl rfl rfl hd hR) ⟨PcW.blind, fun U hU hW => ⟨rfl, by rw [hU], by rw [hU]; exact hP, va_K.moved hW.alike X.2.2.2.2.2.2.1, X.2.2.2.2.2.1.warm hW, (X.2.2.2.2.2.2.2.1 S h).weaken (fun _ _ _ _ => trivial)⟩⟩ rfl hna hl.1 rfl (lv_room hcat) hdg hcs) hS (fun q _ hq => hF q hq) hF (fun r1 u t H1 locs1 ht hvm hr1 hB hz1 hk1 hS1 => ?_)
  · simp only [wsS, List.mem_append, List.mem_cons, List.not_mem_nil, or_false] at hw
    rcases hw with (rfl | rfl | rfl) | rfl | hw
    all_goals assumption
  subst hr1
  obtain ⟨hP1, -⟩ := hB
  rw [ht] at hP1
  exact k H1 locs1 ls hP1 hS1 hl
theorem j_callSOl (X : JX p s m args meth c cc n own Z A0) {y : MethodName} {bytes : ByteArray} {ml fr lo idx na : Nat} {as : List Value} {r : Int64} {C : String} (hC : Cl l y bytes ml fr lo Z as S h r S2 h2) (w1 : Cond.methodLink own idx y ∈ wsL_law) (w2 : Cond.static y ∈ wsL_law) (w4 : Cond.initialized C ∈ wsL_law) (w5 : Cond.code y bytes ml (some .long) ∈ wsL_law) (hd : y.cls = C ∧ y.cls ≠ "java/lang/invoke/MethodHandle" ∧ y.cls ≠ "java/lang/invoke/VarHandle" ∧ (parseMethodDescriptor y.desc).map (fun d => d.parameters.length) = some na) (hR : fr + 1 ≤ R.frames ∧ 8 + (ml + 11) + lo ≤ R.locals) (hcs : cells ≤ R.cells ∧ slots ≤ R.slots) (hna : as.length = na) (hcat : (rest.map fun v => v.category).sum ≤ 8) (hst : st = as.reverse ++ rest) (hdg : decode cc pc = .ok (.invokestatic idx, 3)) (hp : pc + 3 = pc2) (k : J p l e R s m args below meth c n Z A0 cells slots Q S2 h2 Ls pc2 (.long r :: rest)) : J p l e R s m args below meth c n Z A0 cells slots Q S h Ls pc st := by
  subst hp; subst hst
  intro H locs ls hP hS hl
  have hF := ca_free (X.2.2.2.2.2.2.2.1 S h) hS X.2.2.2.2.2.2.2.2
  have w4' : Cond.initialized y.cls ∈ wsL_law := by rw [hd.1]; exact w4
  refine va_calll (va_runS (As := as) (rest := rest) ⟨X.1, X.2.1, X.2.2.1, X.2.2.2.1, X.2.2.2.2.1⟩ (hC H.size) (va_cwS na X.2.2.2.2.1 (gd (fun w hw => ?_)) rfl rfl rfl hd.2 hR) ⟨PcW.blind, fun U hU hW => ⟨rfl, by rw [hU], by rw [hU]; exact hP, va_K.moved hW.alike X.2.2.2.2.2.2.1, X.2.2.2.2.2.1.warm hW, (X.2.2.2.2.2.2.2.1 S h).weaken (fun _ _ _ _ => trivial)⟩⟩ rfl hna hl.1 rfl (lv_room hcat) hdg hcs) hS (fun q _ hq => hF q hq) hF (fun r1 u t H1 locs1 ht hvm hr1 hB hz1 hk1 hS1 => ?_)
  · simp only [va_wsS, List.mem_append, List.mem_cons, List.not_mem_nil, or_false] at hw
    rcases hw with (rfl | rfl | rfl) | rfl | hw
    all_goals assumption
  subst hr1
  obtain ⟨hP1, -⟩ := hB
  rw [ht] at hP1
  exact k H1 locs1 ls hP1 hS1 hl
theorem j_callSNl (X : JX p s m args meth c cc n own Z A0) {y : MethodName} {bytes : ByteArray} {ml fr lo idx na : Nat} {as : List Value} {r : Int64} {C host : String} (hC : Cl l y bytes ml fr lo Z as S h r S2 h2) (w1 : Cond.methodLinkNest own idx y host ∈ NWs) (w2 : Cond.static y ∈ wsL_law) (w4 : Cond.initialized C ∈ wsL_law) (w5 : Cond.code y bytes ml (some .long) ∈ wsL_law) (hd : y.cls = C ∧ y.cls ≠ "java/lang/invoke/MethodHandle" ∧ y.cls ≠ "java/lang/invoke/VarHandle" ∧ (parseMethodDescriptor y.desc).map (fun d => d.parameters.length) = some na) (hR : fr + 1 ≤ R.frames ∧ 8 + (ml + 11) + lo ≤ R.locals) (hcs : cells ≤ R.cells ∧ slots ≤ R.slots) (hna : as.length = na) (hcat : (rest.map fun v => v.category).sum ≤ 8) (hst : st = as.reverse ++ rest) (hdg : decode cc pc = .ok (.invokestatic idx, 3)) (hp : pc + 3 = pc2) (k : J p l e R s m args below meth c n Z A0 cells slots Q S2 h2 Ls pc2 (.long r :: rest)) : J p l e R s m args below meth c n Z A0 cells slots Q S h Ls pc st := by
  subst hp; subst hst
  intro H locs ls hP hS hl
  have hF := ca_free (X.2.2.2.2.2.2.2.1 S h) hS X.2.2.2.2.2.2.2.2
  have hts := X.2.2.2.2.1
  refine va_calll (va_runSN (As := as) (rest := rest) ⟨X.1, X.2.1, X.2.2.1, X.2.2.2.1, X.2.2.2.2.1⟩ (hC H.size) ⟨va_cnB na X.2.2.2.2.1 (gd (fun w hw => ?_)) rfl rfl rfl (X.2.2.2.2.2.1 _ w1) (by rw [hd.1]; exact hts _ w4) hd.2 hR, hts _ w2, trivial⟩ ⟨PcW.blind, fun U hU hW => ⟨rfl, by rw [hU], by rw [hU]; exact hP, va_K.moved hW.alike X.2.2.2.2.2.2.1, X.2.2.2.2.2.1.warm hW, (X.2.2.2.2.2.2.2.1 S h).weaken (fun _ _ _ _ => trivial)⟩⟩ rfl hna hl.1 rfl (lv_room hcat) hdg hcs) hS (fun q _ hq => hF q hq) hF (fun r1 u t H1 locs1 ht hvm hr1 hB hz1 hk1 hS1 => ?_)
  · simp only [List.mem_cons] at hw
    rcases hw with rfl | hw
    all_goals assumption
  subst hr1
  obtain ⟨hP1, -⟩ := hB
  rw [ht] at hP1
  exact k H1 locs1 ls hP1 hS1 hl
end JC

/-! the exceptions of the class: what a launch without stack traces gives, the throw, the contract of a method that throws -/
abbrev eUp : List String := ["java/lang/RuntimeException", "java/lang/Exception"]
def exL : List (String × Nat × Nat) := [("java/lang/IllegalArgumentException", 53, 57), ("java/lang/IllegalStateException", 89, 93), ("java/lang/IndexOutOfBoundsException", 97, 101)]
def strL : List (Nat × String) := [(99, "there is no such core"), (187, "what is out of range"), (167, "there is no such core or line"), (161, "there is no such line"), (55, "an argument is out of range"), (76, "policy is out of range"), (82, "seed is out of range"), (87, "value is out of range"), (91, "the text is full"), (112, "the core has a transaction"), (135, "the core is not finished or has a transaction"), (140, "the core is finished"), (149, "steps is out of range"), (199, "there is no such commit"), (203, "there is no such commit or line"), (222, "there is no saved state")]
/-- the words that stay though they aren't among wsL_law's kind -/
def exB : List Cond := [Cond.castable "java/lang/IllegalArgumentException" "java/lang/IllegalArgumentException", Cond.castable "java/lang/IllegalStateException" "java/lang/IllegalStateException", Cond.castable "java/lang/IndexOutOfBoundsException" "java/lang/IndexOutOfBoundsException", Cond.declares (Bundle.initS "java/lang/RuntimeException"), Cond.declares (Bundle.initS "java/lang/Exception"), Cond.declares (Bundle.initS Bundle.tN)]
def isCD : Cond → Bool
  | .castable _ _ => true
  | .declares _ => true
  | _ => false
theorem exB_cd : exB.all isCD = true := by decide +kernel
theorem cd_of {w : Cond} (h : isCD w = true) : (∃ a b, w = .castable a b) ∨ ∃ x, w = .declares x := by
  cases w <;> first | exact Or.inl ⟨_, _, rfl⟩ | exact Or.inr ⟨_, rfl⟩ | cases h
theorem at_bad1 : ∀ w ∈ (vx_atS RX5 57 "java/lang/IllegalArgumentException" eUp).filter (fun w => !goodWord w), w ∈ exB := by decide +kernel
theorem at_bad2 : ∀ w ∈ (vx_atS RX5 93 "java/lang/IllegalStateException" eUp).filter (fun w => !goodWord w), w ∈ exB := by decide +kernel
theorem at_bad3 : ∀ w ∈ (vx_atS RX5 101 "java/lang/IndexOutOfBoundsException" eUp).filter (fun w => !goodWord w), w ∈ exB := by decide +kernel
theorem at_ot1 : (vx_atS RX5 57 "java/lang/IllegalArgumentException" eUp).all vx_ot = true := by decide +kernel
theorem at_ot2 : (vx_atS RX5 93 "java/lang/IllegalStateException" eUp).all vx_ot = true := by decide +kernel
theorem at_ot3 : (vx_atS RX5 101 "java/lang/IndexOutOfBoundsException" eUp).all vx_ot = true := by decide +kernel
theorem at_in1 : ∀ w ∈ (vx_atS RX5 57 "java/lang/IllegalArgumentException" eUp).filter goodWord, w ∈ wsL_law := fun w hw =>
  List.mem_append_left _ (List.mem_append_left _ (List.mem_append_right _ hw))
theorem at_in2 : ∀ w ∈ (vx_atS RX5 93 "java/lang/IllegalStateException" eUp).filter goodWord, w ∈ wsL_law := fun w hw =>
  List.mem_append_right _ hw
theorem at_in3 : ∀ w ∈ (vx_atS RX5 101 "java/lang/IndexOutOfBoundsException" eUp).filter goodWord, w ∈ wsL_law := fun w hw =>
  List.mem_append_left _ (List.mem_append_right _ hw)
theorem ex_words : ∀ q ∈ exL, (Cond.classLink RX5 q.2.1 q.1 ∈ wsL_law ∧ Cond.initialized q.1 ∈ wsL_law ∧ (∀ w ∈ (vx_atS RX5 q.2.2 q.1 eUp).filter goodWord, w ∈ wsL_law) ∧ Bundle.fit q.1 = true) ∧ (∀ w ∈ (vx_atS RX5 q.2.2 q.1 eUp).filter (fun w => !goodWord w), w ∈ exB) ∧ (vx_atS RX5 q.2.2 q.1 eUp).all vx_ot = true := by
  unfold exL
  refine List.forall_mem_cons.mpr ⟨⟨⟨(List.mem_of_getElem? (i := 105) (by decide +kernel)), (List.mem_of_getElem? (i := 106) (by decide +kernel)), at_in1, by decide +kernel⟩, at_bad1, at_ot1⟩, List.forall_mem_cons.mpr ⟨⟨⟨(List.mem_of_getElem? (i := 326) (by decide +kernel)), (List.mem_of_getElem? (i := 327) (by decide +kernel)), at_in2, by decide +kernel⟩, at_bad2, at_ot2⟩, List.forall_mem_cons.mpr ⟨⟨⟨(List.mem_of_getElem? (i := 127) (by decide +kernel)), (List.mem_of_getElem? (i := 128) (by decide +kernel)), at_in3, by decide +kernel⟩, at_bad3, at_ot3⟩, fun _ h => absurd h List.not_mem_nil⟩⟩⟩
theorem eUp_fit : ∀ n ∈ eUp, Bundle.fit n = true := by decide +kernel
/-- the texts of the exceptions, and which of them isn't which -/
def hStr (s : State) : Prop := (∀ w ∈ exB, va_Nw w s) ∧ (∀ q ∈ strL, ∃ a, vk_R RX5 q.1 q.2 a s) ∧ va_Nc "java/lang/IllegalStateException" "java/lang/IllegalArgumentException" s ∧ va_Nc "java/lang/IllegalStateException" "java/lang/IndexOutOfBoundsException" s ∧ va_Nc "java/lang/IllegalArgumentException" "java/lang/IndexOutOfBoundsException" s
theorem hStr.warm {s U : State} (hW : s.WarmedH U.vm) (h : hStr s) : hStr U :=
  ⟨fun w hw => by
    rcases cd_of (List.all_eq_true.mp exB_cd w hw) with ⟨a, b, rfl⟩ | ⟨x, rfl⟩
    · exact va_Nw.warmC hW (h.1 _ hw)
    · exact va_Nw.warmD hW (h.1 _ hw), fun q hq => by obtain ⟨a, ha⟩ := h.2.1 q hq; exact ⟨a, vk_R.warm hW ha⟩, va_Nc.moved hW.alike h.2.2.1, va_Nc.moved hW.alike h.2.2.2.1, va_Nc.moved hW.alike h.2.2.2.2⟩
theorem hStr.same {s U : State} (hv : s.vm = U.vm) (h : hStr s) : hStr U := by
  have ha : s.vm.Alike U.vm := by rw [hv]; exact Vm.Alike.refl U.vm
  exact ⟨fun w hw => by
    rcases cd_of (List.all_eq_true.mp exB_cd w hw) with ⟨a, b, rfl⟩ | ⟨x, rfl⟩
    · exact va_Nw.same rfl hv (h.1 _ hw)
    · exact va_Nw.same rfl hv (h.1 _ hw), fun q hq => by obtain ⟨a, ha⟩ := h.2.1 q hq; exact ⟨a, vk_R.same hv.symm ha⟩, va_Nc.moved ha h.2.2.1, va_Nc.moved ha h.2.2.2.1, va_Nc.moved ha h.2.2.2.2⟩
/-- Throwable's two statics -/
def hZq (A : Nat → Prop) (s : State) (H : Heap) : Prop := vx_Zq Bundle.tN "UNASSIGNED_STACK" Bundle.steD A s H ∧ vx_Zq Bundle.tN "SUPPRESSED_SENTINEL" Bundle.listD A s H
def PcT (Z : wZ) (as : List Value) (S : St) (h : Hl) (sz : Nat) : Array Value → State → Prop := va_Pc as (fun U => U.heap.size = sz ∧ Wd Z S h U ∧ hStr U ∧ hZq (va_A (ws Z S h) sz) U U.heap)
theorem PcT.blind {Z : wZ} {as : List Value} {S : St} {h : Hl} {sz : Nat} : FrameBlind (PcT Z as S h sz) := fun a U g mk q => by
  obtain ⟨q0, q1, ⟨qP, qK, qN, qD⟩, qS, q2, q3⟩ := q
  exact ⟨q0, q1, ⟨qP, va_K.moved (u := U) (U := U.calling g mk a) (Vm.Alike.refl U.vm) qK, hNW.same (s := U) (U := U.calling g mk a) rfl qN, qD⟩, hStr.same (s := U) (U := U.calling g mk a) rfl qS, vx_Zq.moved (u := U) (U := U.calling g mk a) (Vm.Alike.refl U.vm) q2, vx_Zq.moved (u := U) (U := U.calling g mk a) (Vm.Alike.refl U.vm) q3⟩
/-- what stands behind a throw: the world as it was -/
abbrev XE (Z : wZ) (S : St) (h : Hl) (E : String) (A : Nat → Prop) : String → State → State → Prop := vx_X (fun _ : Unit => True) (fun E' _ t => E' = E ∧ va_P (zG Z) vwCl (ws Z S h) t.heap) A
/-- y throws E and leaves the world -/
def Ct (l : Launch) (y : MethodName) (cc : ByteArray) (ml : Nat) (ret : FieldType) (fr lo : Nat) (Z : wZ) (as : List Value) (S : St) (h : Hl) (E : String) : Prop :=
  ∀ sz : Nat, vx_Met l y (.code y cc ml (some ret) :: wsL_law) { frames := fr, cells := 1, slots := 6, locals := lo } (PcT Z as S h sz) (va_Qi (fun (_ : Int32) (_ : Unit) => False) (fun _ _ => False) (va_A (ws Z S h) sz)) (XE Z S h E (va_A (ws Z S h) sz)) 1 6 (va_A (ws Z S h) sz)
theorem Ct.of {l : Launch} {y : MethodName} {cc : ByteArray} {ml fr lo : Nat} {Z : wZ} {as : List Value} {S : St} {h : Hl} {ret : FieldType} {E : String} {ik ic : Nat} (hfl : l.stackTraces = false) (hE : (E, ik, ic) ∈ exL) (hcls : y.cls = RX5) (hfr : 5 < fr) (hlo : 82 ≤ lo) (hy : plainName y.cls = true) (hlen : (lg_sl as).length ≤ ml)
    (body : ∀ (p : Program) (e : Env) (s : State) (m : MethodId) (args : Array Value) (below : List Frame) (meth : Method) (c : Code) (A0 : Nat → Prop) (Q : State → Prop), JX p s m args meth c cc ml RX5 Z A0 →
      (∀ (Ls : List (Nat × Value)) (pc is : Nat) (text : String), (is, text) ∈ strL → decode cc pc = .ok (.new ik, 3) → decode cc (pc + 3) = .ok (.dup, 1) → decode cc (pc + 4) = .ok (.ldc is, 2) → decode cc (pc + 6) = .ok (.invokespecial ic, 3) → decode cc (pc + 9) = .ok (.athrow, 1) → J p l e { frames := fr, cells := 1, slots := 6, locals := lo } s m args below meth c ml Z A0 0 0 Q S h Ls pc []) →
      J p l e { frames := fr, cells := 1, slots := 6, locals := lo } s m args below meth c ml Z A0 0 0 Q S h (lv_args 0 as) 0 []) : Ct l y cc ml ret fr lo Z as S h E := by
  intro sz
  refine vx_ofW (cc := cc) (maxL := ml) (ret := some ret) hy rfl ?_
  intro p e s m args below meth c s₁ B hml htab hv
  obtain ⟨rfl, hsz, ⟨hP, hK, hN, hD0⟩, hSt, hZ1, hZ2⟩ := hv
  subst hsz
  have hts := atoms_spec (ws := .code y cc ml (some ret) :: wsL_law) B.pre
  have hown : s.vm.findClass RX5 = some m.cls := by rw [← hcls]; exact findClass_of_methodNamed B.named
  have hlocks := B.notSynchronized
  have hD := hD0.self (sz := s.heap.size)
  have hl := lv_entry as (n := ml) hlen
  have hin : ∀ w ∈ wsL_law, w.before as.toArray s = true := fun w hw => hts w (List.mem_cons_of_mem _ hw)
  obtain ⟨⟨x1, x2, x3, x4⟩, x5, x6⟩ := ex_words _ hE
  rw [lg_entry_eq]
  refine body p e s m as.toArray below meth c (va_A (ws Z S h) s.heap.size) _ ⟨B.exec, B.bytes, hml, hown, hin, hN, hK, fun S3 h3 => ws_D hD, fun q hq => Or.inr hq⟩ (fun Ls pc is text htx d0 d3 d4 d6 d9 => ?_) s.heap [] _ hP va_S.rf hl
  intro H locs ls hP2 hS2 hl2
  obtain ⟨sa, hsa⟩ := hSt.2.1 _ htx
  refine vx_throwS (own := RX5) (cls := E) (text := text) (names := eUp) (ik := ik) (is := is) (ic := ic) (sa := sa) (A := va_A (ws Z S h) s.heap.size) B.exec B.bytes hfl hown x4 eUp_fit (hin _ x1) (hin _ x2) hsa (vx_hat (fun w hw => hin w (x3 w hw)) x5 (fun w hw => ?_)) (fun w hw => ?_) hZ1 hZ2 hS2 (hl2.1.trans hml.symm) d0 d3 d4 d6 d9 (fun x hx => (htab x hx).elim) hfr (by show 0 + (13 * (2 + 1) + 43) ≤ lo; omega) (Nat.le_refl 1) (Nat.le_refl 6) hlocks (fun t hA hz hk => ?_) hS2.2.2 (Nat.le_refl 1) (Nat.le_refl 6)
  · rcases cd_of (List.all_eq_true.mp exB_cd w hw) with ⟨a, b, rfl⟩ | ⟨x, rfl⟩
    · exact va_Nw.use rfl (hSt.1 _ hw)
    · exact va_Nw.use rfl (hSt.1 _ hw)
  · rcases List.mem_cons.mp hw with rfl | hw
    · unfold vx_ot; rw [List.all_eq_true.mp law_good _ x1, Bool.or_true]
    · rcases List.mem_cons.mp hw with rfl | hw
      · unfold vx_ot; rw [List.all_eq_true.mp law_good _ x2, Bool.or_true]
      · exact List.all_eq_true.mp x6 w hw
  · refine ⟨(), trivial, ⟨rfl, hP2.kept (fun k q hq => hk q.1 (vx_lt hP2 hq))⟩, ?_⟩
    exact ⟨Nat.le_trans hS2.1 hz, fun q hq hA0 => by rw [hk q (Nat.lt_of_lt_of_le hq hS2.1)]; exact hS2.2.1 q hq hA0⟩

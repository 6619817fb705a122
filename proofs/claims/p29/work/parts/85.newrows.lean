/-! CELLS COME: the cells from B on lie one behind the other: those of F, then (from o on) those of Es -/
def wl (B : Nat) (Es : List va_E) : va_W := Es.mapIdx (fun i e => (B + i, e))
theorem wl_at (B : Nat) (Es : List va_E) (k : Nat) : (wl B Es)[k]? = (Es[k]?).map (fun e => (B + k, e)) := by unfold wl; rw [List.getElem?_mapIdx]
theorem wl_len (B : Nat) (Es : List va_E) : (wl B Es).length = Es.length := by unfold wl; rw [List.length_mapIdx]
theorem wl_snoc (B : Nat) (Es : List va_E) (e : va_E) : wl B Es ++ [(B + Es.length, e)] = wl B (Es ++ [e]) := by unfold wl; rw [List.mapIdx_concat]
theorem wl_set (B : Nat) (Es : List va_E) (k : Nat) (e : va_E) : (wl B Es).set k (B + k, e) = wl B (Es.set k e) := by
  apply List.ext_getElem?
  intro j
  rw [wl_at, List.getElem?_set, List.getElem?_set, wl_len, wl_at]
  by_cases hj : k = j
  · subst hj
    rw [if_pos rfl, if_pos rfl]
    by_cases hl : k < Es.length
    · rw [if_pos hl, if_pos hl]; rfl
    · rw [if_neg hl, if_neg hl]; rfl
  · rw [if_neg hj, if_neg hj]
theorem wl_ix {B : Nat} {Es : List va_E} {k : Nat} {q : Nat × va_E} (h : (wl B Es)[k]? = some q) : q.1 = B + k ∧ Es[k]? = some q.2 := by
  rw [wl_at] at h
  cases he : Es[k]? with
  | none => rw [he] at h; cases h
  | some e => rw [he] at h; cases h; exact ⟨rfl, rfl⟩
theorem wl_D (B : Nat) (Es : List va_E) : va_D (fun q => B ≤ q) (wl B Es) := by
  refine ⟨fun i j p q hp hq e => ?_, fun k q hq => ?_⟩
  · have h1 := (wl_ix hp).1
    have h2 := (wl_ix hq).1
    omega
  · have h1 := (wl_ix hq).1
    show B ≤ q.1
    omega
theorem wl_app {D : va_G} {cl : List vw_C} {B : Nat} {F Es : List va_E} {H : Heap} : va_P D cl (wl B (F ++ Es)) H ↔ va_P D cl (wl B F) H ∧ va_P D cl (wl (B + F.length) Es) H := by
  constructor
  · intro h
    refine ⟨fun k q hq => ?_, fun k q hq => ?_⟩
    · obtain ⟨h1, h2⟩ := wl_ix hq
      obtain ⟨a, e⟩ := q
      dsimp only at h1 h2
      subst h1
      exact h k (B + k, e) (by rw [wl_at, List.getElem?_append_left (List.getElem?_eq_some_iff.mp h2).1, h2]; rfl)
    · obtain ⟨h1, h2⟩ := wl_ix hq
      obtain ⟨a, e⟩ := q
      dsimp only at h1 h2
      subst h1
      exact h (F.length + k) (B + F.length + k, e) (by rw [wl_at, List.getElem?_append_right (Nat.le_add_right _ _), Nat.add_sub_cancel_left, h2, Nat.add_assoc]; rfl)
  · rintro ⟨h1, h2⟩ k q hq
    obtain ⟨e1, e2⟩ := wl_ix hq
    obtain ⟨a, e⟩ := q
    dsimp only at e1 e2
    subst e1
    by_cases hk : k < F.length
    · rw [List.getElem?_append_left hk] at e2
      exact h1 k (B + k, e) (by rw [wl_at, e2]; rfl)
    · rw [List.getElem?_append_right (by omega)] at e2
      exact h2 (k - F.length) (B + k, e) (by rw [wl_at, e2, show B + F.length + (k - F.length) = B + k by omega]; rfl)
def WL (Z : wZ) (B : Nat) (Es : List va_E) (H : Heap) : Prop := H.size = B + Es.length ∧ va_P (zG Z) vwCl (wl B Es) H
theorem vS_in {A : Nat → Prop} {H0 H : Heap} {locs : List Loc} (h : va_S A H0 H locs) : va_S A H H locs := ⟨Nat.le_refl _, fun _ _ _ => rfl, h.2.2⟩
theorem vS_tr {A : Nat → Prop} {H0 H H1 : Heap} {locs locs1 : List Loc} (h : va_S A H0 H locs) (h1 : va_S A H H1 locs1) : va_S A H0 H1 locs1 :=
  ⟨Nat.le_trans h.1 h1.1, fun q hq ha => (h1.2.1 q (Nat.lt_of_lt_of_le hq h.1) ha).trans (h.2.1 q hq ha), h1.2.2⟩
/-- a new cell lies behind all others -/
theorem fresh {Z : wZ} {B q sz cells : Nat} {e : va_E} {Es : List va_E} {H H1 : Heap} (hW : WL Z B Es H) (hcz : sz + cells = H.size) (hP1 : va_P (zG Z) vwCl (wl B Es ++ [(q, e)]) H1) (hD1 : va_D (fun q => B ≤ q) (wl B Es ++ [(q, e)])) (h1 : H.size ≤ H1.size) (hz : H1.size ≤ sz + (cells + 1)) : q = B + Es.length ∧ WL Z B (Es ++ [e]) H1 ∧ sz + (cells + 1) = H1.size := by
  have hq : (wl B Es ++ [(q, e)])[Es.length]? = some (q, e) := by rw [List.getElem?_append_right (by rw [wl_len]; exact Nat.le_refl _), wl_len, Nat.sub_self]; rfl
  have hlt : q < H1.size := (hP1 _ _ hq).lt
  have hB : B ≤ q := hD1.2 _ _ hq
  have hge : H.size ≤ q := by
    by_cases hc : q < B + Es.length
    · have hk : q - B < Es.length := by omega
      have h2 : (wl B Es ++ [(q, e)])[q - B]? = some (q, Es[q - B]) := by
        rw [List.getElem?_append_left (by rw [wl_len]; exact hk), wl_at, List.getElem?_eq_getElem hk, show B + (q - B) = q by omega]; rfl
      have := hD1.1 _ _ _ _ h2 hq rfl
      omega
    · have := hW.1; omega
  have e1 : q = B + Es.length := by have := hW.1; omega
  subst e1
  rw [wl_snoc] at hP1
  exact ⟨rfl, ⟨by rw [List.length_append]; show H1.size = B + (Es.length + 1); have := hW.1; omega, hP1⟩, by omega⟩
def hAO (s : State) : Prop := va_AO "SpeculativeCaches$Core" s ∧ va_AO "SpeculativeCaches$Machine" s
def NJ (p : Program) (l : Launch) (e : Env) (R : Room) (s : State) (m : MethodId) (args : Array Value) (below : List Frame) (meth : Method) (c : Code) (n : Nat) (Z : wZ) (B : Nat) (cells slots : Nat) (Q : State → Prop) (F Es : List va_E) (Ls : List (Nat × Value)) (pc : Nat) (st : List Value) : Prop :=
  ∀ (H : Heap) (locs : List Loc) (ls : Array Slot), WL Z B (F ++ Es) H → s.heap.size + cells = H.size → va_S (fun q => B ≤ q) s.heap H locs → lv_has ls n Ls → W p l e R s m args below meth c H locs cells slots Q (F0 m pc ls st)
def NX (p : Program) (s : State) (m : MethodId) (args : Array Value) (meth : Method) (c : Code) (cc : ByteArray) (n : Nat) (own : String) (Z : wZ) (B : Nat) (F : List va_E) (o : Nat) : Prop :=
  p.tables.exec = Jvm.exec ∧ c.code = cc ∧ c.maxLocals = n ∧ s.vm.findClass own = some m.cls ∧ (∀ w ∈ wsL_law, w.before args s = true) ∧ hNW s ∧ va_K (zG Z) vwCl (zT Z) s ∧ hAO s ∧ o = B + F.length
section JN
variable {p : Program} {l : Launch} {e : Env} {R : Room} {s : State} {m : MethodId} {args : Array Value} {below : List Frame} {meth : Method} {c : Code} {n : Nat} {Z : wZ} {B o : Nat} {F Es : List va_E} {cells slots : Nat} {Q : State → Prop} {cc : ByteArray} {own : String} {Ls Ls2 : List (Nat × Value)} {pc pc2 : Nat} {st : List Value}
theorem n_iconst (X : NX p s m args meth c cc n own Z B F o) {i : Int} {v : Int32} (hdg : decode cc pc = .ok (.iconst i, 1)) (hp : pc + 1 = pc2) (hv : Int32.ofInt i = v) (k : NJ p l e R s m args below meth c n Z B cells slots Q F Es Ls pc2 (.int v :: st)) : NJ p l e R s m args below meth c n Z B cells slots Q F Es Ls pc st := by
  subst hp; exact fun H locs ls hP hcz hS hl => lv_iconst X.1 X.2.1 hdg hv (k H locs ls hP hcz hS hl)
theorem n_bipush (X : NX p s m args meth c cc n own Z B F o) {i : Int} {v : Int32} (hdg : decode cc pc = .ok (.bipush i, 2)) (hp : pc + 2 = pc2) (hv : (Int8.ofInt i).toInt32 = v) (k : NJ p l e R s m args below meth c n Z B cells slots Q F Es Ls pc2 (.int v :: st)) : NJ p l e R s m args below meth c n Z B cells slots Q F Es Ls pc st := by
  subst hp; exact fun H locs ls hP hcz hS hl => lv_bipush X.1 X.2.1 hdg hv (k H locs ls hP hcz hS hl)
theorem n_sipush (X : NX p s m args meth c cc n own Z B F o) {i : Int} {v : Int32} (hdg : decode cc pc = .ok (.sipush i, 3)) (hp : pc + 3 = pc2) (hv : (Int16.ofInt i).toInt32 = v) (k : NJ p l e R s m args below meth c n Z B cells slots Q F Es Ls pc2 (.int v :: st)) : NJ p l e R s m args below meth c n Z B cells slots Q F Es Ls pc st := by
  subst hp; exact fun H locs ls hP hcz hS hl => lv_sipush X.1 X.2.1 hdg hv (k H locs ls hP hcz hS hl)
theorem n_aload_n (X : NX p s m args meth c cc n own Z B F o) {k0 : Fin 4} {i q : Nat} {x : Nat} (hdg : decode cc pc = .ok (.aload_n k0, 1)) (hp : pc + 1 = pc2) (hi : (k0 : Nat) = i) (hk : Ls[q]? = some (i, .ref x)) (k : NJ p l e R s m args below meth c n Z B cells slots Q F Es Ls pc2 (.ref x :: st)) : NJ p l e R s m args below meth c n Z B cells slots Q F Es Ls pc st := by
  subst hp; exact fun H locs ls hP hcz hS hl => lv_aload_n X.1 X.2.1 hdg hi (lv_at hl q hk) (k H locs ls hP hcz hS hl)
theorem n_iload_n (X : NX p s m args meth c cc n own Z B F o) {k0 : Fin 4} {i q : Nat} {x : Int32} (hdg : decode cc pc = .ok (.iload_n k0, 1)) (hp : pc + 1 = pc2) (hi : (k0 : Nat) = i) (hk : Ls[q]? = some (i, .int x)) (k : NJ p l e R s m args below meth c n Z B cells slots Q F Es Ls pc2 (.int x :: st)) : NJ p l e R s m args below meth c n Z B cells slots Q F Es Ls pc st := by
  subst hp; exact fun H locs ls hP hcz hS hl => lv_iload_n X.1 X.2.1 hdg hi (lv_at hl q hk) (k H locs ls hP hcz hS hl)
theorem n_istore_n (X : NX p s m args meth c cc n own Z B F o) {k0 : Fin 4} {i : Nat} {x : Int32} (hdg : decode cc pc = .ok (.istore_n k0, 1)) (hp : pc + 1 = pc2) (hi : (k0 : Nat) = i) (hn : i < n) (hl2 : (i, Value.int x) :: Ls.filter (fun q => !(q.1 == i) && !(q.1 + 1 == i && q.2.category == 2)) = Ls2) (k : NJ p l e R s m args below meth c n Z B cells slots Q F Es Ls2 pc2 st) : NJ p l e R s m args below meth c n Z B cells slots Q F Es Ls pc (.int x :: st) := by
  subst hp; exact fun H locs ls hP hcz hS hl => lv_istore_n X.1 X.2.1 hdg hi hl hn hl2 (fun ls2 h2 => k H locs ls2 hP hcz hS h2)
theorem n_astore_n (X : NX p s m args meth c cc n own Z B F o) {k0 : Fin 4} {i : Nat} {x : Nat} (hdg : decode cc pc = .ok (.astore_n k0, 1)) (hp : pc + 1 = pc2) (hi : (k0 : Nat) = i) (hn : i < n) (hl2 : (i, Value.ref x) :: Ls.filter (fun q => !(q.1 == i) && !(q.1 + 1 == i && q.2.category == 2)) = Ls2) (k : NJ p l e R s m args below meth c n Z B cells slots Q F Es Ls2 pc2 st) : NJ p l e R s m args below meth c n Z B cells slots Q F Es Ls pc (.ref x :: st) := by
  subst hp; exact fun H locs ls hP hcz hS hl => lv_astore_n X.1 X.2.1 hdg hi hl hn hl2 (fun ls2 h2 => k H locs ls2 hP hcz hS h2)
theorem n_istore (X : NX p s m args meth c cc n own Z B F o) {i : Nat} {x : Int32} (hdg : decode cc pc = .ok (.istore i, 2)) (hp : pc + 2 = pc2) (hn : i < n) (hl2 : (i, Value.int x) :: Ls.filter (fun q => !(q.1 == i) && !(q.1 + 1 == i && q.2.category == 2)) = Ls2) (k : NJ p l e R s m args below meth c n Z B cells slots Q F Es Ls2 pc2 st) : NJ p l e R s m args below meth c n Z B cells slots Q F Es Ls pc (.int x :: st) := by
  subst hp; exact fun H locs ls hP hcz hS hl => lv_istore X.1 X.2.1 hdg hl hn hl2 (fun ls2 h2 => k H locs ls2 hP hcz hS h2)
theorem n_dup (X : NX p s m args meth c cc n own Z B F o) {va : Value} (hdg : decode cc pc = .ok (.dup, 1)) (hp : pc + 1 = pc2) (hva : va.category = 1) (k : NJ p l e R s m args below meth c n Z B cells slots Q F Es Ls pc2 (va :: va :: st)) : NJ p l e R s m args below meth c n Z B cells slots Q F Es Ls pc (va :: st) := by
  subst hp; exact fun H locs ls hP hcz hS hl => lv_dup X.1 X.2.1 hdg hva (k H locs ls hP hcz hS hl)
theorem n_iinc (X : NX p s m args meth c cc n own Z B F o) {i q : Nat} {d : Int} {x v : Int32} (hdg : decode cc pc = .ok (.iinc i d, 3)) (hp : pc + 3 = pc2) (hk : Ls[q]? = some (i, .int x)) (hv : x + Int32.ofInt d = v) (hn : i < n) (hl2 : (i, Value.int v) :: Ls.filter (fun q => !(q.1 == i) && !(q.1 + 1 == i && q.2.category == 2)) = Ls2) (k : NJ p l e R s m args below meth c n Z B cells slots Q F Es Ls2 pc2 st) : NJ p l e R s m args below meth c n Z B cells slots Q F Es Ls pc st := by
  subst hp; exact fun H locs ls hP hcz hS hl => lv_iinc X.1 X.2.1 hdg hl hk hv hn hl2 (fun ls2 h2 => k H locs ls2 hP hcz hS h2)
theorem n_goto (X : NX p s m args meth c cc n own Z B F o) {off : Int} {tgt : Nat} (hdg : decode cc pc = .ok (.goto off, 3)) (ht : (pc : Int) + off = (tgt : Int)) (k : NJ p l e R s m args below meth c n Z B cells slots Q F Es Ls tgt st) : NJ p l e R s m args below meth c n Z B cells slots Q F Es Ls pc st := fun H locs ls hP hcz hS hl => lv_goto X.1 X.2.1 hdg ht (k H locs ls hP hcz hS hl)
theorem n_imul (X : NX p s m args meth c cc n own Z B F o) {x y : Int32} (hdg : decode cc pc = .ok (.imul, 1)) (hp : pc + 1 = pc2)  (k : NJ p l e R s m args below meth c n Z B cells slots Q F Es Ls pc2 (.int (x * y) :: st)) : NJ p l e R s m args below meth c n Z B cells slots Q F Es Ls pc (.int y :: .int x :: st) := by
  subst hp; exact fun H locs ls hP hcz hS hl => lv_imul X.1 X.2.1 hdg (k H locs ls hP hcz hS hl)
theorem n_if_ge_t (X : NX p s m args meth c cc n own Z B F o) {x : Int32} {off : Int} {tgt : Nat} (hdg : decode cc pc = .ok (.ifCond .ge off, 3)) (ht : (pc : Int) + off = (tgt : Int)) (hc : 0 ≤ x) (kt : NJ p l e R s m args below meth c n Z B cells slots Q F Es Ls tgt st) : NJ p l e R s m args below meth c n Z B cells slots Q F Es Ls pc (.int x :: st) :=
  fun H locs ls hP hcz hS hl => lv_if_ge X.1 X.2.1 hdg ht (fun q => kt H locs ls hP hcz hS hl) (fun q => absurd q (by simpa using hc))
theorem n_icmp_ge_t (X : NX p s m args meth c cc n own Z B F o) {x y : Int32} {off : Int} {tgt : Nat} (hdg : decode cc pc = .ok (.if_icmp .ge off, 3)) (ht : (pc : Int) + off = (tgt : Int)) (hc : y ≤ x) (kt : NJ p l e R s m args below meth c n Z B cells slots Q F Es Ls tgt st) : NJ p l e R s m args below meth c n Z B cells slots Q F Es Ls pc (.int y :: .int x :: st) :=
  fun H locs ls hP hcz hS hl => lv_icmp_ge X.1 X.2.1 hdg ht (fun q => kt H locs ls hP hcz hS hl) (fun q => absurd q (by simpa using hc))
theorem n_icmp_ge_f (X : NX p s m args meth c cc n own Z B F o) {x y : Int32} {off : Int} {tgt : Nat} (hdg : decode cc pc = .ok (.if_icmp .ge off, 3)) (hp : pc + 3 = pc2) (ht : (pc : Int) + off = (tgt : Int)) (hc : ¬ y ≤ x) (kf : NJ p l e R s m args below meth c n Z B cells slots Q F Es Ls pc2 st) : NJ p l e R s m args below meth c n Z B cells slots Q F Es Ls pc (.int y :: .int x :: st) := by
  subst hp; exact fun H locs ls hP hcz hS hl => lv_icmp_ge X.1 X.2.1 hdg ht (fun q => absurd q (by simpa using hc)) (fun q => kf H locs ls hP hcz hS hl)
theorem n_sub (ks : List Nat) (hl2 : lv_pick Ls ks = Ls2) (k : NJ p l e R s m args below meth c n Z B cells slots Q F Es Ls2 pc st) : NJ p l e R s m args below meth c n Z B cells slots Q F Es Ls pc st := fun H locs ls hP hcz hS hl => k H locs ls hP hcz hS (lv_sub hl ks hl2)
theorem n_topeq {x y : Int32} (exy : x = y) (k : NJ p l e R s m args below meth c n Z B cells slots Q F Es Ls pc (.int y :: st)) : NJ p l e R s m args below meth c n Z B cells slots Q F Es Ls pc (.int x :: st) := exy ▸ k
theorem W.szd {H : Heap} {locs : List Loc} {g : JFrame} (k : H.size ≤ s.heap.size + cells → W p l e R s m args below meth c H locs cells slots Q g) : W p l e R s m args below meth c H locs cells slots Q g := fun T hT X => k (by rw [← hT]; exact X.heapSize) T hT X
theorem n_new (X : NX p s m args meth c cc n own Z B F o) {C : String} {T : u_T} {N ci index k : Nat} {fs : List Value} (hin : ∀ w ∈ u_ws C T N, w ∈ wsL_law) (ty : Nat → FieldType) (hty : ∀ k, k < N → parseFieldDescriptor (T k).2.2.1 = some (ty k)) (w1 : Cond.classLink own index C ∈ wsL_law) (w2 : Cond.instantiable C N ∈ wsL_law) (w3 : Cond.initialized C ∈ wsL_law) (hc : vwCl[ci]? = some (C, T, N)) (hfs : ∀ j, j < N → defaultValue (ty j) = vp_V fs j) (hcells : cells + 1 ≤ R.cells) (hslots : slots + N ≤ R.slots) (hdg : decode cc pc = .ok (.new index, 3)) (hp : pc + 3 = pc2) (hl : Es.length = k) (kk : NJ p l e R s m args below meth c n Z B (cells + 1) (slots + N) Q F (Es ++ [.inr (ci, fs)]) Ls pc2 (.ref (o + k) :: st)) : NJ p l e R s m args below meth c n Z B cells slots Q F Es Ls pc st := by
  subst hp
  intro H locs ls hW hcz hS hl2
  refine va_new (A := fun q => B ≤ q) (H0 := H) X.1 X.2.1 X.2.2.2.2.1 hin ty hty X.2.2.2.1 (X.2.2.2.2.1 _ w1) (X.2.2.2.2.1 _ w2) (X.2.2.2.2.1 _ w3) X.2.2.2.2.2.2.1 hW.2 (wl_D B _) (vS_in hS) (fun q hq => by have := hW.1; omega) hc hfs hcells hslots hdg (fun q H1 hP1 hD1 hS1 => W.szd (fun hz => ?_))
  obtain ⟨e1, e2, e3⟩ := fresh hW hcz hP1 hD1 hS1.1 hz
  rw [List.append_assoc] at e2
  have e4 : q = o + k := by have ho := X.2.2.2.2.2.2.2.2; rw [e1, List.length_append, hl, ho, Nat.add_assoc]
  rw [e4]
  exact kk H1 locs ls e2 e3 (vS_tr hS hS1) hl2
theorem n_newI (X : NX p s m args meth c cc n own Z B F o) {N k : Nat} (hN : N ≤ 134217728) (w1 : Cond.arrayClass .int ∈ wsL_law) (hcells : cells + 1 ≤ R.cells) (hslots : slots + N ≤ R.slots) (hdg : decode cc pc = .ok (.newarray .int, 2)) (hp : pc + 2 = pc2) (hl : Es.length = k) (kk : NJ p l e R s m args below meth c n Z B (cells + 1) (slots + N) Q F (Es ++ [eI Z N (fun _ => 0)]) Ls pc2 (.ref (o + k) :: st)) : NJ p l e R s m args below meth c n Z B cells slots Q F Es Ls pc (.int (nI N) :: st) := by
  subst hp
  intro H locs ls hW hcz hS hl2
  refine va_newa (A := fun q => B ≤ q) (H0 := H) (atype := .int) (ty := .int) (a0 := (N, .inl (fun _ => 0))) X.1 X.2.1 (X.2.2.2.2.1 _ w1) rfl X.2.2.2.2.2.2.1 hW.2 (wl_D B _) (vS_in hS) (fun q hq => by have := hW.1; omega) (fun cA => rfl) (nI_pos (by omega)) (nI_clamp (by omega)) (by show N * 4 ≤ _; omega) hcells hslots hdg (fun q cA H1 hK1 hP1 hD1 hS1 => W.szd (fun hz => ?_))
  have hcA : cA = zI Z := by
    have h1 := (hK1.2 3 (cA, .int) rfl).2
    have h2 := (X.2.2.2.2.2.2.1.2 0 (zI Z, .int) rfl).2
    exact Option.some.inj (h1.symm.trans h2)
  subst hcA
  obtain ⟨e1, e2, e3⟩ := fresh hW hcz hP1 hD1 hS1.1 hz
  rw [List.append_assoc] at e2
  have e4 : q = o + k := by have ho := X.2.2.2.2.2.2.2.2; rw [e1, List.length_append, hl, ho, Nat.add_assoc]
  rw [e4]
  exact kk H1 locs ls e2 e3 (vS_tr hS hS1) hl2
theorem n_newq (X : NX p s m args meth c cc n own Z B F o) {C : String} {cq : ClassId} {t0 index k : Nat} (hover : va_AO C s) (ht : (zT Z)[t0]? = some (cq, .object C)) (w1 : Cond.classLink own index C ∈ wsL_law) (hcells : cells + 1 ≤ R.cells) (hslots : slots + 4 ≤ R.slots) (hdg : decode cc pc = .ok (.anewarray index, 3)) (hp : pc + 3 = pc2) (hl : Es.length = k) (kk : NJ p l e R s m args below meth c n Z B (cells + 1) (slots + 4) Q F (Es ++ [.inl (cq, 4, .inr (.inr (.inr (.inr (fun _ => none)))))]) Ls pc2 (.ref (o + k) :: st)) : NJ p l e R s m args below meth c n Z B cells slots Q F Es Ls pc (.int 4 :: st) := by
  subst hp
  intro H locs ls hW hcz hS hl2
  refine va_newq (A := fun q => B ≤ q) (H0 := H) (N' := 4) X.1 X.2.1 X.2.2.2.1 (X.2.2.2.2.1 _ w1) hover X.2.2.2.2.2.2.1 hW.2 (wl_D B _) (vS_in hS) (fun q hq => by have := hW.1; omega) (by decide) (by decide) (by decide) hcells hslots hdg (fun q cA H1 hK1 hP1 hD1 hS1 => W.szd (fun hz => ?_))
  have hcA : cA = cq := by
    obtain ⟨_, _, -, -, -, h1⟩ := (hK1.2 3 (cA, .object C) rfl).2
    obtain ⟨_, _, -, -, -, h2⟩ := (X.2.2.2.2.2.2.1.2 t0 (cq, .object C) ht).2
    exact Option.some.inj (h1.symm.trans h2)
  subst hcA
  obtain ⟨e1, e2, e3⟩ := fresh hW hcz hP1 hD1 hS1.1 hz
  rw [List.append_assoc] at e2
  have e4 : q = o + k := by have ho := X.2.2.2.2.2.2.2.2; rw [e1, List.length_append, hl, ho, Nat.add_assoc]
  rw [e4]
  exact kk H1 locs ls e2 e3 (vS_tr hS hS1) hl2
/-- a cell of the object's is there -/
theorem n_ix (X : NX p s m args meth c cc n own Z B F o) {j : Nat} {x : va_E} (hj : Es[j]? = some x) : (wl B (F ++ Es))[F.length + j]? = some (o + j, x) := by
  have ho := X.2.2.2.2.2.2.2.2
  rw [wl_at, List.getElem?_append_right (Nat.le_add_right _ _), Nat.add_sub_cancel_left, hj, ho, Nat.add_assoc]; rfl
theorem n_wr (X : NX p s m args meth c cc n own Z B F o) {H H1 : Heap} {locs1 : List Loc} {A : Nat → Prop} {j : Nat} {x y : va_E} {Es2 : List va_E} (hj : Es[j]? = some x) (h2 : Es.set j y = Es2) (hW : WL Z B (F ++ Es) H) (hcz : s.heap.size + cells = H.size) (hP1 : va_P (zG Z) vwCl ((wl B (F ++ Es)).set (F.length + j) (o + j, y)) H1) (hS1 : va_S A H H1 locs1) (hz : H1.size ≤ s.heap.size + cells) : WL Z B (F ++ Es2) H1 ∧ s.heap.size + cells = H1.size := by
  have ho := X.2.2.2.2.2.2.2.2
  have hlt := (List.getElem?_eq_some_iff.mp hj).1
  have hle := hS1.1
  have e1 : (wl B (F ++ Es)).set (F.length + j) (o + j, y) = wl B (F ++ Es2) := by
    rw [ho, Nat.add_assoc, wl_set, List.set_append_right _ _ (Nat.le_add_right _ _), Nat.add_sub_cancel_left, h2]
  rw [e1] at hP1
  have e2 : (F ++ Es2).length = (F ++ Es).length := by rw [← h2, List.length_append, List.length_append, List.length_set]
  exact ⟨⟨by rw [e2]; have := hW.1; omega, hP1⟩, by omega⟩
theorem n_putF (X : NX p s m args meth c cc n own Z B F o) {C ref : String} {T : u_T} {N ci index j : Nat} {fs : List Value} {Es2 : List va_E} (hin : ∀ w ∈ u_ws C T N, w ∈ wsL_law) (ty0 : Nat → FieldType) (hty : ∀ k, k < N → parseFieldDescriptor (T k).2.2.1 = some (ty0 k)) (hnm : ∀ a, a < N → ∀ b, b < N → a ≠ b → (T a).2.1 ≠ (T b).2.1) (hj : Es[j]? = some (.inr (ci, fs))) (hc : vwCl[ci]? = some (C, T, N)) (k : Nat) (hk : k < N) (hlink : Cond.fieldLink own index ref (T k).2.1 (T k).2.2.1 ∈ wsL_law) (href : ref = (T k).1) (hfin : (T k).2.2.2 = true) (hin2 : meth.name = "<init>") (hdecl : (T k).1 = own) {ty : FieldType} {v : Value} (hd : parseFieldDescriptor (T k).2.2.1 = some ty) (hn : narrow ty v = v) (hfit : fits ty v = true) (hl : k < fs.length) (h2 : Es.set j (.inr (ci, fs.set k v)) = Es2) (hdg : decode cc pc = .ok (.putfield index, 3)) (hp : pc + 3 = pc2) (kk : NJ p l e R s m args below meth c n Z B cells slots Q F Es2 Ls pc2 st) : NJ p l e R s m args below meth c n Z B cells slots Q F Es Ls pc (v :: .ref (o + j) :: st) := by
  subst hp; subst href
  intro H locs ls hW hcz hS hl2
  refine va_putF (A := fun q => B ≤ q) (H0 := H) X.1 X.2.1 X.2.2.2.2.1 hin ty0 hty hnm X.2.2.2.1 X.2.2.2.2.2.2.1 hW.2 (wl_D B _) (vS_in hS) _ (n_ix X hj) hc k hk (X.2.2.2.2.1 _ hlink) (fun _ h9 => h9) hfin hin2 hdecl hd hn hfit hl hdg (fun H1 locs1 hP1 _ hS1 => W.szd (fun hz => ?_))
  obtain ⟨e2, e3⟩ := n_wr X hj h2 hW hcz hP1 hS1 hz
  exact kk H1 locs1 ls e2 e3 (vS_tr hS hS1) hl2
theorem n_put (X : NX p s m args meth c cc n own Z B F o) {C ref : String} {T : u_T} {N ci index j : Nat} {fs : List Value} {Es2 : List va_E} (hin : ∀ w ∈ u_ws C T N, w ∈ wsL_law) (ty0 : Nat → FieldType) (hty : ∀ k, k < N → parseFieldDescriptor (T k).2.2.1 = some (ty0 k)) (hnm : ∀ a, a < N → ∀ b, b < N → a ≠ b → (T a).2.1 ≠ (T b).2.1) (hj : Es[j]? = some (.inr (ci, fs))) (hc : vwCl[ci]? = some (C, T, N)) (k : Nat) (hk : k < N) (hlink : Cond.fieldLink own index ref (T k).2.1 (T k).2.2.1 ∈ wsL_law) (href : ref = (T k).1) (hfin : (T k).2.2.2 = false) {ty : FieldType} {v : Value} (hd : parseFieldDescriptor (T k).2.2.1 = some ty) (hn : narrow ty v = v) (hfit : fits ty v = true) (hl : k < fs.length) (h2 : Es.set j (.inr (ci, fs.set k v)) = Es2) (hdg : decode cc pc = .ok (.putfield index, 3)) (hp : pc + 3 = pc2) (kk : NJ p l e R s m args below meth c n Z B cells slots Q F Es2 Ls pc2 st) : NJ p l e R s m args below meth c n Z B cells slots Q F Es Ls pc (v :: .ref (o + j) :: st) := by
  subst hp; subst href
  intro H locs ls hW hcz hS hl2
  refine va_put (A := fun q => B ≤ q) (H0 := H) X.1 X.2.1 X.2.2.2.2.1 hin ty0 hty hnm X.2.2.2.1 X.2.2.2.2.2.2.1 hW.2 (wl_D B _) (vS_in hS) _ (n_ix X hj) hc k hk (X.2.2.2.2.1 _ hlink) (fun _ h9 => h9) hfin hd hn hfit hl hdg (fun H1 locs1 hP1 _ hS1 => W.szd (fun hz => ?_))
  obtain ⟨e2, e3⟩ := n_wr X hj h2 hW hcz hP1 hS1 hz
  exact kk H1 locs1 ls e2 e3 (vS_tr hS hS1) hl2
theorem n_get (X : NX p s m args meth c cc n own Z B F o) {C ref : String} {T : u_T} {N ci index j : Nat} {fs : List Value} (hin : ∀ w ∈ u_ws C T N, w ∈ wsL_law) (hj : Es[j]? = some (.inr (ci, fs))) (hc : vwCl[ci]? = some (C, T, N)) (k : Nat) (hk : k < N) (hlink : Cond.fieldLink own index ref (T k).2.1 (T k).2.2.1 ∈ wsL_law) (href : ref = (T k).1) {v : Value} (hv : fs[k]? = some v) (hdg : decode cc pc = .ok (.getfield index, 3)) (hp : pc + 3 = pc2) (kk : NJ p l e R s m args below meth c n Z B cells slots Q F Es Ls pc2 (v :: st)) : NJ p l e R s m args below meth c n Z B cells slots Q F Es Ls pc (.ref (o + j) :: st) := by
  subst hp; subst href
  intro H locs ls hW hcz hS hl2
  exact va_get X.1 X.2.1 X.2.2.2.2.1 hin X.2.2.2.1 X.2.2.2.2.2.2.1 hW.2 _ (n_ix X hj) hc k hk (X.2.2.2.2.1 _ hlink) (fun _ h9 => h9) hv hdg (kk H locs ls hW hcz hS hl2)
theorem n_aast (X : NX p s m args meth c cc n own Z B F o) {r : vw_C} {cq : ClassId} {t0 ci j jv i : Nat} {vs : List Value} {f : Nat → Option Nat} {Es2 : List va_E} (hj : Es[j]? = some (.inl (cq, 4, .inr (.inr (.inr (.inr f)))))) (ht : (zT Z)[t0]? = some (cq, .object r.1)) (hv : Es[jv]? = some (.inr (ci, vs))) (hc : vwCl[ci]? = some r) (hi : i < 4) (h2 : Es.set j (.inl (cq, 4, .inr (.inr (.inr (.inr (va_up f i (some (o + jv)))))))) = Es2) (hdg : decode cc pc = .ok (.aastore, 1)) (hp : pc + 1 = pc2) (kk : NJ p l e R s m args below meth c n Z B cells slots Q F Es2 Ls pc2 st) : NJ p l e R s m args below meth c n Z B cells slots Q F Es Ls pc (.ref (o + jv) :: .int (nI i) :: .ref (o + j) :: st) := by
  subst hp
  intro H locs ls hW hcz hS hl2
  refine va_astq (A := fun q => B ≤ q) (H0 := H) X.1 X.2.1 X.2.2.2.2.2.2.1 hW.2 (wl_D B _) (vS_in hS) _ t0 _ ci (n_ix X hj) ht (n_ix X hv) hc (vp_in_nI hi (by decide)) hdg (fun H1 locs1 hP1 _ hS1 => W.szd (fun hz => ?_))
  rw [nI_clamp (by omega)] at hP1
  obtain ⟨e2, e3⟩ := n_wr X hj h2 hW hcz hP1 hS1 hz
  exact kk H1 locs1 ls e2 e3 (vS_tr hS hS1) hl2
theorem n_iast (X : NX p s m args meth c cc n own Z B F o) {j i N : Nat} {v : Int32} {f : Nat → Int32} {Es2 : List va_E} (hj : Es[j]? = some (eI Z N f)) (hi : i < N) (hN : N < 2 ^ 31) (h2 : Es.set j (eI Z N (upd f i v)) = Es2) (hdg : decode cc pc = .ok (.iastore, 1)) (hp : pc + 1 = pc2) (kk : NJ p l e R s m args below meth c n Z B cells slots Q F Es2 Ls pc2 st) : NJ p l e R s m args below meth c n Z B cells slots Q F Es Ls pc (.int v :: .int (nI i) :: .ref (o + j) :: st) := by
  subst hp
  intro H locs ls hW hcz hS hl2
  refine va_iast (A := fun q => B ≤ q) (H0 := H) X.1 X.2.1 X.2.2.2.2.2.2.1 hW.2 (wl_D B _) (vS_in hS) _ 0 (n_ix X hj) rfl (vp_in_nI hi hN) hdg (fun H1 locs1 hP1 _ hS1 => W.szd (fun hz => ?_))
  rw [nI_clamp (by omega)] at hP1
  obtain ⟨e2, e3⟩ := n_wr X hj h2 hW hcz hP1 hS1 hz
  exact kk H1 locs1 ls e2 e3 (vS_tr hS hS1) hl2
theorem n_objInit (X : NX p s m args meth c cc n own Z B F o) {a idx : Nat} (w1 : Cond.methodLink own idx objectInit ∈ wsL_law) (w2 : Cond.instanceMethod objectInit ∈ wsL_law) (w3 : Cond.code objectInit ⟨#[0xb1]⟩ 1 none ∈ wsL_law) (hf : 1 ≤ R.frames) (hlo : 12 ≤ R.locals) (hdg : decode cc pc = .ok (.invokespecial idx, 3)) (hp : pc + 3 = pc2) (kk : NJ p l e R s m args below meth c n Z B cells slots Q F Es Ls pc2 []) : NJ p l e R s m args below meth c n Z B cells slots Q F Es Ls pc [.ref a] := by
  subst hp
  intro H locs ls hW hcz hS hl2
  refine W.objInit X.1 X.2.1 X.2.2.2.1 (X.2.2.2.2.1 _ w1) (X.2.2.2.2.1 _ w2) (X.2.2.2.2.1 _ w3) rfl (by rw [X.2.2.1]; exact hl2.1) rfl hdg hf hlo ?_
  exact kk H locs ls hW hcz hS hl2
end JN
def PcN (Z : wZ) (as : List Value) (B : Nat) (Es : List va_E) : Array Value → State → Prop := va_Pc as (fun U => WL Z B Es U.heap ∧ va_K (zG Z) vwCl (zT Z) U ∧ hNW U ∧ hAO U)
theorem hAO.moved {u U : State} (hvm : u.vm.Alike U.vm) (h : hAO u) : hAO U := ⟨va_AO.moved hvm h.1, va_AO.moved hvm h.2⟩
theorem PcN.blind {Z : wZ} {as : List Value} {B : Nat} {Es : List va_E} : FrameBlind (PcN Z as B Es) := fun a U g mk q => by
  obtain ⟨q0, q1, qK, qN, qA⟩ := q
  exact ⟨q0, q1, va_K.moved (u := U) (U := U.calling g mk a) (Vm.Alike.refl U.vm) qK, hNW.same (s := U) (U := U.calling g mk a) rfl qN, hAO.moved (u := U) (U := U.calling g mk a) (Vm.Alike.refl U.vm) qA⟩
/-- a constructor: from the bare object at o it makes kc more cells, behind it -/
def Cn (l : Launch) (y : MethodName) (cc : ByteArray) (ml : Nat) (fr lo kc ks : Nat) (Z : wZ) (as : List Value) (o : Nat) (x : va_E) (Es2 : List va_E) : Prop :=
  Met l y (.code y cc ml none :: wsL_law) { frames := fr, cells := kc, slots := ks, locals := lo } (PcN Z (.ref o :: as) o [x]) (va_Qv (fun _ : Unit => True) (fun _ t => WL Z o Es2 t.heap) (fun q => o ≤ q)) kc ks (fun q => o ≤ q)
theorem Cn.of {l : Launch} {y : MethodName} {cc : ByteArray} {ml fr lo kc ks o : Nat} {Z : wZ} {as : List Value} {x : va_E} {Es2 : List va_E} (hy : plainName y.cls = true) (hi : y.name = "<init>") (hlen : (lg_sl (.ref o :: as)).length ≤ ml)
    (body : ∀ (p : Program) (e : Env) (s : State) (m : MethodId) (args : Array Value) (below : List Frame) (meth : Method) (c : Code) (Q : State → Prop), NX p s m args meth c cc ml y.cls Z o [] o → meth.name = "<init>" →
      (∀ (Ls : List (Nat × Value)) (pc : Nat), decode cc pc = .ok (.return_, 1) → NJ p l e { frames := fr, cells := kc, slots := ks, locals := lo } s m args below meth c ml Z o kc ks Q [] Es2 Ls pc []) →
      NJ p l e { frames := fr, cells := kc, slots := ks, locals := lo } s m args below meth c ml Z o 0 0 Q [] [x] (lv_args 0 (.ref o :: as)) 0 []) : Cn l y cc ml fr lo kc ks Z as o x Es2 := by
  refine Met.ofW (cc := cc) (maxL := ml) (ret := none) hy rfl ?_
  intro p e s m args below meth c s₁ B hml hv
  obtain ⟨rfl, hW, hK, hN, hA⟩ := hv
  have hts := atoms_spec (ws := .code y cc ml none :: wsL_law) B.pre
  have hown : s.vm.findClass y.cls = some m.cls := findClass_of_methodNamed B.named
  have hlocks := B.notSynchronized
  have hin : meth.name = "<init>" := by rw [(name_of_methodNamed B.named B.method).1]; exact hi
  have hl := lv_entry (.ref o :: as) (n := ml) hlen
  rw [lg_entry_eq]
  refine body p e s m _ below meth c _ ⟨B.exec, B.bytes, hml, hown, fun w hw => hts w (List.mem_cons_of_mem _ hw), hN, hK, hA, rfl⟩ hin (fun Ls pc hdg => ?_) s.heap [] _ hW rfl va_S.rf hl
  intro H locs ls hW2 hcz hS2 hl2
  exact W.vret B.exec B.bytes B.returns (fun t ht hW => ⟨⟨(), rfl, trivial, (show WL Z o Es2 t.heap by rw [ht]; exact hW2)⟩, hS2.F ht⟩) hS2.2.2 hdg
section JNC
variable {p : Program} {l : Launch} {e : Env} {R : Room} {s : State} {m : MethodId} {args : Array Value} {below : List Frame} {meth : Method} {c : Code} {n : Nat} {Z : wZ} {B o : Nat} {F Es : List va_E} {cells slots : Nat} {Q : State → Prop} {cc : ByteArray} {own : String} {Ls Ls2 : List (Nat × Value)} {pc pc2 : Nat} {st rest : List Value}
theorem n_pre (X : NX p s m args meth c cc n own Z B F o) {H : Heap} {as : List Value} {x : va_E} {k : Nat} (hk : Es.length = k) (hW : WL Z B (F ++ (Es ++ [x])) H) : PreS s H (PcN Z (.ref (o + k) :: as) (o + k) [x]) (.ref (o + k) :: as) := by
  have ho := X.2.2.2.2.2.2.2.2
  refine ⟨PcN.blind, fun U hU hW1 => ⟨rfl, ?_, va_K.moved hW1.alike X.2.2.2.2.2.2.1, X.2.2.2.2.2.1.warm hW1, hAO.moved hW1.alike X.2.2.2.2.2.2.2.1⟩⟩
  rw [hU]
  refine ⟨?_, ?_⟩
  · rw [hW.1, ho, List.length_append, List.length_append, ← hk]
    show _ = B + F.length + Es.length + 1
    show B + (F.length + (Es.length + 1)) = _
    omega
  · have h2 := hW.2
    rw [← List.append_assoc] at h2
    have h3 := (wl_app.mp h2).2
    rw [List.length_append, ← Nat.add_assoc, ← ho, hk] at h3
    exact h3
theorem n_post (X : NX p s m args meth c cc n own Z B F o) {H H1 : Heap} {x : va_E} {Es2 : List va_E} {k kc : Nat} (hk : Es.length = k) (h2 : Es2.length = kc + 1) (hW : WL Z B (F ++ (Es ++ [x])) H) (hcz : s.heap.size + cells = H.size) (hk1 : ∀ q : Nat, q < H.size → ¬ (o + k ≤ q) → H1[q]? = H[q]?) (hW1 : WL Z (o + k) Es2 H1) : WL Z B (F ++ (Es ++ Es2)) H1 ∧ s.heap.size + (cells + kc) = H1.size := by
  have ho := X.2.2.2.2.2.2.2.2
  have e0 : (F ++ Es).length = F.length + k := by rw [List.length_append, hk]
  have eH : H.size = B + (F.length + (k + 1)) := by
    rw [hW.1, List.length_append, List.length_append, hk]; rfl
  have e1 : H1.size = o + k + (kc + 1) := by rw [hW1.1, h2]
  refine ⟨⟨?_, ?_⟩, by omega⟩
  · rw [e1, List.length_append, List.length_append, hk, h2]; omega
  · rw [← List.append_assoc]
    refine wl_app.mpr ⟨?_, ?_⟩
    · have h3 := hW.2
      rw [← List.append_assoc] at h3
      refine (wl_app.mp h3).1.kept (fun j q hq => ?_)
      obtain ⟨q1, q2⟩ := wl_ix hq
      have hlt := (List.getElem?_eq_some_iff.mp q2).1
      exact hk1 _ (by omega) (by omega)
    · rw [e0, ← Nat.add_assoc, ← ho]; exact hW1.2
theorem n_callN (X : NX p s m args meth c cc n own Z B F o) {y : MethodName} {bytes : ByteArray} {ml fr lo idx na k kc ks : Nat} {as : List Value} {host : String} {x : va_E} {Es2 : List va_E} (hC : Cn l y bytes ml fr lo kc ks Z as (o + k) x Es2) (hi : y.name = "<init>") (w1 : Cond.methodLinkNest own idx y host ∈ NWs) (w2 : Cond.instanceMethod y ∈ wsL_law) (w4 : Cond.initialized y.cls ∈ wsL_law) (w5 : Cond.code y bytes ml none ∈ wsL_law) (hd : y.cls ≠ "java/lang/invoke/MethodHandle" ∧ y.cls ≠ "java/lang/invoke/VarHandle" ∧ (parseMethodDescriptor y.desc).map (fun d => d.parameters.length) = some na) (hR : fr + 1 ≤ R.frames ∧ 8 + (ml + 11) + lo ≤ R.locals) (hcs : cells + kc ≤ R.cells ∧ slots + ks ≤ R.slots) (hna : as.length = na) (hcat : (rest.map fun v => v.category).sum ≤ 8) (hst : st = as.reverse ++ .ref (o + k) :: rest) (hk : Es.length = k) (h2 : Es2.length = kc + 1) (hdg : decode cc pc = .ok (.invokespecial idx, 3)) (hp : pc + 3 = pc2) (kk : NJ p l e R s m args below meth c n Z B (cells + kc) (slots + ks) Q F (Es ++ Es2) Ls pc2 rest) : NJ p l e R s m args below meth c n Z B cells slots Q F (Es ++ [x]) Ls pc st := by
  subst hp; subst hst
  intro H locs ls hW hcz hS hl
  have ho := X.2.2.2.2.2.2.2.2
  have hts := X.2.2.2.2.1
  refine va_callv (va_runIN (As := as) (rest := rest) ⟨X.1, X.2.1, X.2.2.1, X.2.2.2.1, X.2.2.2.2.1⟩ hC ⟨va_cnB na X.2.2.2.2.1 (gd (fun w hw => ?_)) rfl rfl rfl (X.2.2.2.2.2.1 _ w1) (hts _ w4) hd hR, hi, hts _ w2⟩ (n_pre X hk hW) rfl hna hl.1 rfl (lv_room hcat) hdg hcs) hS (fun q _ hq => by show B ≤ q; have : o + k ≤ q := hq; omega) (fun q hq => by show B ≤ q; have : o + k ≤ q := hq; omega) (fun u t H1 locs1 ht hvm hr1 hB hz1 hk1 hS1 => ?_)
  · simp only [List.mem_cons] at hw
    rcases hw with rfl | hw
    all_goals assumption
  rw [ht] at hB
  obtain ⟨e2, e3⟩ := n_post X hk h2 hW hcz hk1 hB
  exact kk H1 locs1 ls e2 e3 hS1 hl
theorem n_callI (X : NX p s m args meth c cc n own Z B F o) {y : MethodName} {bytes : ByteArray} {ml fr lo idx na k kc ks : Nat} {as : List Value} {x : va_E} {Es2 : List va_E} (hC : Cn l y bytes ml fr lo kc ks Z as (o + k) x Es2) (hi : y.name = "<init>") (w1 : Cond.methodLink own idx y ∈ wsL_law) (w2 : Cond.instanceMethod y ∈ wsL_law) (w4 : Cond.initialized y.cls ∈ wsL_law) (w5 : Cond.code y bytes ml none ∈ wsL_law) (hd : y.cls ≠ "java/lang/invoke/MethodHandle" ∧ y.cls ≠ "java/lang/invoke/VarHandle" ∧ (parseMethodDescriptor y.desc).map (fun d => d.parameters.length) = some na) (hR : fr + 1 ≤ R.frames ∧ 8 + (ml + 11) + lo ≤ R.locals) (hcs : cells + kc ≤ R.cells ∧ slots + ks ≤ R.slots) (hna : as.length = na) (hcat : (rest.map fun v => v.category).sum ≤ 8) (hst : st = as.reverse ++ .ref (o + k) :: rest) (hk : Es.length = k) (h2 : Es2.length = kc + 1) (hdg : decode cc pc = .ok (.invokespecial idx, 3)) (hp : pc + 3 = pc2) (kk : NJ p l e R s m args below meth c n Z B (cells + kc) (slots + ks) Q F (Es ++ Es2) Ls pc2 rest) : NJ p l e R s m args below meth c n Z B cells slots Q F (Es ++ [x]) Ls pc st := by
  subst hp; subst hst
  intro H locs ls hW hcz hS hl
  have ho := X.2.2.2.2.2.2.2.2
  have hts := X.2.2.2.2.1
  refine va_callv (va_runI (As := as) (rest := rest) ⟨X.1, X.2.1, X.2.2.1, X.2.2.2.1, X.2.2.2.2.1⟩ hC (cwI na X.2.2.2.2.1 (gd (fun w hw => ?_)) rfl rfl rfl (hts _ w4) (hts _ w1) (hts _ w2) hi hd hR) (n_pre X hk hW) rfl hna hl.1 rfl (lv_room hcat) hdg hcs) hS (fun q _ hq => by show B ≤ q; have : o + k ≤ q := hq; omega) (fun q hq => by show B ≤ q; have : o + k ≤ q := hq; omega) (fun u t H1 locs1 ht hvm hr1 hB hz1 hk1 hS1 => ?_)
  · simp only [List.mem_cons] at hw
    rcases hw with rfl | hw
    all_goals assumption
  rw [ht] at hB
  obtain ⟨e2, e3⟩ := n_post X hk h2 hW hcz hk1 hB
  exact kk H1 locs1 ls e2 e3 hS1 hl
end JNC

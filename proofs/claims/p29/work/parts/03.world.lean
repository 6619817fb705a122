/-! THE WORLD: one list of cells for the class's object (its machines, cores, rows) and the row of the law's method logs; S m g i k: place k of cell i of group g of part m (0 now, 1 trial, 2..5 saved, 6 the object itself, 7 the reference: not in the world, a ghost beside it, 8 the law's row); groups 0..3 of a machine are its cores, 4 the rest -/
abbrev St : Type := Nat → Nat → Nat → Nat → Int32
abbrev Hl : Type := Nat → Int64
abbrev wZ : Type := va_G × (ClassId × ClassId × ClassId × ClassId) × Bool × (Nat → Nat → Nat → Nat)
def zG (Z : wZ) : va_G := Z.1
def zI (Z : wZ) : ClassId := Z.2.1.1
def zC (Z : wZ) : ClassId := Z.2.1.2.1
def zM (Z : wZ) : ClassId := Z.2.1.2.2.1
def zJ (Z : wZ) : ClassId := Z.2.1.2.2.2
/-- whether the law's row of answers is there -/
def zO (Z : wZ) : Bool := Z.2.2.1
def zA (Z : wZ) (m g i : Nat) : Nat := Z.2.2.2 m g i
def zT (Z : wZ) : List (ClassId × FieldType) := [(zI Z, .int), (zC Z, .object "SpeculativeCaches$Core"), (zM Z, .object "SpeculativeCaches$Machine")]
def upR (S : St) (m g i : Nat) (r : Nat → Int32) : St := va_up S m (va_up (S m) g (va_up (S m g) i r))
theorem upR_self (S : St) (m g i : Nat) (r : Nat → Int32) : upR S m g i r m g i = r := by simp [upR, va_up]
theorem upR_ne (S : St) {m g i m' g' i' : Nat} (r : Nat → Int32) (h : (m', g', i') ≠ (m, g, i)) : upR S m g i r m' g' i' = S m' g' i' := by
  simp only [upR, va_up]
  by_cases h1 : m' = m
  · subst h1
    by_cases h2 : g' = g
    · subst h2
      by_cases h3 : i' = i
      · subst h3; exact absurd rfl h
      · simp [h3, va_up]
    · simp [h2, va_up]
  · simp [h1]
def rmI (m : Nat) : Nat := if m = 1 then 0 else 400
abbrev eCore (Z : wZ) (m g : Nat) (r : Nat → Int32) : List Value := [.ref (zA Z m g 1), .ref (zA Z m g 2), .ref (zA Z m g 3), .int (r 3), .int (r 4), .int (r 5), .int (r 6), .int (r 7), .int (r 8), .int (r 9), .int (r 10), .int (r 11), .ref (zA Z m g 6), .int (r 13), .int (r 14)]
abbrev eProg (Z : wZ) (m g : Nat) (r : Nat → Int32) : List Value := [.ref (zA Z m g 4), .ref (zA Z m g 5), .int (r 2)]
abbrev eMach (Z : wZ) (m : Nat) (r : Nat → Int32) : List Value := [.ref (zA Z m 4 1), .ref (zA Z m 4 2), .ref (zA Z m 4 3), .ref (zA Z m 4 4), .int (r 4), .int (r 5), .int (r 6), .int (r 7), .int (r 8)]
abbrev eLog (Z : wZ) (m : Nat) (r : Nat → Int32) : List Value := [.int (nI (rmI m)), .ref (zA Z m 4 5), .ref (zA Z m 4 6), .ref (zA Z m 4 7), .ref (zA Z m 4 8), .ref (zA Z m 4 9), .ref (zA Z m 4 10), .int (r 7)]
abbrev eRead (Z : wZ) (r : Nat → Int32) : List Value := [.ref (zA Z 6 0 3), .int (r 1), .int (r 2), .int (r 3), .int (r 4), .int (r 5)]
abbrev eTop (Z : wZ) (r : Nat → Int32) : List Value := [.ref (zA Z 6 0 1), .int (r 1), .ref (zA Z 6 0 2), .ref (zA Z 0 4 0), .ref (zA Z 1 4 0), .ref (zA Z 6 0 6), .int (r 6), .int (r 7), .ref (zA Z 6 0 7)]
abbrev eI (Z : wZ) (n : Nat) (r : Nat → Int32) : va_E := .inl (zI Z, n, .inl r)
def cE (Z : wZ) (m g i : Nat) (r : Nat → Int32) : va_E := match i with
  | 0 => .inr (0, eCore Z m g r)
  | 1 => eI Z 8 r
  | 2 => eI Z 8 r
  | 3 => .inr (3, eProg Z m g r)
  | 4 => eI Z 30 r
  | 5 => eI Z 30 r
  | _ => eI Z 8 r
def mE (Z : wZ) (m i : Nat) (r : Nat → Int32) : va_E := match i with
  | 0 => .inr (2, eMach Z m r)
  | 1 => .inl (zC Z, 4, .inr (.inr (.inr (.inr (fun j => some (zA Z m j 0))))))
  | 2 => eI Z 8 r
  | 3 => eI Z 8 r
  | 4 => .inr (1, eLog Z m r)
  | 5 => eI Z (rmI m) r
  | 6 => eI Z (rmI m) r
  | 7 => eI Z (rmI m) r
  | 8 => eI Z (rmI m) r
  | 9 => eI Z (rmI m * 8) r
  | _ => eI Z (rmI m * 8) r
def tE (Z : wZ) (i : Nat) (r : Nat → Int32) : va_E := match i with
  | 0 => .inr (5, eTop Z r)
  | 1 => eI Z 120 r
  | 2 => .inr (4, eRead Z r)
  | 3 => .inr (3, eProg Z 6 0 r)
  | 4 => eI Z 30 r
  | 5 => eI Z 30 r
  | 6 => .inl (zM Z, 4, .inr (.inr (.inr (.inr (fun j => some (zA Z (j + 2) 4 0))))))
  | _ => eI Z 8 r
def oE (Z : wZ) (r : Nat → Int32) : va_E := eI Z 8 r
def wE (Z : wZ) (_ : Hl) (m g i : Nat) (r : Nat → Int32) : va_E :=
  if m < 6 then (if g < 4 then cE Z m g i r else mE Z m i r) else if m = 6 then tE Z i r else oE Z r
theorem wE_core {Z : wZ} {h : Hl} {m g : Nat} (hm : m < 6) (hg : g < 4) (i : Nat) (r : Nat → Int32) : wE Z h m g i r = cE Z m g i r := by simp [wE, hm, hg]
theorem wE_mach {Z : wZ} {h : Hl} {m : Nat} (hm : m < 6) (i : Nat) (r : Nat → Int32) : wE Z h m 4 i r = mE Z m i r := by simp [wE, hm]
/-- where programs lie: in the cores, and in the reader -/
def isPr (m g : Nat) : Prop := (m < 6 ∧ g < 4) ∨ (m = 6 ∧ g = 0)
theorem wE_prog {Z : wZ} {h : Hl} {m g : Nat} (hm : isPr m g) (r : Nat → Int32) : wE Z h m g 3 r = .inr (3, eProg Z m g r) := by
  rcases hm with ⟨h1, h2⟩ | ⟨h1, h2⟩
  · rw [wE_core h1 h2]; rfl
  · subst h1; subst h2; rfl
theorem wE_kinds {Z : wZ} {h : Hl} {m g : Nat} (hm : isPr m g) (r : Nat → Int32) : wE Z h m g 4 r = eI Z 30 r := by
  rcases hm with ⟨h1, h2⟩ | ⟨h1, h2⟩
  · rw [wE_core h1 h2]; rfl
  · subst h1; subst h2; rfl
theorem wE_oper {Z : wZ} {h : Hl} {m g : Nat} (hm : isPr m g) (r : Nat → Int32) : wE Z h m g 5 r = eI Z 30 r := by
  rcases hm with ⟨h1, h2⟩ | ⟨h1, h2⟩
  · rw [wE_core h1 h2]; rfl
  · subst h1; subst h2; rfl
def wPl (Z : wZ) : List (Nat × Nat × Nat) := (List.range 6).flatMap (fun m => (List.range 4).flatMap (fun g => (List.range 7).map (fun i => (m, g, i))) ++ (List.range 11).map (fun i => (m, 4, i))) ++ ((List.range 8).map (fun i => (6, 0, i)) ++ (if zO Z = true then [(8, 0, 0)] else []))
theorem wPl_nodup (Z : wZ) : (wPl Z).Nodup := by
  unfold wPl
  generalize zO Z = b
  cases b <;> decide +kernel
theorem wm_core {Z : wZ} {m g i : Nat} (hm : m < 6) (hg : g < 4) (hi : i < 7) : (m, g, i) ∈ wPl Z :=
  List.mem_append_left _ (List.mem_flatMap.mpr ⟨m, List.mem_range.mpr hm, List.mem_append_left _ (List.mem_flatMap.mpr ⟨g, List.mem_range.mpr hg, List.mem_map.mpr ⟨i, List.mem_range.mpr hi, rfl⟩⟩)⟩)
theorem wm_mach {Z : wZ} {m i : Nat} (hm : m < 6) (hi : i < 11) : (m, 4, i) ∈ wPl Z :=
  List.mem_append_left _ (List.mem_flatMap.mpr ⟨m, List.mem_range.mpr hm, List.mem_append_right _ (List.mem_map.mpr ⟨i, List.mem_range.mpr hi, rfl⟩)⟩)
theorem wm_top {Z : wZ} {i : Nat} (hi : i < 8) : (6, 0, i) ∈ wPl Z := List.mem_append_right _ (List.mem_append_left _ (List.mem_map.mpr ⟨i, List.mem_range.mpr hi, rfl⟩))
theorem wm_out {Z : wZ} (hO : zO Z = true) : (8, 0, 0) ∈ wPl Z := List.mem_append_right _ (List.mem_append_right _ (by rw [if_pos hO]; exact List.mem_cons_self))
theorem wm_prog {Z : wZ} {m g i : Nat} (h : isPr m g) (h1 : i < 6) : (m, g, i) ∈ wPl Z := by
  rcases h with ⟨a, b⟩ | ⟨a, b⟩
  · exact wm_core a b (by omega)
  · subst a; subst b; exact wm_top (by omega)
def ws (Z : wZ) (S : St) (h : Hl) : va_W := (wPl Z).map (fun q => (zA Z q.1 q.2.1 q.2.2, wE Z h q.1 q.2.1 q.2.2 (S q.1 q.2.1 q.2.2)))
theorem ws_get (Z : wZ) (S : St) (h : Hl) {k : Nat} {q : Nat × Nat × Nat} (hk : (wPl Z)[k]? = some q) : (ws Z S h)[k]? = some (zA Z q.1 q.2.1 q.2.2, wE Z h q.1 q.2.1 q.2.2 (S q.1 q.2.1 q.2.2)) := by
  unfold ws
  rw [List.getElem?_map, hk]
  rfl
theorem ws_at (Z : wZ) (S : St) (h : Hl) {m g i : Nat} (hq : (m, g, i) ∈ wPl Z) : ∃ k : Nat, (wPl Z)[k]? = some (m, g, i) ∧ (ws Z S h)[k]? = some (zA Z m g i, wE Z h m g i (S m g i)) := by
  obtain ⟨k, hk⟩ := List.getElem?_of_mem hq
  exact ⟨k, hk, ws_get Z S h hk⟩
theorem ws_set0 (Z : wZ) (S S' : St) (h h' : Hl) {k : Nat} {m g i : Nat} (hk : (wPl Z)[k]? = some (m, g, i)) {e : va_E} (he : wE Z h' m g i (S' m g i) = e) (ho : ∀ q : Nat × Nat × Nat, q ≠ (m, g, i) → wE Z h' q.1 q.2.1 q.2.2 (S' q.1 q.2.1 q.2.2) = wE Z h q.1 q.2.1 q.2.2 (S q.1 q.2.1 q.2.2)) : (ws Z S h).set k (zA Z m g i, e) = ws Z S' h' := by
  apply List.ext_getElem?
  intro j
  by_cases hj : k = j
  · subst hj
    have hlt : k < (ws Z S h).length := (List.getElem?_eq_some_iff.mp (ws_get Z S h hk)).1
    rw [List.getElem?_set_self hlt, ws_get Z S' h' hk, ← he]
  · rw [List.getElem?_set_ne hj]
    cases hq : (wPl Z)[j]? with
    | none =>
      unfold ws
      rw [List.getElem?_map, List.getElem?_map, hq]
      rfl
    | some q =>
      rw [ws_get Z S h hq, ws_get Z S' h' hq, ho q ?_]
      intro hqe
      subst hqe
      obtain ⟨h1, e1⟩ := List.getElem?_eq_some_iff.mp hk
      obtain ⟨h2, e2⟩ := List.getElem?_eq_some_iff.mp hq
      exact hj ((List.getElem_inj (wPl_nodup Z)).mp (e1.trans e2.symm))
theorem ws_set (Z : wZ) (S : St) (h : Hl) {k : Nat} {m g i : Nat} (hk : (wPl Z)[k]? = some (m, g, i)) {e : va_E} {r : Nat → Int32} (he : wE Z h m g i r = e) : (ws Z S h).set k (zA Z m g i, e) = ws Z (upR S m g i r) h :=
  ws_set0 Z S _ h h hk (by rw [upR_self]; exact he) (fun q hq => by rw [upR_ne S r hq])
theorem ws_D {A : Nat → Prop} {Z : wZ} {S S' : St} {h h' : Hl} (hD : va_D A (ws Z S h)) : va_D A (ws Z S' h') := by
  have key : ∀ (k : Nat) (p : Nat × va_E), (ws Z S' h')[k]? = some p → ∃ p' : Nat × va_E, (ws Z S h)[k]? = some p' ∧ p'.1 = p.1 := by
    intro k p hp
    unfold ws at hp
    rw [List.getElem?_map] at hp
    cases hq : (wPl Z)[k]? with
    | none => rw [hq] at hp; cases hp
    | some q =>
      rw [hq] at hp
      exact ⟨_, ws_get Z S h hq, by rw [← Option.some.inj hp]⟩
  refine ⟨fun i j p q hp hq e => ?_, fun k q hq => ?_⟩
  · obtain ⟨p', h1, e1⟩ := key i p hp
    obtain ⟨q', h2, e2⟩ := key j q hq
    exact hD.1 i j p' q' h1 h2 (by rw [e1, e2, e])
  · obtain ⟨q', h1, e1⟩ := key k q hq
    rw [← e1]
    exact hD.2 k q' h1

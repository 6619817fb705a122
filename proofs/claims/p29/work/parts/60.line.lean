/-! ONE LINE in all caches: n cores; st, lv, fv: its state, its value, its value at the first read; w, r, f: whether it is in the write set, the read set, the first reads; mem: the memory, v: the value committed -/
def lnOK (n : Nat) (st lv fv : Nat → Int32) (w r f : Nat → Bool) (mem v : Int32) : Prop :=
  (∀ g b, g < n → b < n → g ≠ b → st g = 2 → st b = 0) ∧
  (∀ g, g < n → st g = 1 → lv g = v) ∧
  (∀ g, g < n → st g = 2 → w g = false → lv g = v) ∧
  (mem = v ∨ ∃ g, g < n ∧ st g = 2 ∧ w g = false) ∧
  (∀ g, g < n → w g = true → st g = 2) ∧
  (∀ g, g < n → f g = true → r g = true ∧ fv g = v) ∧
  (∀ g b, g < n → b < n → g ≠ b → w g = true → r b = false) ∧
  (∀ g, g < n → st g = 0 ∨ st g = 1 ∨ st g = 2)
abbrev sm (n : Nat) {α : Type} (x y : Nat → α) : Prop := ∀ g, g < n → y g = x g
abbrev ot (n a : Nat) {α : Type} (x y : Nat → α) : Prop := ∀ g, g < n → g ≠ a → y g = x g
section LN
variable {n a : Nat} {st lv fv st' lv' fv' : Nat → Int32} {w r f w' r' f' : Nat → Bool} {mem v mem' v' : Int32}
theorem ln_cg (h : lnOK n st lv fv w r f mem v) (e1 : sm n st st') (e2 : sm n lv lv') (e3 : sm n fv fv') (e4 : sm n w w') (e5 : sm n r r') (e6 : sm n f f') (em : mem' = mem) (ev : v' = v) : lnOK n st' lv' fv' w' r' f' mem' v' := by
  unfold lnOK at *; grind
theorem ln_roll (h : lnOK n st lv fv w r f mem v) (ha : a < n) (e1 : ot n a st st') (ea : st' a = if w a = true then 0 else st a) (e2 : sm n lv lv') (e3 : sm n fv fv') (e4 : ot n a w w') (ew : w' a = false) (e5 : ot n a r r') (er : r' a = false) (e6 : ot n a f f') (ef : f' a = false) (em : mem' = mem) (ev : v' = v) : lnOK n st' lv' fv' w' r' f' mem' v' := by
  cases hwa : w a
  · have ea' : st' a = st a := by rw [ea, hwa]; rfl
    clear ea
    unfold lnOK at *
    obtain ⟨h1, h2, h3, h4, h5, h6, h7, h8⟩ := h
    refine ⟨?_, ?_, ?_, ?_, ?_, ?_, ?_, ?_⟩
    all_goals grind
  · have ea' : st' a = 0 := by rw [ea, hwa]; rfl
    clear ea
    unfold lnOK at *
    obtain ⟨h1, h2, h3, h4, h5, h6, h7, h8⟩ := h
    refine ⟨?_, ?_, ?_, ?_, ?_, ?_, ?_, ?_⟩
    all_goals grind
/-- a modified line is written back and shared -/
theorem ln_shr (h : lnOK n st lv fv w r f mem v) (ha : a < n) (h2 : st a = 2) (hw : w a = false) (e1 : ot n a st st') (ea : st' a = 1) (e2 : sm n lv lv') (e3 : sm n fv fv') (e4 : sm n w w') (e5 : sm n r r') (e6 : sm n f f') (em : mem' = lv a) (ev : v' = v) : lnOK n st' lv' fv' w' r' f' mem' v' := by
  unfold lnOK at *; grind
theorem ln_inv (h : lnOK n st lv fv w r f mem v) (ha : a < n) (h2 : st a ≠ 2) (e1 : ot n a st st') (ea : st' a = 0) (e2 : sm n lv lv') (e3 : sm n fv fv') (e4 : sm n w w') (e5 : sm n r r') (e6 : sm n f f') (em : mem' = mem) (ev : v' = v) : lnOK n st' lv' fv' w' r' f' mem' v' := by
  unfold lnOK at *; grind
theorem ln_miss (h : lnOK n st lv fv w r f mem v) (ha : a < n) (h0 : st a = 0) (ho : ∀ b, b < n → b ≠ a → st b ≠ 2) (e1 : ot n a st st') (ea : st' a = 1) (e2 : ot n a lv lv') (el : lv' a = mem) (e3 : sm n fv fv') (e4 : sm n w w') (e5 : sm n r r') (e6 : sm n f f') (em : mem' = mem) (ev : v' = v) : lnOK n st' lv' fv' w' r' f' mem' v' := by
  unfold lnOK at *; grind
theorem ln_note (h : lnOK n st lv fv w r f mem v) (ha : a < n) (hs : st a ≠ 0) (ho : ∀ b, b < n → b ≠ a → w b = false) (e1 : sm n st st') (e2 : sm n lv lv') (e3 : ot n a fv fv') (e4 : sm n w w') (e5 : ot n a r r') (er : r' a = true) (e6 : ot n a f f') (ef : f' a = (f a || !w a)) (e3a : fv' a = if (w a || f a) = true then fv a else lv a) (em : mem' = mem) (ev : v' = v) : lnOK n st' lv' fv' w' r' f' mem' v' := by
  unfold lnOK at *; grind
theorem ln_mem (h : lnOK n st lv fv w r f mem v) (ho : ∀ b, b < n → st b = 2 → w b = true) : mem = v := by
  unfold lnOK at *; grind
theorem ln_putT (h : lnOK n st lv fv w r f mem v) (ha : a < n) (hm : mem' = v) (ho : ∀ b, b < n → b ≠ a → st' b = 0 ∧ r b = false ∧ w b = false) (e1 : ∀ b, b < n → b ≠ a → st' b = 0) (ea : st' a = 2) (e2 : ot n a lv lv') (e3 : sm n fv fv') (e4 : ot n a w w') (ew : w' a = true) (e5 : sm n r r') (e6 : sm n f f') (ev : v' = v) : lnOK n st' lv' fv' w' r' f' mem' v' := by
  unfold lnOK at *; grind
theorem ln_putN (h : lnOK n st lv fv w r f mem v) (ha : a < n) (ho : ∀ b, b < n → b ≠ a → r b = false ∧ w b = false) (hwa : w a = false) (hra : r a = false) (e1 : ∀ b, b < n → b ≠ a → st' b = 0) (ea : st' a = 2) (el : lv' a = v') (e3 : sm n fv fv') (e4 : sm n w w') (e5 : sm n r r') (e6 : sm n f f') : lnOK n st' lv' fv' w' r' f' mem' v' := by
  unfold lnOK at *; grind
theorem ln_commit (h : lnOK n st lv fv w r f mem v) (ha : a < n) (e1 : sm n st st') (e2 : sm n lv lv') (e3 : sm n fv fv') (e4 : ot n a w w') (ew : w' a = false) (e5 : ot n a r r') (er : r' a = false) (e6 : ot n a f f') (ef : f' a = false) (em : mem' = mem) (ev : v' = if w a = true then lv a else v) : lnOK n st' lv' fv' w' r' f' mem' v' := by
  unfold lnOK at *; grind
theorem ln_poke (e1 : ∀ g, g < n → st g = 0) (e4 : ∀ g, g < n → w g = false) (e5 : ∀ g, g < n → r g = false) (e6 : ∀ g, g < n → f g = false) (em : mem = v) : lnOK n st lv fv w r f mem v := by
  unfold lnOK at *; grind
end LN

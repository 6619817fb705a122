/-! sums over the cores, the numbers of transactions -/
def sI (f : Nat → Int32) : Nat → Int32
  | 0 => 0
  | n + 1 => sI f n + f n
def sN (f : Nat → Nat) : Nat → Nat
  | 0 => 0
  | n + 1 => sN f n + f n
theorem sI_cg {f f' : Nat → Int32} : ∀ {n : Nat}, sm n f f' → sI f' n = sI f n
  | 0, _ => rfl
  | n + 1, h => by rw [sI, sI, sI_cg (n := n) (fun g hg => h g (by omega)), h n (by omega)]
theorem sN_cg {f f' : Nat → Nat} : ∀ {n : Nat}, sm n f f' → sN f' n = sN f n
  | 0, _ => rfl
  | n + 1, h => by rw [sN, sN, sN_cg (n := n) (fun g hg => h g (by omega)), h n (by omega)]
theorem sI_up {f f' : Nat → Int32} {a : Nat} {d : Int32} : ∀ {n : Nat}, a < n → ot n a f f' → f' a = f a + d → sI f' n = sI f n + d
  | 0, h, _, _ => absurd h (by omega)
  | n + 1, h, e, ea => by
    by_cases han : a = n
    · subst han
      rw [sI, sI, sI_cg (n := a) (f := f) (f' := f') (fun g hg => e g (by omega) (by omega)), ea, Int32.add_assoc]
    · rw [sI, sI, sI_up (n := n) (by omega) (fun g hg hn => e g (by omega) hn) ea, e n (by omega) (fun z => han z.symm), Int32.add_assoc, Int32.add_comm d, ← Int32.add_assoc]
theorem sN_up {f f' : Nat → Nat} {a d d' : Nat} : ∀ {n : Nat}, a < n → ot n a f f' → f' a + d' = f a + d → sN f' n + d' = sN f n + d
  | 0, h, _, _ => absurd h (by omega)
  | n + 1, h, e, ea => by
    by_cases han : a = n
    · subst han
      rw [sN, sN, sN_cg (n := a) (f := f) (f' := f') (fun g hg => e g (by omega) (by omega))]; omega
    · have := sN_up (n := n) (by omega) (fun g hg hn => e g (by omega) hn) ea
      rw [sN, sN, e n (by omega) (fun z => han z.symm)]; omega
theorem sN_le {f : Nat → Nat} {a : Nat} : ∀ {n : Nat}, a < n → f a ≤ sN f n
  | 0, h => absurd h (by omega)
  | n + 1, h => by
    by_cases han : a = n
    · subst han; rw [sN]; omega
    · have := sN_le (f := f) (n := n) (a := a) (by omega)
      rw [sN]; omega
def cT (t : Nat → Int) : Nat → Nat
  | 0 => 0
  | q + 1 => cT t q + (if t q = -1 then 0 else 1)
theorem cT_cg {t t' : Nat → Int} : ∀ {q : Nat}, sm q t t' → cT t' q = cT t q
  | 0, _ => rfl
  | q + 1, h => by rw [cT, cT, cT_cg (q := q) (fun g hg => h g (by omega)), h q (by omega)]
theorem cT_le (t : Nat → Int) : ∀ q, cT t q ≤ q
  | 0 => Nat.le_refl 0
  | q + 1 => by have := cT_le t q; rw [cT]; split <;> omega
/-- n cores with the numbers o (open or kept), nb the next one, q entries with the numbers t -/
def nbOK (n : Nat) (o : Nat → Int) (nb : Int) (q : Nat) (t : Nat → Int) : Prop :=
  (∀ g, g < n → o g = -1 ∨ (0 ≤ o g ∧ o g < nb)) ∧ (∀ g b, g < n → b < n → g ≠ b → o g = o b → o g = -1) ∧
  (∀ e, e < q → t e = -1 ∨ (0 ≤ t e ∧ t e < nb)) ∧ (∀ e, e < q → ∀ g, g < n → o g = t e → t e = -1) ∧
  (∀ e d, e < q → d < q → e ≠ d → t e = t d → t e = -1) ∧ 0 ≤ nb
section NB
variable {n q a q' : Nat} {o o' t t' : Nat → Int} {nb nb' : Int}
theorem nb_cg (h : nbOK n o nb q t) (e1 : sm n o o') (e2 : sm q t t') (en : nb' = nb) (eq : q' = q) : nbOK n o' nb' q' t' := by
  subst eq; subst en; unfold nbOK at *; grind
theorem nb_new (h : nbOK n o nb q t) (e1 : ot n a o o') (ea : o' a = nb) (e2 : sm q t t') (en : nb' = nb + 1) (eq : q' = q) : nbOK n o' nb' q' t' := by
  subst eq; subst en; unfold nbOK at *
  obtain ⟨h1, h2, h3, h4, h5, h6⟩ := h
  refine ⟨?_, ?_, ?_, ?_, ?_, ?_⟩
  all_goals grind
theorem nb_none (h : nbOK n o nb q t) (e1 : ot n a o o') (ea : o' a = -1) (e2 : sm q t t') (en : nb' = nb) (eq : q' = q) : nbOK n o' nb' q' t' := by
  subst eq; subst en; unfold nbOK at *
  obtain ⟨h1, h2, h3, h4, h5, h6⟩ := h
  refine ⟨?_, ?_, ?_, ?_, ?_, ?_⟩
  all_goals grind
theorem nb_out (h : nbOK n o nb q t) (e1 : sm n o o') (e2 : sm q t t') (eq2 : t' q = -1) (en : nb' = nb) (eq : q' = q + 1) : nbOK n o' nb' q' t' := by
  subst eq; subst en; unfold nbOK at *
  obtain ⟨h1, h2, h3, h4, h5, h6⟩ := h
  have hq : ∀ e, e < q + 1 → e < q ∨ e = q := fun e he => by omega
  refine ⟨?_, ?_, ?_, ?_, ?_, ?_⟩
  all_goals grind
theorem nb_done (h : nbOK n o nb q t) (ha : a < n) (e1 : ot n a o o') (ea : o' a = -1) (e2 : sm q t t') (eq2 : t' q = o a) (en : nb' = nb) (eq : q' = q + 1) : nbOK n o' nb' q' t' := by
  subst eq; subst en; unfold nbOK at *
  obtain ⟨h1, h2, h3, h4, h5, h6⟩ := h
  have hq : ∀ e, e < q + 1 → e < q ∨ e = q := fun e he => by omega
  refine ⟨?_, ?_, ?_, ?_, ?_, ?_⟩
  all_goals grind
end NB

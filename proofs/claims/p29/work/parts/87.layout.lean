/-! WHERE THE CELLS LIE, behind one another from B on -/
def ixM (m : Nat) : Nat := if m = 0 then 6 else if m = 1 then 45 else 7 + 39 * m
def ixO (g i : Nat) : Nat := if g < 4 then 2 + 7 * g + i else if i < 2 then i else 28 + i
def ixT (i : Nat) : Nat := if i < 6 then i else if i = 6 then 84 else 241
def ix (m g i : Nat) : Nat := if m < 6 then ixM m + ixO g i else if m = 6 then ixT i else 242 + i
/-- the first state -/
def S0 : St := fun m g i k => if m < 6 then (if g < 4 then (if i = 0 then (if k = 5 ∨ k = 6 then -1 else 0) else 0) else if i = 0 then (if k = 4 then 2 else if k = 6 then 4 else if k = 7 then 1 else 0) else 0) else if m = 7 ∧ i = 1 ∧ k = 3 then 1 else 0
def h0 : Hl := fun _ => 0
theorem at_of {Z : wZ} {o : Nat} {Es : List va_E} {H : Heap} (h : va_P (zG Z) vwCl (wl o Es) H) {k : Nat} {x : va_E} (hk : Es[k]? = some x) : va_at (zG Z) vwCl (o + k, x) H := h k (o + k, x) (by rw [wl_at, hk]; rfl)
theorem at_eq {D : va_G} {cl : List vw_C} {a a' : Nat} {x x' : va_E} {H : Heap} (h : va_at D cl (a, x) H) (ha : a' = a) (hx : x' = x) : va_at D cl (a', x') H := by subst ha; subst hx; exact h
theorem q_cell {cA : ClassId} {f g : Nat → Option Nat} (h : ∀ j, j < 4 → f j = g j) : vp_cell cA (4, .inr (.inr (.inr (.inr f)))) = vp_cell cA (4, .inr (.inr (.inr (.inr g)))) := by
  rw [vp_cell_q, vp_cell_q]
  unfold arrV
  congr 2
  funext j
  show va_rf (f j.val) = va_rf (g j.val)
  rw [h j.val j.isLt]
theorem at_q {D : va_G} {cl : List vw_C} {a a' : Nat} {cA : ClassId} {f g : Nat → Option Nat} {H : Heap} (h : va_at D cl (a, .inl (cA, 4, .inr (.inr (.inr (.inr f))))) H) (ha : a' = a) (hf : ∀ j, j < 4 → g j = f j) : va_at D cl (a', .inl (cA, 4, .inr (.inr (.inr (.inr g))))) H := by
  subst ha
  show H[a']? = some (vp_cell cA (4, .inr (.inr (.inr (.inr g)))))
  rw [q_cell hf]
  exact h
theorem S0_c {m g : Nat} (hm : m < 6) (hg : g < 4) : (∀ k, S0 m g 0 k = if k = 5 ∨ k = 6 then -1 else 0) ∧ ∀ i, i ≠ 0 → S0 m g i = fun _ => 0 :=
  ⟨fun k => by unfold S0; rw [if_pos hm, if_pos hg, if_pos rfl], fun i hi => by funext k; unfold S0; rw [if_pos hm, if_pos hg, if_neg hi]⟩
theorem S0_m {m : Nat} (hm : m < 6) : (∀ k, S0 m 4 0 k = if k = 4 then 2 else if k = 6 then 4 else if k = 7 then 1 else 0) ∧ ∀ i, i ≠ 0 → S0 m 4 i = fun _ => 0 :=
  ⟨fun k => by unfold S0; rw [if_pos hm, if_neg (by omega), if_pos rfl], fun i hi => by funext k; unfold S0; rw [if_pos hm, if_neg (by omega), if_neg hi]⟩
theorem S0_t (g i : Nat) : S0 6 g i = fun _ => 0 := by funext k; unfold S0; rw [if_neg (by omega), if_neg (by omega)]
theorem S0_r {i : Nat} (hi : i ≠ 1) : S0 7 0 i = fun _ => 0 := by funext k; unfold S0; rw [if_neg (by omega), if_neg (by omega)]
theorem S0_r1 : S0 7 0 1 = upd (fun _ => 0) 3 1 := by
  funext k
  unfold S0
  rw [if_neg (by omega)]
  by_cases hk : k = 3
  · subst hk; rfl
  · rw [if_neg (by omega)]; simp [upd, hk]
theorem core_at {Z : wZ} {o m g : Nat} {H : Heap} (hm : m < 6) (hg : g < 4) (h : va_P (zG Z) vwCl (wl o (E0 Z o)) H) (hz : ∀ i, i < 7 → zA Z m g i = o + i) : ∀ i, i < 7 → va_at (zG Z) vwCl (zA Z m g i, wE Z h0 m g i (S0 m g i)) H := by
  intro i hi
  obtain ⟨s1, s2⟩ := S0_c hm hg
  rw [wE_core hm hg]
  have hi' : i = 0 ∨ i = 1 ∨ i = 2 ∨ i = 3 ∨ i = 4 ∨ i = 5 ∨ i = 6 := by omega
  rcases hi' with rfl | rfl | rfl | rfl | rfl | rfl | rfl
  · refine at_eq (at_of h (k := 0) rfl) (hz 0 (by omega)) ?_
    show Sum.inr (0, eCore Z m g (S0 m g 0)) = _
    unfold eCore
    simp only [s1, hz 1 (by omega), hz 2 (by omega), hz 3 (by omega), hz 6 (by omega)]
    rfl
  · rw [s2 1 (by omega)]; exact at_eq (at_of h (k := 1) rfl) (hz 1 (by omega)) rfl
  · rw [s2 2 (by omega)]; exact at_eq (at_of h (k := 2) rfl) (hz 2 (by omega)) rfl
  · rw [s2 3 (by omega)]
    refine at_eq (at_of h (k := 3) rfl) (hz 3 (by omega)) ?_
    show Sum.inr (3, eProg Z m g (fun _ => 0)) = _
    unfold eProg
    rw [hz 4 (by omega), hz 5 (by omega)]
  · rw [s2 4 (by omega)]; exact at_eq (at_of h (k := 4) rfl) (hz 4 (by omega)) rfl
  · rw [s2 5 (by omega)]; exact at_eq (at_of h (k := 5) rfl) (hz 5 (by omega)) rfl
  · rw [s2 6 (by omega)]; exact at_eq (at_of h (k := 6) rfl) (hz 6 (by omega)) rfl
theorem mach_at {Z : wZ} {o m : Nat} {H : Heap} (hm : m < 6) (h : va_P (zG Z) vwCl (wl o (E2 Z o (rmI m))) H) (hz : ∀ g i, zA Z m g i = o + ixO g i) : (∀ g i, g < 4 → i < 7 → va_at (zG Z) vwCl (zA Z m g i, wE Z h0 m g i (S0 m g i)) H) ∧ ∀ i, i < 11 → va_at (zG Z) vwCl (zA Z m 4 i, wE Z h0 m 4 i (S0 m 4 i)) H := by
  unfold E2 at h
  have a1 := wl_app.mp h
  have a2 := wl_app.mp a1.1
  have a3 := wl_app.mp a2.1
  have a4 := wl_app.mp a3.1
  have a5 := wl_app.mp a4.1
  have a6 := wl_app.mp a5.1
  have c3 : va_P (zG Z) vwCl (wl (o + 23) (E0 Z (o + 23))) H := a3.2
  have c2 : va_P (zG Z) vwCl (wl (o + 16) (E0 Z (o + 16))) H := a4.2
  have c1 : va_P (zG Z) vwCl (wl (o + 9) (E0 Z (o + 9))) H := a5.2
  have c0 : va_P (zG Z) vwCl (wl (o + 2) (E0 Z (o + 2))) H := a6.2
  have cr : va_P (zG Z) vwCl (wl (o + 30) [eI Z 8 (fun _ => 0), eI Z 8 (fun _ => 0)]) H := a2.2
  have cl : va_P (zG Z) vwCl (wl (o + 32) (E1 Z (o + 32) (rmI m))) H := a1.2
  have zc : ∀ g i, g < 4 → zA Z m g i = o + (2 + 7 * g) + i := fun g i hg => by rw [hz, show ixO g i = 2 + 7 * g + i by unfold ixO; rw [if_pos hg]]; omega
  have z4 : ∀ i, zA Z m 4 i = o + (if i < 2 then i else 28 + i) := fun i => by rw [hz]; unfold ixO; rw [if_neg (by omega)]
  refine ⟨fun g i hg hi => ?_, fun i hi => ?_⟩
  · have hg' : g = 0 ∨ g = 1 ∨ g = 2 ∨ g = 3 := by omega
    rcases hg' with rfl | rfl | rfl | rfl
    · exact core_at hm (by omega) c0 (fun i _ => zc 0 i (by omega)) i hi
    · exact core_at hm (by omega) c1 (fun i _ => zc 1 i (by omega)) i hi
    · exact core_at hm (by omega) c2 (fun i _ => zc 2 i (by omega)) i hi
    · exact core_at hm (by omega) c3 (fun i _ => zc 3 i (by omega)) i hi
  · obtain ⟨s1, s2⟩ := S0_m hm
    rw [wE_mach hm]
    have hi' : i = 0 ∨ i = 1 ∨ i = 2 ∨ i = 3 ∨ i = 4 ∨ i = 5 ∨ i = 6 ∨ i = 7 ∨ i = 8 ∨ i = 9 ∨ i = 10 := by omega
    rcases hi' with rfl | rfl | rfl | rfl | rfl | rfl | rfl | rfl | rfl | rfl | rfl
    · refine at_eq (at_of a6.1 (k := 0) rfl) (z4 0) ?_
      show Sum.inr (2, eMach Z m (S0 m 4 0)) = _
      unfold eMach
      simp only [s1, z4]
      rfl
    · rw [s2 1 (by omega)]
      refine at_q (at_of a6.1 (k := 1) rfl) (z4 1) (fun j hj => ?_)
      have hj' : j = 0 ∨ j = 1 ∨ j = 2 ∨ j = 3 := by omega
      rcases hj' with rfl | rfl | rfl | rfl
      all_goals (rw [zc _ _ (by omega)]; rfl)
    · rw [s2 2 (by omega)]; exact at_eq (at_of cr (k := 0) rfl) (z4 2) rfl
    · rw [s2 3 (by omega)]; exact at_eq (at_of cr (k := 1) rfl) (z4 3) rfl
    · rw [s2 4 (by omega)]
      refine at_eq (at_of cl (k := 0) rfl) (z4 4) ?_
      show Sum.inr (1, eLog Z m (fun _ => 0)) = _
      unfold eLog
      simp only [z4]
      rfl
    · rw [s2 5 (by omega)]; exact at_eq (at_of cl (k := 1) rfl) (z4 5) rfl
    · rw [s2 6 (by omega)]; exact at_eq (at_of cl (k := 2) rfl) (z4 6) rfl
    · rw [s2 7 (by omega)]; exact at_eq (at_of cl (k := 3) rfl) (z4 7) rfl
    · rw [s2 8 (by omega)]; exact at_eq (at_of cl (k := 4) rfl) (z4 8) rfl
    · rw [s2 9 (by omega)]; exact at_eq (at_of cl (k := 5) rfl) (z4 9) rfl
    · rw [s2 10 (by omega)]; exact at_eq (at_of cl (k := 6) rfl) (z4 10) rfl
theorem E2_len (Z : wZ) (o n : Nat) : (E2 Z o n).length = 39 := rfl
theorem E4_len (Z : wZ) (o : Nat) : (E4 Z o).length = 4 := rfl
theorem E5_len (Z : wZ) (o : Nat) : (E5 Z o).length = 242 := by unfold E5; simp only [List.length_append, E2_len, E4_len, List.length_cons, List.length_nil]
theorem wPl_l : ∀ q ∈ (List.range 6).flatMap (fun m => (List.range 4).flatMap (fun g => (List.range 7).map (fun i => (m, g, i))) ++ (List.range 11).map (fun i => (m, 4, i))) ++ ((List.range 8).map (fun i => (6, 0, i)) ++ []), (q.1 < 6 ∧ (q.2.1 < 4 ∧ q.2.2 < 7 ∨ q.2.1 = 4 ∧ q.2.2 < 11)) ∨ (q.1 = 6 ∧ q.2.1 = 0 ∧ q.2.2 < 8) := by decide +kernel
theorem ix_nd : (((List.range 6).flatMap (fun m => (List.range 4).flatMap (fun g => (List.range 7).map (fun i => (m, g, i))) ++ (List.range 11).map (fun i => (m, 4, i))) ++ ((List.range 8).map (fun i => (6, 0, i)) ++ [])).map (fun q : Nat × Nat × Nat => ix q.1 q.2.1 q.2.2)).Nodup := by decide +kernel
theorem wPl_n {Z : wZ} (hO : zO Z = false) : wPl Z = (List.range 6).flatMap (fun m => (List.range 4).flatMap (fun g => (List.range 7).map (fun i => (m, g, i))) ++ (List.range 11).map (fun i => (m, 4, i))) ++ ((List.range 8).map (fun i => (6, 0, i)) ++ []) := by unfold wPl; rw [if_neg (by rw [hO]; decide)]
/-- what the constructors made is the world of the first state -/
theorem conv {Z : wZ} {B : Nat} {H : Heap} (hO : zO Z = false) (hz : ∀ m g i, zA Z m g i = B + ix m g i) (hW : WL Z B (E5 Z B) H) : va_P (zG Z) vwCl (ws Z S0 h0) H := by
  have p5 := hW.2
  unfold E5 at p5
  have a1 := wl_app.mp p5
  have a2 := wl_app.mp a1.1
  have a3 := wl_app.mp a2.1
  have a4 := wl_app.mp a3.1
  have a5 := wl_app.mp a4.1
  have a6 := wl_app.mp a5.1
  have a7 := wl_app.mp a6.1
  have a8 := wl_app.mp a7.1
  have a9 := wl_app.mp a8.1
  have b241 : va_P (zG Z) vwCl (wl (B + 241) [eI Z 8 (fun _ => 0)]) H := a1.2
  have m5 : va_P (zG Z) vwCl (wl (B + 202) (E2 Z (B + 202) 400)) H := a2.2
  have m4 : va_P (zG Z) vwCl (wl (B + 163) (E2 Z (B + 163) 400)) H := a3.2
  have m3 : va_P (zG Z) vwCl (wl (B + 124) (E2 Z (B + 124) 400)) H := a4.2
  have m2 : va_P (zG Z) vwCl (wl (B + 85) (E2 Z (B + 85) 400)) H := a5.2
  have b84 : va_P (zG Z) vwCl (wl (B + 84) [.inl (zM Z, 4, .inr (.inr (.inr (.inr (rows4 (B + 85) (B + 124) (B + 163) (B + 202))))))]) H := a6.2
  have m1 : va_P (zG Z) vwCl (wl (B + 45) (E2 Z (B + 45) 0)) H := a7.2
  have m0 : va_P (zG Z) vwCl (wl (B + 6) (E2 Z (B + 6) 400)) H := a8.2
  have b4 : va_P (zG Z) vwCl (wl (B + 2) (E4 Z (B + 2))) H := a9.2
  have M : ∀ m, m < 6 → va_P (zG Z) vwCl (wl (B + ixM m) (E2 Z (B + ixM m) (rmI m))) H := fun m hm => by
    have hm' : m = 0 ∨ m = 1 ∨ m = 2 ∨ m = 3 ∨ m = 4 ∨ m = 5 := by omega
    rcases hm' with rfl | rfl | rfl | rfl | rfl | rfl
    · exact m0
    · exact m1
    · exact m2
    · exact m3
    · exact m4
    · exact m5
  have zm : ∀ m, m < 6 → ∀ g i, zA Z m g i = B + ixM m + ixO g i := fun m hm g i => by rw [hz]; unfold ix; rw [if_pos hm]; omega
  have z6 : ∀ g i, zA Z 6 g i = B + ixT i := fun g i => by rw [hz]; unfold ix; rw [if_neg (by omega), if_pos rfl]
  have zq : ∀ m, m < 6 → zA Z m 4 0 = B + ixM m := fun m hm => by rw [zm m hm]; rfl
  intro k q hq
  unfold ws at hq
  rw [List.getElem?_map] at hq
  cases hk : (wPl Z)[k]? with
  | none => rw [hk] at hq; cases hq
  | some r =>
    rw [hk] at hq
    cases hq
    have hr := List.mem_of_getElem? hk
    rw [wPl_n hO] at hr
    obtain ⟨m, g, i⟩ := r
    rcases wPl_l _ hr with ⟨hm, ⟨hg, hi⟩ | ⟨hg, hi⟩⟩ | ⟨hm, hg, hi⟩
    · exact (mach_at hm (M m hm) (zm m hm)).1 g i hg hi
    · dsimp only at hg; subst hg; exact (mach_at hm (M m hm) (zm m hm)).2 i hi
    · dsimp only at hm hg hi
      subst hm; subst hg
      show va_at (zG Z) vwCl (zA Z 6 0 i, wE Z h0 6 0 i (S0 6 0 i)) H
      rw [S0_t]
      have hi' : i = 0 ∨ i = 1 ∨ i = 2 ∨ i = 3 ∨ i = 4 ∨ i = 5 ∨ i = 6 ∨ i = 7 := by omega
      rcases hi' with rfl | rfl | rfl | rfl | rfl | rfl | rfl | rfl
      · refine at_eq (at_of a9.1 (k := 0) rfl) (z6 0 0) ?_
        show Sum.inr (5, eTop Z (fun _ => 0)) = _
        unfold eTop
        rw [z6, z6, z6, z6, zq 0 (by omega), zq 1 (by omega)]
        rfl
      · exact at_eq (at_of a9.1 (k := 1) rfl) (z6 0 1) rfl
      · refine at_eq (at_of b4 (k := 0) rfl) (z6 0 2) ?_
        show Sum.inr (4, eRead Z (fun _ => 0)) = _
        unfold eRead
        rw [z6]
        rfl
      · refine at_eq (at_of b4 (k := 1) rfl) (z6 0 3) ?_
        show Sum.inr (3, eProg Z 6 0 (fun _ => 0)) = _
        unfold eProg
        rw [z6, z6]
        rfl
      · exact at_eq (at_of b4 (k := 2) rfl) (z6 0 4) rfl
      · exact at_eq (at_of b4 (k := 3) rfl) (z6 0 5) rfl
      · refine at_q (at_of b84 (k := 0) rfl) (z6 0 6) (fun j hj => ?_)
        have hj' : j = 0 ∨ j = 1 ∨ j = 2 ∨ j = 3 := by omega
        rcases hj' with rfl | rfl | rfl | rfl
        all_goals (rw [zq _ (by omega)]; rfl)
      · exact at_eq (at_of b241 (k := 0) rfl) (z6 0 7) rfl
theorem lay_D {Z : wZ} {B : Nat} (hO : zO Z = false) (hz : ∀ m g i, zA Z m g i = B + ix m g i) (S : St) (h : Hl) : va_D (fun q => B ≤ q) (ws Z S h) := by
  have key : ∀ (k : Nat) (q : Nat × va_E), (ws Z S h)[k]? = some q → ∃ r : Nat × Nat × Nat, (wPl Z)[k]? = some r ∧ q.1 = B + ix r.1 r.2.1 r.2.2 := fun k q hq => by
    unfold ws at hq
    rw [List.getElem?_map] at hq
    cases hk : (wPl Z)[k]? with
    | none => rw [hk] at hq; cases hq
    | some r => rw [hk] at hq; cases hq; exact ⟨r, rfl, hz _ _ _⟩
  refine ⟨fun i j p q hp hq e => ?_, fun k q hq => ?_⟩
  · obtain ⟨r1, e1, f1⟩ := key i p hp
    obtain ⟨r2, e2, f2⟩ := key j q hq
    have nd := ix_nd
    rw [← wPl_n hO] at nd
    have g1 : ((wPl Z).map (fun q => ix q.1 q.2.1 q.2.2))[i]? = some (ix r1.1 r1.2.1 r1.2.2) := by rw [List.getElem?_map, e1]; rfl
    have g2 : ((wPl Z).map (fun q => ix q.1 q.2.1 q.2.2))[j]? = some (ix r2.1 r2.2.1 r2.2.2) := by rw [List.getElem?_map, e2]; rfl
    obtain ⟨l1, x1⟩ := List.getElem?_eq_some_iff.mp g1
    obtain ⟨l2, x2⟩ := List.getElem?_eq_some_iff.mp g2
    exact (List.getElem_inj nd).mp (x1.trans ((by omega : ix r1.1 r1.2.1 r1.2.2 = ix r2.1 r2.2.1 r2.2.2).trans x2.symm))
  · obtain ⟨r1, e1, f1⟩ := key k q hq
    show B ≤ q.1
    omega

theorem started_rel {S T : St} {m N : Nat} {a b d : Int32} (s1 : ∀ g, g < 4 → clC S m g) (s4 : S m 4 0 4 = a) (s5 : S m 4 0 5 = b) (s6 : S m 4 0 6 = d) (s7 : S m 4 0 7 = T 7 0 1 3) (o7 : okI (S m 4 0 7) (2 ^ 31 - 1)) (s8 : S m 4 0 8 = 0) (s47 : S m 4 4 7 = 0) (s2 : ∀ j, j < 8 → S m 4 2 j = 0) (s3 : ∀ j, j < 8 → S m 4 3 j = 0) (hm : m ≠ 1) (h8 : T 7 0 0 8 = 0) (ha : okI a 4) (hb : okI b 2) (hd : okI d 8) : rel S m (rClear T a b d) N (0 - T 7 0 0 13) := by
  obtain ⟨r0, r1, r2, r3, r4, rz, rf⟩ := clear_row T a b d
  have o0 : ∀ n, n < 2 ^ 31 → okI 0 n := fun n hn => okI_lit (k := 0) (by omega) hn 0 rfl
  have eW : ∀ g w, g < 4 → w < 96 → w ≠ 4 → rOf (rClear T a b d) g w = 0 := fun g w hg hw hw4 => rz _ (by omega) (by omega) (fun c hc => by omega)
  have e13 : rClear T a b d 7 0 0 13 = T 7 0 0 13 := by rw [rf 7 0 0 (by omega)]
  refine ⟨⟨fun k hk => ?_, fun j hj => ?_, fun j hj => ?_, by rw [s4]; exact ha, by rw [s5]; exact hb, by rw [s6]; exact hd, o7, by rw [s8]; exact ⟨by decide, by rw [show (0 : Int32).toNatClampNeg = 0 by decide]; omega⟩, ?_, by rw [s47]; exact o0 _ (by omega), ?_⟩, ?_, fun g hg => ?_, Or.inr ⟨hm, ?_, ?_, fun q hq => ?_⟩⟩
  · have hk' : k = 0 ∨ k = 1 ∨ k = 2 ∨ k = 3 ∨ k = 4 := by omega
    rcases hk' with rfl | rfl | rfl | rfl | rfl
    · exact s4.trans r0.symm
    · exact s5.trans r1.symm
    · exact s6.trans r2.symm
    · exact s7.trans r3.symm
    · exact s8.trans (rz 4 (by omega) (by omega) (fun c hc => by omega)).symm
  · rw [s2 j hj, rz (5 + j) (by omega) (by omega) (fun c hc => by omega)]
  · rw [s3 j hj, rz (13 + j) (by omega) (by omega) (fun c hc => by omega)]
  · rw [rz 21 (by omega) (by omega) (fun c hc => by omega)]; exact o0 _ (by omega)
  · rw [s3 5 (by omega), s3 6 (by omega), e13, Int32.sub_add_cancel]; rfl
  · intro j hj g hg c hc hgc z
    have hcc : pCC (S) m ≤ 4 := by show (S m 4 0 4).toNatClampNeg ≤ 4; rw [s4]; exact ha.2
    rw [(s1 g (by omega)).1 j hj] at z
    exact absurd z (by decide)
  · obtain ⟨c1, c2, c3, c4, c5, c6, c9, c10, c11, c13, c14⟩ := s1 g hg
    refine ⟨?_, ?_, ?_, ?_, fun l hl => ?_, ?_, ?_⟩
    · unfold rA
      rw [c2, c3, c4, c13, c14, eW g 0 hg (by omega) (by omega), eW g 1 hg (by omega) (by omega), eW g 2 hg (by omega) (by omega), eW g 9 hg (by omega) (by omega), eW g 10 hg (by omega) (by omega)]
      exact ⟨rfl, rfl, rfl, rfl, rfl⟩
    · unfold rT1
      rw [c5, c6, eW g 3 hg (by omega) (by omega), r4 g hg, if_pos rfl, if_pos rfl]
      exact ⟨rfl, rfl⟩
    · unfold rT2
      rw [c9, c10, c11, eW g 7 hg (by omega) (by omega), eW g 8 hg (by omega) (by omega), eW g 11 hg (by omega) (by omega)]
      exact ⟨rfl, rfl, rfl, ok8_0, ok8_0, ok8_0⟩
    · unfold rT3
      rw [c5, c6, c9, c10, c11]
      exact ⟨fun _ => ⟨rfl, rfl, rfl⟩, Or.inl rfl, Or.inl rfl, fun z => absurd rfl z⟩
    · rw [c1 l hl, c10, c11, eW g (20 + l) hg (by omega) (by omega), eW g (28 + l) hg (by omega) (by omega)]
      exact ⟨rfl, o0 _ (by omega), by rw [if_pos rfl], fun z => absurd z (by rw [hasL_0 hl]; decide), fun z => absurd z (by rw [hasL_0 hl]; decide)⟩
    · unfold rP pPs pLn
      rw [c2, c3]
      exact ⟨o0 _ (by omega), o0 _ (by omega), Nat.le_refl _, fun k hk => absurd hk (by show ¬ k < (0 : Int32).toNatClampNeg; rw [show (0 : Int32).toNatClampNeg = 0 by decide]; omega)⟩
    · unfold rB
      rw [c10, rSize_0]; exact Nat.zero_le _
  · rw [rf 7 0 0 (by omega)]; exact h8
  · rw [s47, rz 21 (by omega) (by omega) (fun c hc => by omega)]
  · exfalso
    have : pQ (S) m = 0 := by show (S m 4 4 7).toNatClampNeg = 0; rw [s47]; decide
    omega

theorem LI0 : LI S0 2 0 0 0 := by
  obtain ⟨m1, m2⟩ := S0_m (m := 0) (by omega)
  have o0 : ∀ n, n < 2 ^ 31 → okI 0 n := fun n hn => okI_lit (k := 0) (by omega) hn 0 rfl
  have hC : ∀ g, g < 4 → clC S0 0 g := fun g hg => by
    obtain ⟨s1, s2⟩ := S0_c (m := 0) (by omega) hg
    unfold clC
    rw [s2 1 (by omega), s2 3 (by omega)]
    exact ⟨fun _ _ => rfl, rfl, s1 3, s1 4, s1 5, s1 6, s1 9, s1 10, s1 11, s1 13, s1 14⟩
  have hrel := started_rel (S := S0) (T := S0) (m := 0) (N := 0) (a := 2) (b := 0) (d := 4) hC (m1 4) (m1 5) (m1 6) ((m1 7).trans (by rw [S0_r1]; rfl)) (by rw [m1 7]; exact okI_lit (k := 1) (by omega) (by omega) 1 rfl) (m1 8) (by rw [m2 4 (by omega)]) (fun j _ => by rw [m2 2 (by omega)]) (fun j _ => by rw [m2 3 (by omega)]) (by omega) (by rw [S0_r (by omega)]) (okI_lit (k := 2) (by omega) (by omega) 2 rfl) (o0 _ (by omega)) (okI_lit (k := 4) (by omega) (by omega) 4 rfl)
  refine ⟨⟨MX_clear hC (by show (S0 0 4 0 4).toNatClampNeg = 2; rw [m1 4]; decide) (by omega) (by rw [m2 4 (by omega)]) (m1 8) (fun j _ => by rw [m2 2 (by omega)]) (fun j _ => by rw [m2 3 (by omega)]), _, _, hrel⟩, by rw [S0_t]; exact o0 _ (by omega), by rw [S0_t]; exact o0 _ (by omega), by rw [S0_t]; exact o0 _ (by omega), fun j hj => ?_⟩
  have : pNs S0 = 0 := by show (S0 6 0 0 7).toNatClampNeg = 0; rw [S0_t]; decide
  omega
theorem S0_e : S0 0 4 4 7 = 0 ∧ S0 0 4 0 7 = 1 := by
  obtain ⟨m1, m2⟩ := S0_m (m := 0) (by omega)
  exact ⟨by rw [m2 4 (by omega)], m1 7⟩

/-! the law's method logs: it makes a row, replays the log on it -/
def zW (Z : wZ) (q : Nat) : wZ := (zG Z, Z.2.1, true, fun m g i => if m = 8 ∧ g = 0 then q else zA Z m g i)
theorem zW_A {Z : wZ} {q m g i : Nat} (h : ¬ (m = 8 ∧ g = 0)) : zA (zW Z q) m g i = zA Z m g i := by show (if m = 8 ∧ g = 0 then q else zA Z m g i) = _; rw [if_neg h]
theorem zW_E {Z : wZ} {q m g i : Nat} {h : Hl} {r : Nat → Int32} (hm : m < 8) : wE (zW Z q) h m g i r = wE Z h m g i r := by
  have z : ∀ g i, zA (zW Z q) m g i = zA Z m g i := fun g i => zW_A (by omega)
  have z6 : ∀ i, zA (zW Z q) 6 0 i = zA Z 6 0 i := fun i => zW_A (by omega)
  have z4 : ∀ m, zA (zW Z q) m 4 0 = zA Z m 4 0 := fun m => zW_A (by omega)
  unfold wE
  by_cases h6 : m < 6
  · rw [if_pos h6, if_pos h6]
    by_cases h4 : g < 4
    · rw [if_pos h4, if_pos h4]
      unfold cE
      split
      · unfold eCore; simp only [z]
      · rfl
      · rfl
      · unfold eProg; simp only [z]
      · rfl
      · rfl
      · rfl
    · rw [if_neg h4, if_neg h4]
      unfold mE
      split
      · unfold eMach; simp only [z]
      · simp only [z]; rfl
      · rfl
      · rfl
      · unfold eLog; simp only [z]
      all_goals rfl
  · rw [if_neg h6, if_neg h6]
    by_cases h66 : m = 6
    · rw [if_pos h66, if_pos h66]
      unfold tE
      split
      · unfold eTop; simp only [z6, z4]
      · rfl
      · unfold eRead; simp only [z6]
      · unfold eProg; simp only [z6]
      · rfl
      · rfl
      · simp only [z4]; rfl
      · rfl
    · rw [if_neg h66, if_neg h66]; rfl
theorem wPl_f {Z : wZ} (hO : zO Z = false) : ∀ q ∈ wPl Z, q.1 < 8 := by
  unfold wPl
  rw [hO]
  decide +kernel
theorem wPl_W {Z : wZ} {q : Nat} (hO : zO Z = false) : wPl (zW Z q) = wPl Z ++ [(8, 0, 0)] := by
  unfold wPl
  rw [if_pos (show zO (zW Z q) = true from rfl), if_neg (by rw [hO]; decide)]
  simp only [List.append_assoc, List.append_nil]
theorem zW_ws {Z : wZ} {q : Nat} (hO : zO Z = false) (S : St) (h : Hl) : ws (zW Z q) S h = ws Z S h ++ [(q, eI Z 8 (S 8 0 0))] := by
  unfold ws
  rw [wPl_W hO, List.map_append]
  have h2 : ∀ {a b c d : va_W}, a = b → c = d → a ++ c = b ++ d := fun h1 h2 => by rw [h1, h2]
  refine h2 (List.map_congr_left (fun r hr => ?_)) rfl
  have hr8 := wPl_f hO r hr
  rw [zW_A (by omega), zW_E hr8]
section JN
variable {p : Program} {l : Launch} {e : Env} {R : Room} {s : State} {m : MethodId} {args : Array Value} {below : List Frame} {meth : Method} {c : Code} {n : Nat} {Z : wZ} {A0 : Nat → Prop} {cells slots : Nat} {Q : State → Prop} {cc : ByteArray} {own : String} {S S2 : St} {h h2 : Hl} {Ls Ls2 : List (Nat × Value)} {pc pc2 : Nat} {st rest : List Value}
theorem j_newO (X : JX p s m args meth c cc n own Z A0) (hO : zO Z = false) (hcs : cells + 1 ≤ R.cells ∧ slots + 8 ≤ R.slots) (w1 : Cond.arrayClass .int ∈ wsL_law) (hdg : decode cc pc = .ok (.newarray .int, 2)) (hp : pc + 2 = pc2) (kk : ∀ q : Nat, JX p s m args meth c cc n own (zW Z q) A0 → J p l e R s m args below meth c n (zW Z q) A0 (cells + 1) (slots + 8) Q (upR S 8 0 0 (fun _ => 0)) h Ls pc2 (.ref q :: st)) : J p l e R s m args below meth c n Z A0 cells slots Q S h Ls pc (.int 8 :: st) := by
  subst hp
  intro H locs ls hP hS hl
  refine va_newa (n := nI 8) (A := A0) (H0 := s.heap) (atype := .int) (ty := .int) (a0 := (8, .inl (fun _ => 0))) X.1 X.2.1 (X.2.2.2.2.1 _ w1) rfl X.2.2.2.2.2.2.1 hP (X.2.2.2.2.2.2.2.1 S h) hS (fun q hq => X.2.2.2.2.2.2.2.2 q hq) (fun cA => rfl) (nI_pos (by omega)) (nI_clamp (by omega)) (by show 8 * 4 ≤ _; omega) hcs.1 hcs.2 hdg (fun q cA H1 hK1 hP1 hD1 hS1 => ?_)
  have hcA : cA = zI Z := by
    have h1 := (hK1.2 3 (cA, .int) rfl).2
    have h2 := (X.2.2.2.2.2.2.1.2 0 (zI Z, .int) rfl).2
    exact Option.some.inj (h1.symm.trans h2)
  subst hcA
  have e1 : ws (zW Z q) (upR S 8 0 0 (fun _ => 0)) h = ws Z S h ++ [(q, eI Z 8 (fun _ => 0))] := by
    rw [zW_ws hO, upR_self]
    rw [ws_eq (Z := Z) (S := upR S 8 0 0 (fun _ => 0)) (S' := S) (h := h) (h' := h) (fun r hr => upR_ne S _ (fun z => by have h8 := wPl_f hO r hr; have e8 : r.1 = 8 := congrArg Prod.fst z; omega))]
  have hP2 : va_P (zG (zW Z q)) vwCl (ws (zW Z q) (upR S 8 0 0 (fun _ => 0)) h) H1 := by rw [e1]; exact hP1
  have hD2 : va_D A0 (ws (zW Z q) (upR S 8 0 0 (fun _ => 0)) h) := by rw [e1]; exact hD1
  exact kk q ⟨X.1, X.2.1, X.2.2.1, X.2.2.2.1, X.2.2.2.2.1, X.2.2.2.2.2.1, X.2.2.2.2.2.2.1, fun S3 h3 => ws_D hD2, X.2.2.2.2.2.2.2.2⟩ H1 locs ls hP2 hS1 hl
theorem j_drop {q : Nat} (hO : zO Z = false) (k : J p l e R s m args below meth c n Z A0 cells slots Q S h Ls pc st) : J p l e R s m args below meth c n (zW Z q) A0 cells slots Q S h Ls pc st := by
  intro H locs ls hP hS hl
  refine k H locs ls (fun i r hi => ?_) hS hl
  rw [zW_ws hO] at hP
  exact hP i r (by rw [List.getElem?_append_left (List.getElem?_eq_some_iff.mp hi).1]; exact hi)
end JN
theorem hasE_n {S : St} {qq e : Nat} (hq : S 0 4 4 7 = nI qq) (hq4 : qq ≤ 400) (he : e < qq) : e < rmI 0 ∧ pHasE S 0 (nI e) = true := by
  have h4 : rmI 0 = 400 := rfl
  refine ⟨by omega, ?_⟩
  unfold pHasE
  rw [hq, h4]
  simp only [Bool.and_eq_true, Bool.not_eq_true', decide_eq_false_iff_not]
  exact ⟨nI_pos (by omega), nI_ge he (by omega), nI_ge (by omega) (by omega)⟩
def lgA (S : St) (k : Nat) (rd wr : Int32) (l : Nat) : Prop := S 0 4 9 (k * 8 + l) = (if rHas rd (nI l) = true then S 8 0 0 l else 0) ∧ (rHas wr (nI l) = false → S 0 4 10 (k * 8 + l) = 0)
def lgF (k : Nat) (wr : Int32) (l : Nat) (S : St) : St := setF S 8 0 0 l (if rHas wr (nI l) = true then S 0 4 10 (k * 8 + l) else S 8 0 0 l)
def lgO (k : Nat) (q : St × Int64 × Int32) : St × Int64 × Int32 :=
  (lp (lgF k (q.1 0 4 8 k)) 8 0 q.1, (if q.1 0 4 6 k < 0 then q.2.1 else q.2.1 ||| (if 63 ≤ q.1 0 4 6 k then (0 : Int64) else (1 : Int64) <<< ((q.1 0 4 6 k).toInt64 &&& 63))), if q.1 0 4 6 k < 0 then q.2.2 else q.2.2 + 1)
def lgC (q : St × Int64 × Int32) (k : Nat) : Prop := (∀ l, l < 8 → lgA q.1 k (q.1 0 4 7 k) (q.1 0 4 8 k) l) ∧ (¬ q.1 0 4 6 k < 0 → ¬ q.1 0 4 0 8 ≤ q.1 0 4 6 k ∧ (¬ 63 ≤ q.1 0 4 6 k → ¬ lg_cmp ((q.2.1 >>> ((q.1 0 4 6 k).toInt64 &&& 63)) &&& 1) 1 = 0)) ∧ (q.1 0 4 6 k < 0 → q.1 0 4 7 k = 0 ∧ kz 8 (q.1 0 4 8 k) = true ∧ kern 8 (q.1 0 4 8 k) 0 = 1)
abbrev lgT (S : St) (qq : Nat) : St × Int64 × Int32 := lp lgO qq 0 (S, 0, 0)
theorem lgL_ne {k : Nat} {wr : Int32} {m g i q : Nat} (hm : ¬ (m = 8 ∧ g = 0 ∧ i = 0)) : ∀ n j (S : St), lp (lgF k wr) n j S m g i q = S m g i q := by
  intro n j S
  exact lp_ne (lgF k wr) (fun T => T m g i q) (fun k1 T => by unfold lgF; exact sF_ne (by omega)) n j S
theorem lgT_ne {m g i q : Nat} (hm : ¬ (m = 8 ∧ g = 0 ∧ i = 0)) : ∀ n j (Q : St × Int64 × Int32), (lp lgO n j Q).1 m g i q = Q.1 m g i q := by
  intro n j Q
  exact lp_ne lgO (fun T => T.1 m g i q) (fun k1 T => by unfold lgO; exact lgL_ne hm 8 0 T.1) n j Q
theorem lpO_s {σ : Type} {f : Nat → σ → σ} {k i : Nat} {S T : σ} (h : f k S = T) : lp f (i + 1) k S = lp f i (k + 1) T := by rw [lp, h]
set_option maxRecDepth 100000 in
set_option maxHeartbeats 4000000 in
theorem L_lgA (l : Launch) (Z : wZ) (h : Hl) (S : St) (hO : zO Z = true) (nn : Nat) (hn : S 0 4 0 4 = nI nn) (hn4 : nn ≤ 4) (qq : Nat) (hq : S 0 4 4 7 = nI qq) (hq4 : qq ≤ 400) (kk : Nat) (hkk : kk < qq) (tt rd wr : Int32) (hv : Int64) (b1 : Int32) (hA : ∀ l, l < 8 → lgA S kk rd wr l) {p : Program} {e : Env} {s : State} {mi : MethodId} {args : Array Value} {below : List Frame} {meth : Method} {c : Code} {A0 : Nat → Prop} {Q : State → Prop} (X : JX p s mi args meth c cL_logs 12 RL Z A0) (hSt : hStr s) (hZ : hZq A0 s s.heap) : ∀ (n k : Nat), k + n = 8 → J p l e { frames := 5, cells := 1, slots := 8, locals := 106 } s mi args below meth c 12 Z A0 1 8 Q S h [(0, .ref (zA Z (6) (0) (0))), (1, .ref (zA Z (8) (0) (0))), (2, .long (hv)), (4, .int (b1)), (5, .int (nI (kk))), (6, .int (tt)), (7, .int (rd)), (8, .int (wr))] 145 [] → J p l e { frames := 5, cells := 1, slots := 8, locals := 106 } s mi args below meth c 12 Z A0 1 8 Q S h [(9, .int (nI (k))), (0, .ref (zA Z (6) (0) (0))), (1, .ref (zA Z (8) (0) (0))), (2, .long (hv)), (4, .int (b1)), (5, .int (nI (kk))), (6, .int (tt)), (7, .int (rd)), (8, .int (wr))] 52 [] := by
  intro n
  induction n with
  | zero =>
    intro k hkn hk
    have hkN : 8 = k := by omega
    subst hkN
    refine j_iload X dL_logs_52 rfl (q := 0) rfl ?_
    refine j_bipush X dL_logs_54 rfl (v := 8) (by decide) ?_
    refine j_icmp_ge_t X (tgt := 145) dL_logs_56 (by decide) (nI_le (Nat.le_refl _) (by decide)) ?_
    refine j_sub [1, 2, 3, 4, 5, 6, 7, 8] (Ls2 := [(0, .ref (zA Z (6) (0) (0))), (1, .ref (zA Z (8) (0) (0))), (2, .long (hv)), (4, .int (b1)), (5, .int (nI (kk))), (6, .int (tt)), (7, .int (rd)), (8, .int (wr))]) rfl ?_
    exact hk
  | succ n ih =>
    intro k hkn hk
    have hlt : k < 8 := by omega
    refine j_iload X dL_logs_52 rfl (q := 0) rfl ?_
    refine j_bipush X dL_logs_54 rfl (v := 8) (by decide) ?_
    refine j_icmp_ge_f X dL_logs_56 rfl (tgt := 145) (by decide) (nI_ge hlt (by decide)) ?_
    refine (show (J p l e { frames := 5, cells := 1, slots := 8, locals := 106 } s mi args below meth c 12 Z A0 1 8 Q S h [(10, .int (bI (rHas rd (nI k)))), (9, .int (nI (k))), (0, .ref (zA Z (6) (0) (0))), (1, .ref (zA Z (8) (0) (0))), (2, .long (hv)), (4, .int (b1)), (5, .int (nI (kk))), (6, .int (tt)), (7, .int (rd)), (8, .int (wr))] 77 []) → _ from fun kcut => ?_) ?_
    · refine j_iload X dL_logs_59 rfl (q := 7) rfl ?_
      refine j_iload X dL_logs_61 rfl (q := 0) rfl ?_
      refine j_ishr X dL_logs_63 rfl ?_
      refine j_iconst X dL_logs_64 rfl (v := 1) (by decide) ?_
      refine j_iand X dL_logs_65 rfl ?_
      refine j_iconst X dL_logs_66 rfl (v := 1) (by decide) ?_
      refine j_icmp_ne X dL_logs_67 rfl (tgt := 74) (by decide) (fun c_67 => ?_) (fun c_67 => ?_)
      · refine j_iconst X dL_logs_74 rfl (v := 0) (by decide) ?_
        refine j_istore X dL_logs_75 rfl (by decide) (Ls2 := [(10, .int (0)), (9, .int (nI (k))), (0, .ref (zA Z (6) (0) (0))), (1, .ref (zA Z (8) (0) (0))), (2, .long (hv)), (4, .int (b1)), (5, .int (nI (kk))), (6, .int (tt)), (7, .int (rd)), (8, .int (wr))]) rfl ?_
        rw [show (bI (rHas rd (nI k))) = (0) by first | (simp [bI, rHas_f c_67]; done) | (exfalso; simp_all; done)] at kcut
        exact kcut
      · refine j_iconst X dL_logs_70 rfl (v := 1) (by decide) ?_
        refine j_goto X (tgt := 75) dL_logs_71 (by decide) ?_
        refine j_istore X dL_logs_75 rfl (by decide) (Ls2 := [(10, .int (1)), (9, .int (nI (k))), (0, .ref (zA Z (6) (0) (0))), (1, .ref (zA Z (8) (0) (0))), (2, .long (hv)), (4, .int (b1)), (5, .int (nI (kk))), (6, .int (tt)), (7, .int (rd)), (8, .int (wr))]) rfl ?_
        rw [show (bI (rHas rd (nI k))) = (1) by first | (simp [bI, rHas_t c_67]; done) | (exfalso; simp_all; done)] at kcut
        exact kcut
    refine (show (J p l e { frames := 5, cells := 1, slots := 8, locals := 106 } s mi args below meth c 12 Z A0 1 8 Q S h [(11, .int (bI (rHas wr (nI k)))), (10, .int (bI (rHas rd (nI k)))), (9, .int (nI (k))), (0, .ref (zA Z (6) (0) (0))), (1, .ref (zA Z (8) (0) (0))), (2, .long (hv)), (4, .int (b1)), (5, .int (nI (kk))), (6, .int (tt)), (7, .int (rd)), (8, .int (wr))] 95 []) → _ from fun kcut => ?_) ?_
    · refine j_iload X dL_logs_77 rfl (q := 9) rfl ?_
      refine j_iload X dL_logs_79 rfl (q := 1) rfl ?_
      refine j_ishr X dL_logs_81 rfl ?_
      refine j_iconst X dL_logs_82 rfl (v := 1) (by decide) ?_
      refine j_iand X dL_logs_83 rfl ?_
      refine j_iconst X dL_logs_84 rfl (v := 1) (by decide) ?_
      refine j_icmp_ne X dL_logs_85 rfl (tgt := 92) (by decide) (fun c_85 => ?_) (fun c_85 => ?_)
      · refine j_iconst X dL_logs_92 rfl (v := 0) (by decide) ?_
        refine j_istore X dL_logs_93 rfl (by decide) (Ls2 := [(11, .int (0)), (10, .int (bI (rHas rd (nI k)))), (9, .int (nI (k))), (0, .ref (zA Z (6) (0) (0))), (1, .ref (zA Z (8) (0) (0))), (2, .long (hv)), (4, .int (b1)), (5, .int (nI (kk))), (6, .int (tt)), (7, .int (rd)), (8, .int (wr))]) rfl ?_
        rw [show (bI (rHas wr (nI k))) = (0) by first | (simp [bI, rHas_f c_85]; done) | (exfalso; simp_all; done)] at kcut
        exact kcut
      · refine j_iconst X dL_logs_88 rfl (v := 1) (by decide) ?_
        refine j_goto X (tgt := 93) dL_logs_89 (by decide) ?_
        refine j_istore X dL_logs_93 rfl (by decide) (Ls2 := [(11, .int (1)), (10, .int (bI (rHas rd (nI k)))), (9, .int (nI (k))), (0, .ref (zA Z (6) (0) (0))), (1, .ref (zA Z (8) (0) (0))), (2, .long (hv)), (4, .int (b1)), (5, .int (nI (kk))), (6, .int (tt)), (7, .int (rd)), (8, .int (wr))]) rfl ?_
        rw [show (bI (rHas wr (nI k))) = (1) by first | (simp [bI, rHas_t c_85]; done) | (exfalso; simp_all; done)] at kcut
        exact kcut
    refine j_aload_n X dL_logs_95 rfl rfl (q := 3) rfl ?_
    refine j_iload X dL_logs_96 rfl (q := 7) rfl ?_
    refine j_iload X dL_logs_98 rfl (q := 2) rfl ?_
    refine j_iconst X dL_logs_100 rfl (v := 0) (by decide) ?_
    refine j_callQW X hSt hZ (w_commitValue l Z S S h (nI (kk)) (nI (k)) false _ (c_X5_commitValue l Z S h kk (hasE_n hq hq4 hkk).1 (hasE_n hq hq4 hkk).2 k hlt false)) lk_RL_125 mt_L_commitValue ini_RL mc_L_commitValue md_L_commitValue ⟨Nat.le_of_ble_eq_true rfl, Nat.le_of_ble_eq_true rfl⟩ ⟨Nat.le_of_ble_eq_true rfl, Nat.le_of_ble_eq_true rfl⟩ rfl (Nat.le_of_ble_eq_true rfl) (as := [.ref (zA Z (6) (0) (0)), .int (nI (kk)), .int (nI (k)), .int (0)]) (rest := []) rfl dL_logs_101 rfl ?_
    refine j_topeq (y := (S 0 4 9 (kk * 8 + k))) (if_neg Bool.false_ne_true) ?_
    refine j_iload X dL_logs_104 rfl (q := 1) rfl ?_
    refine j_ifb_eq X dL_logs_106 rfl (tgt := 116) (by decide) (fun c_106 => ?_) (fun c_106 => ?_)
    · refine j_iconst X dL_logs_116 rfl (v := 0) (by decide) ?_
      refine j_icmp_ne_f X dL_logs_117 rfl (tgt := 137) (by decide) (by have hE := (hA k hlt).1; rw [if_neg (by rw [c_106]; decide)] at hE; exact hE) ?_
      refine j_iload X dL_logs_120 rfl (q := 0) rfl ?_
      refine j_ifb_ne X dL_logs_122 rfl (tgt := 139) (by decide) (fun c_122 => ?_) (fun c_122 => ?_)
      · refine j_iinc X dL_logs_139 rfl (q := 2) rfl (v := (nI (k + 1))) (nI_1 _) (by decide) (Ls2 := [(9, .int (nI (k + 1))), (11, .int (bI (rHas wr (nI k)))), (10, .int (bI (rHas rd (nI k)))), (0, .ref (zA Z (6) (0) (0))), (1, .ref (zA Z (8) (0) (0))), (2, .long (hv)), (4, .int (b1)), (5, .int (nI (kk))), (6, .int (tt)), (7, .int (rd)), (8, .int (wr))]) rfl ?_
        refine j_goto X (tgt := 52) dL_logs_142 (by decide) ?_
        refine j_sub [0, 3, 4, 5, 6, 7, 8, 9, 10] (Ls2 := [(9, .int (nI (k + 1))), (0, .ref (zA Z (6) (0) (0))), (1, .ref (zA Z (8) (0) (0))), (2, .long (hv)), (4, .int (b1)), (5, .int (nI (kk))), (6, .int (tt)), (7, .int (rd)), (8, .int (wr))]) rfl ?_
        exact ih (k + 1) (by omega) hk
      · refine j_aload_n X dL_logs_125 rfl rfl (q := 3) rfl ?_
        refine j_iload X dL_logs_126 rfl (q := 7) rfl ?_
        refine j_iload X dL_logs_128 rfl (q := 2) rfl ?_
        refine j_iconst X dL_logs_130 rfl (v := 1) (by decide) ?_
        refine j_callQW X hSt hZ (w_commitValue l Z S S h (nI (kk)) (nI (k)) true _ (c_X5_commitValue l Z S h kk (hasE_n hq hq4 hkk).1 (hasE_n hq hq4 hkk).2 k hlt true)) lk_RL_125 mt_L_commitValue ini_RL mc_L_commitValue md_L_commitValue ⟨Nat.le_of_ble_eq_true rfl, Nat.le_of_ble_eq_true rfl⟩ ⟨Nat.le_of_ble_eq_true rfl, Nat.le_of_ble_eq_true rfl⟩ rfl (Nat.le_of_ble_eq_true rfl) (as := [.ref (zA Z (6) (0) (0)), .int (nI (kk)), .int (nI (k)), .int (1)]) (rest := []) rfl dL_logs_131 rfl ?_
        refine j_topeq (y := (S 0 4 10 (kk * 8 + k))) (if_pos rfl) ?_
        refine j_if_eq_t X (tgt := 139) dL_logs_134 (by decide) ((hA k hlt).2 c_122) ?_
        refine j_iinc X dL_logs_139 rfl (q := 2) rfl (v := (nI (k + 1))) (nI_1 _) (by decide) (Ls2 := [(9, .int (nI (k + 1))), (11, .int (bI (rHas wr (nI k)))), (10, .int (bI (rHas rd (nI k)))), (0, .ref (zA Z (6) (0) (0))), (1, .ref (zA Z (8) (0) (0))), (2, .long (hv)), (4, .int (b1)), (5, .int (nI (kk))), (6, .int (tt)), (7, .int (rd)), (8, .int (wr))]) rfl ?_
        refine j_goto X (tgt := 52) dL_logs_142 (by decide) ?_
        refine j_sub [0, 3, 4, 5, 6, 7, 8, 9, 10] (Ls2 := [(9, .int (nI (k + 1))), (0, .ref (zA Z (6) (0) (0))), (1, .ref (zA Z (8) (0) (0))), (2, .long (hv)), (4, .int (b1)), (5, .int (nI (kk))), (6, .int (tt)), (7, .int (rd)), (8, .int (wr))]) rfl ?_
        exact ih (k + 1) (by omega) hk
    · refine j_aload_n X dL_logs_109 rfl rfl (q := 4) rfl ?_
      refine j_iload X dL_logs_110 rfl (q := 2) rfl ?_
      refine j_ialdN X (k := k) (wm_out hO) ((fun _ => rfl) _) hlt (by decide) dL_logs_112 rfl ?_
      refine j_goto X (tgt := 117) dL_logs_113 (by decide) ?_
      refine j_icmp_ne_f X dL_logs_117 rfl (tgt := 137) (by decide) (by have hE := (hA k hlt).1; rw [if_pos c_106] at hE; exact hE) ?_
      refine j_iload X dL_logs_120 rfl (q := 0) rfl ?_
      refine j_ifb_ne X dL_logs_122 rfl (tgt := 139) (by decide) (fun c_122_1 => ?_) (fun c_122_1 => ?_)
      · refine j_iinc X dL_logs_139 rfl (q := 2) rfl (v := (nI (k + 1))) (nI_1 _) (by decide) (Ls2 := [(9, .int (nI (k + 1))), (11, .int (bI (rHas wr (nI k)))), (10, .int (bI (rHas rd (nI k)))), (0, .ref (zA Z (6) (0) (0))), (1, .ref (zA Z (8) (0) (0))), (2, .long (hv)), (4, .int (b1)), (5, .int (nI (kk))), (6, .int (tt)), (7, .int (rd)), (8, .int (wr))]) rfl ?_
        refine j_goto X (tgt := 52) dL_logs_142 (by decide) ?_
        refine j_sub [0, 3, 4, 5, 6, 7, 8, 9, 10] (Ls2 := [(9, .int (nI (k + 1))), (0, .ref (zA Z (6) (0) (0))), (1, .ref (zA Z (8) (0) (0))), (2, .long (hv)), (4, .int (b1)), (5, .int (nI (kk))), (6, .int (tt)), (7, .int (rd)), (8, .int (wr))]) rfl ?_
        exact ih (k + 1) (by omega) hk
      · refine j_aload_n X dL_logs_125 rfl rfl (q := 3) rfl ?_
        refine j_iload X dL_logs_126 rfl (q := 7) rfl ?_
        refine j_iload X dL_logs_128 rfl (q := 2) rfl ?_
        refine j_iconst X dL_logs_130 rfl (v := 1) (by decide) ?_
        refine j_callQW X hSt hZ (w_commitValue l Z S S h (nI (kk)) (nI (k)) true _ (c_X5_commitValue l Z S h kk (hasE_n hq hq4 hkk).1 (hasE_n hq hq4 hkk).2 k hlt true)) lk_RL_125 mt_L_commitValue ini_RL mc_L_commitValue md_L_commitValue ⟨Nat.le_of_ble_eq_true rfl, Nat.le_of_ble_eq_true rfl⟩ ⟨Nat.le_of_ble_eq_true rfl, Nat.le_of_ble_eq_true rfl⟩ rfl (Nat.le_of_ble_eq_true rfl) (as := [.ref (zA Z (6) (0) (0)), .int (nI (kk)), .int (nI (k)), .int (1)]) (rest := []) rfl dL_logs_131 rfl ?_
        refine j_topeq (y := (S 0 4 10 (kk * 8 + k))) (if_pos rfl) ?_
        refine j_if_eq_t X (tgt := 139) dL_logs_134 (by decide) ((hA k hlt).2 c_122_1) ?_
        refine j_iinc X dL_logs_139 rfl (q := 2) rfl (v := (nI (k + 1))) (nI_1 _) (by decide) (Ls2 := [(9, .int (nI (k + 1))), (11, .int (bI (rHas wr (nI k)))), (10, .int (bI (rHas rd (nI k)))), (0, .ref (zA Z (6) (0) (0))), (1, .ref (zA Z (8) (0) (0))), (2, .long (hv)), (4, .int (b1)), (5, .int (nI (kk))), (6, .int (tt)), (7, .int (rd)), (8, .int (wr))]) rfl ?_
        refine j_goto X (tgt := 52) dL_logs_142 (by decide) ?_
        refine j_sub [0, 3, 4, 5, 6, 7, 8, 9, 10] (Ls2 := [(9, .int (nI (k + 1))), (0, .ref (zA Z (6) (0) (0))), (1, .ref (zA Z (8) (0) (0))), (2, .long (hv)), (4, .int (b1)), (5, .int (nI (kk))), (6, .int (tt)), (7, .int (rd)), (8, .int (wr))]) rfl ?_
        exact ih (k + 1) (by omega) hk
set_option maxRecDepth 100000 in
set_option maxHeartbeats 4000000 in
theorem L_lgB (l : Launch) (Z : wZ) (h : Hl) (hO : zO Z = true) (qq : Nat) (hq4 : qq ≤ 400) (kk : Nat) (hkk : kk < qq) (tt rd wr : Int32) (hv : Int64) (b1 : Int32) {p : Program} {e : Env} {s : State} {mi : MethodId} {args : Array Value} {below : List Frame} {meth : Method} {c : Code} {A0 : Nat → Prop} {Q : State → Prop} (X : JX p s mi args meth c cL_logs 12 RL Z A0) (hSt : hStr s) (hZ : hZq A0 s s.heap) : ∀ (n k : Nat) (S : St), k + n = 8 → S 0 4 4 7 = nI qq → J p l e { frames := 5, cells := 1, slots := 8, locals := 106 } s mi args below meth c 12 Z A0 1 8 Q ((lp (lgF kk wr) n k S)) h [(0, .ref (zA Z (6) (0) (0))), (1, .ref (zA Z (8) (0) (0))), (2, .long (hv)), (4, .int (b1)), (5, .int (nI (kk))), (6, .int (tt)), (7, .int (rd)), (8, .int (wr))] 192 [] → J p l e { frames := 5, cells := 1, slots := 8, locals := 106 } s mi args below meth c 12 Z A0 1 8 Q S h [(9, .int (nI (k))), (0, .ref (zA Z (6) (0) (0))), (1, .ref (zA Z (8) (0) (0))), (2, .long (hv)), (4, .int (b1)), (5, .int (nI (kk))), (6, .int (tt)), (7, .int (rd)), (8, .int (wr))] 148 [] := by
  intro n
  induction n with
  | zero =>
    intro k S hkn hI hk
    have hkN : 8 = k := by omega
    subst hkN
    refine j_iload X dL_logs_148 rfl (q := 0) rfl ?_
    refine j_bipush X dL_logs_150 rfl (v := 8) (by decide) ?_
    refine j_icmp_ge_t X (tgt := 192) dL_logs_152 (by decide) (nI_le (Nat.le_refl _) (by decide)) ?_
    refine j_sub [1, 2, 3, 4, 5, 6, 7, 8] (Ls2 := [(0, .ref (zA Z (6) (0) (0))), (1, .ref (zA Z (8) (0) (0))), (2, .long (hv)), (4, .int (b1)), (5, .int (nI (kk))), (6, .int (tt)), (7, .int (rd)), (8, .int (wr))]) rfl ?_
    exact hk
  | succ n ih =>
    intro k S hkn hI hk
    have hlt : k < 8 := by omega
    refine j_iload X dL_logs_148 rfl (q := 0) rfl ?_
    refine j_bipush X dL_logs_150 rfl (v := 8) (by decide) ?_
    refine j_icmp_ge_f X dL_logs_152 rfl (tgt := 192) (by decide) (nI_ge hlt (by decide)) ?_
    refine j_aload_n X dL_logs_155 rfl rfl (q := 2) rfl ?_
    refine j_iload X dL_logs_156 rfl (q := 0) rfl ?_
    refine j_iload X dL_logs_158 rfl (q := 8) rfl ?_
    refine j_iload X dL_logs_160 rfl (q := 0) rfl ?_
    refine j_ishr X dL_logs_162 rfl ?_
    refine j_iconst X dL_logs_163 rfl (v := 1) (by decide) ?_
    refine j_iand X dL_logs_164 rfl ?_
    refine j_iconst X dL_logs_165 rfl (v := 1) (by decide) ?_
    refine j_icmp_ne X dL_logs_166 rfl (tgt := 181) (by decide) (fun c_166 => ?_) (fun c_166 => ?_)
    · refine j_aload_n X dL_logs_181 rfl rfl (q := 2) rfl ?_
      refine j_iload X dL_logs_182 rfl (q := 0) rfl ?_
      refine j_ialdN X (k := k) (wm_out hO) ((fun _ => rfl) _) hlt (by decide) dL_logs_184 rfl ?_
      refine j_iastN X (k := k) (wm_out hO) (fun r => (fun _ => rfl) r) hlt (by decide) dL_logs_185 rfl ?_
      refine j_name (fun S1 eS1 => ?_)
      refine j_iinc X dL_logs_186 rfl (q := 0) rfl (v := (nI (k + 1))) (nI_1 _) (by decide) (Ls2 := [(9, .int (nI (k + 1))), (0, .ref (zA Z (6) (0) (0))), (1, .ref (zA Z (8) (0) (0))), (2, .long (hv)), (4, .int (b1)), (5, .int (nI (kk))), (6, .int (tt)), (7, .int (rd)), (8, .int (wr))]) rfl ?_
      refine j_goto X (tgt := 148) dL_logs_189 (by decide) ?_
      have eB : (lgF kk wr) k S = S1 := by subst eS1; first | with_reducible rfl | (simp [lgF, rHas, c_166]; done) | (simp_all [lgF, rHas]; done) | rfl
      have eL : lp (lgF kk wr) (n + 1) k S = lp (lgF kk wr) n (k + 1) S1 := congrArg (lp (lgF kk wr) n (k + 1)) eB
      rw [eL] at hk
      exact ih (k + 1) S1 (by omega) (by subst eS1; rw [sF_ne (by omega)]; exact hI) hk
    · refine j_aload_n X dL_logs_169 rfl rfl (q := 1) rfl ?_
      refine j_iload X dL_logs_170 rfl (q := 5) rfl ?_
      refine j_iload X dL_logs_172 rfl (q := 0) rfl ?_
      refine j_iconst X dL_logs_174 rfl (v := 1) (by decide) ?_
      refine j_callQW X hSt hZ (w_commitValue l Z S S h (nI (kk)) (nI (k)) true _ (c_X5_commitValue l Z S h kk (hasE_n hI hq4 hkk).1 (hasE_n hI hq4 hkk).2 k hlt true)) lk_RL_125 mt_L_commitValue ini_RL mc_L_commitValue md_L_commitValue ⟨Nat.le_of_ble_eq_true rfl, Nat.le_of_ble_eq_true rfl⟩ ⟨Nat.le_of_ble_eq_true rfl, Nat.le_of_ble_eq_true rfl⟩ rfl (Nat.le_of_ble_eq_true rfl) (as := [.ref (zA Z (6) (0) (0)), .int (nI (kk)), .int (nI (k)), .int (1)]) (rest := [.int (nI (k)), .ref (zA Z (8) (0) (0))]) rfl dL_logs_175 rfl ?_
      refine j_topeq (y := (S 0 4 10 (kk * 8 + k))) (if_pos rfl) ?_
      refine j_goto X (tgt := 185) dL_logs_178 (by decide) ?_
      refine j_iastN X (k := k) (wm_out hO) (fun r => (fun _ => rfl) r) hlt (by decide) dL_logs_185 rfl ?_
      refine j_name (fun S2 eS2 => ?_)
      refine j_iinc X dL_logs_186 rfl (q := 0) rfl (v := (nI (k + 1))) (nI_1 _) (by decide) (Ls2 := [(9, .int (nI (k + 1))), (0, .ref (zA Z (6) (0) (0))), (1, .ref (zA Z (8) (0) (0))), (2, .long (hv)), (4, .int (b1)), (5, .int (nI (kk))), (6, .int (tt)), (7, .int (rd)), (8, .int (wr))]) rfl ?_
      refine j_goto X (tgt := 148) dL_logs_189 (by decide) ?_
      have eB : (lgF kk wr) k S = S2 := by subst eS2; first | with_reducible rfl | (simp [lgF, rHas, c_166]; done) | (simp_all [lgF, rHas]; done) | rfl
      have eL : lp (lgF kk wr) (n + 1) k S = lp (lgF kk wr) n (k + 1) S2 := congrArg (lp (lgF kk wr) n (k + 1)) eB
      rw [eL] at hk
      exact ih (k + 1) S2 (by omega) (by subst eS2; rw [sF_ne (by omega)]; exact hI) hk
set_option maxRecDepth 100000 in
set_option maxHeartbeats 4000000 in
theorem L_lgO (l : Launch) (Z : wZ) (h : Hl) (hO : zO Z = true) (nn : Nat) (hn4 : nn ≤ 4) (qq : Nat) (hq4 : qq ≤ 400) {p : Program} {e : Env} {s : State} {mi : MethodId} {args : Array Value} {below : List Frame} {meth : Method} {c : Code} {A0 : Nat → Prop} {Q : State → Prop} (X : JX p s mi args meth c cL_logs 12 RL Z A0) (hSt : hStr s) (hZ : hZq A0 s s.heap) : ∀ (n k : Nat) (S : St) (hv : Int64) (b1 : Int32), k + n = qq → ((S 0 4 0 4 = nI nn ∧ S 0 4 4 7 = nI qq) ∧ ∀ i, i < n → lgC (lp lgO i k (S, hv, b1)) (k + i)) → J p l e { frames := 5, cells := 1, slots := 8, locals := 106 } s mi args below meth c 12 Z A0 1 8 Q ((lp (lgO) n k (S, hv, b1)).1) h [(0, .ref (zA Z (6) (0) (0))), (1, .ref (zA Z (8) (0) (0))), (4, .int ((lp (lgO) n k (S, hv, b1)).2.2))] 273 [] → J p l e { frames := 5, cells := 1, slots := 8, locals := 106 } s mi args below meth c 12 Z A0 1 8 Q S h [(5, .int (nI (k))), (0, .ref (zA Z (6) (0) (0))), (1, .ref (zA Z (8) (0) (0))), (2, .long (hv)), (4, .int (b1))] 13 [] := by
  intro n
  induction n with
  | zero =>
    intro k S hv b1 hkn hI hk
    have hkN : qq = k := by omega
    subst hkN
    refine j_iload X dL_logs_13 rfl (q := 0) rfl ?_
    refine j_aload_n X dL_logs_15 rfl rfl (q := 1) rfl ?_
    refine j_calli X (c_X5_commits l Z S h ) (wm_top (by decide)) ((fun _ => rfl) _) rfl lk_RL_120 mi_X5_commits ms_X5_commits ini_RX5 mc_X5_commits md_X5_commits ⟨Nat.le_of_ble_eq_true rfl, Nat.le_of_ble_eq_true rfl⟩ ⟨Nat.le_of_ble_eq_true rfl, Nat.le_of_ble_eq_true rfl⟩ rfl (Nat.le_of_ble_eq_true rfl) (as := []) (rest := [.int (nI (qq))]) rfl dL_logs_16 rfl ?_
    refine j_topeq (y := nI qq) hI.1.2 ?_
    refine j_icmp_ge_t X (tgt := 273) dL_logs_19 (by decide) (nI_le (Nat.le_refl _) (by omega)) ?_
    refine j_sub [1, 2, 4] (Ls2 := [(0, .ref (zA Z (6) (0) (0))), (1, .ref (zA Z (8) (0) (0))), (4, .int (b1))]) rfl ?_
    exact hk
  | succ n ih =>
    intro k S hv b1 hkn hI hk
    have hlt : k < qq := by omega
    refine j_iload X dL_logs_13 rfl (q := 0) rfl ?_
    refine j_aload_n X dL_logs_15 rfl rfl (q := 1) rfl ?_
    refine j_calli X (c_X5_commits l Z S h ) (wm_top (by decide)) ((fun _ => rfl) _) rfl lk_RL_120 mi_X5_commits ms_X5_commits ini_RX5 mc_X5_commits md_X5_commits ⟨Nat.le_of_ble_eq_true rfl, Nat.le_of_ble_eq_true rfl⟩ ⟨Nat.le_of_ble_eq_true rfl, Nat.le_of_ble_eq_true rfl⟩ rfl (Nat.le_of_ble_eq_true rfl) (as := []) (rest := [.int (nI (k))]) rfl dL_logs_16 rfl ?_
    refine j_topeq (y := nI qq) hI.1.2 ?_
    refine j_icmp_ge_f X dL_logs_19 rfl (tgt := 273) (by decide) (nI_ge hlt (by omega)) ?_
    have hKk : lgC (S, hv, b1) k := hI.2 0 (by omega)
    refine j_aload_n X dL_logs_22 rfl rfl (q := 1) rfl ?_
    refine j_iload X dL_logs_23 rfl (q := 0) rfl ?_
    refine j_iconst X dL_logs_25 rfl (v := 1) (by decide) ?_
    refine j_callQW X hSt hZ (w_commit l Z S S h (nI (k)) (1) _ (c_X5_commit l Z S h k (hasE_n hI.1.2 hq4 hlt).1 (hasE_n hI.1.2 hq4 hlt).2 1 (by decide))) lk_RL_123 mt_L_commit ini_RL mc_L_commit md_L_commit ⟨Nat.le_of_ble_eq_true rfl, Nat.le_of_ble_eq_true rfl⟩ ⟨Nat.le_of_ble_eq_true rfl, Nat.le_of_ble_eq_true rfl⟩ rfl (Nat.le_of_ble_eq_true rfl) (as := [.ref (zA Z (6) (0) (0)), .int (nI (k)), .int (1)]) (rest := []) rfl dL_logs_26 rfl ?_
    refine j_topeq (y := (S 0 4 6 k)) rfl ?_
    refine j_istore X dL_logs_29 rfl (by decide) (Ls2 := [(6, .int (S 0 4 6 k)), (5, .int (nI (k))), (0, .ref (zA Z (6) (0) (0))), (1, .ref (zA Z (8) (0) (0))), (2, .long (hv)), (4, .int (b1))]) rfl ?_
    refine j_aload_n X dL_logs_31 rfl rfl (q := 2) rfl ?_
    refine j_iload X dL_logs_32 rfl (q := 1) rfl ?_
    refine j_iconst X dL_logs_34 rfl (v := 2) (by decide) ?_
    refine j_callQW X hSt hZ (w_commit l Z S S h (nI (k)) (2) _ (c_X5_commit l Z S h k (hasE_n hI.1.2 hq4 hlt).1 (hasE_n hI.1.2 hq4 hlt).2 2 (by decide))) lk_RL_123 mt_L_commit ini_RL mc_L_commit md_L_commit ⟨Nat.le_of_ble_eq_true rfl, Nat.le_of_ble_eq_true rfl⟩ ⟨Nat.le_of_ble_eq_true rfl, Nat.le_of_ble_eq_true rfl⟩ rfl (Nat.le_of_ble_eq_true rfl) (as := [.ref (zA Z (6) (0) (0)), .int (nI (k)), .int (2)]) (rest := []) rfl dL_logs_35 rfl ?_
    refine j_topeq (y := (S 0 4 7 k)) rfl ?_
    refine j_istore X dL_logs_38 rfl (by decide) (Ls2 := [(7, .int (S 0 4 7 k)), (6, .int (S 0 4 6 k)), (5, .int (nI (k))), (0, .ref (zA Z (6) (0) (0))), (1, .ref (zA Z (8) (0) (0))), (2, .long (hv)), (4, .int (b1))]) rfl ?_
    refine j_aload_n X dL_logs_40 rfl rfl (q := 3) rfl ?_
    refine j_iload X dL_logs_41 rfl (q := 2) rfl ?_
    refine j_iconst X dL_logs_43 rfl (v := 3) (by decide) ?_
    refine j_callQW X hSt hZ (w_commit l Z S S h (nI (k)) (3) _ (c_X5_commit l Z S h k (hasE_n hI.1.2 hq4 hlt).1 (hasE_n hI.1.2 hq4 hlt).2 3 (by decide))) lk_RL_123 mt_L_commit ini_RL mc_L_commit md_L_commit ⟨Nat.le_of_ble_eq_true rfl, Nat.le_of_ble_eq_true rfl⟩ ⟨Nat.le_of_ble_eq_true rfl, Nat.le_of_ble_eq_true rfl⟩ rfl (Nat.le_of_ble_eq_true rfl) (as := [.ref (zA Z (6) (0) (0)), .int (nI (k)), .int (3)]) (rest := []) rfl dL_logs_44 rfl ?_
    refine j_topeq (y := (S 0 4 8 k)) rfl ?_
    refine j_istore X dL_logs_47 rfl (by decide) (Ls2 := [(8, .int (S 0 4 8 k)), (7, .int (S 0 4 7 k)), (6, .int (S 0 4 6 k)), (5, .int (nI (k))), (0, .ref (zA Z (6) (0) (0))), (1, .ref (zA Z (8) (0) (0))), (2, .long (hv)), (4, .int (b1))]) rfl ?_
    refine j_iconst X dL_logs_49 rfl (v := 0) (by decide) ?_
    refine j_istore X dL_logs_50 rfl (by decide) (Ls2 := [(9, .int (0)), (8, .int (S 0 4 8 k)), (7, .int (S 0 4 7 k)), (6, .int (S 0 4 6 k)), (5, .int (nI (k))), (0, .ref (zA Z (6) (0) (0))), (1, .ref (zA Z (8) (0) (0))), (2, .long (hv)), (4, .int (b1))]) rfl ?_
    refine j_sub [0, 5, 6, 7, 8, 4, 3, 2, 1] (Ls2 := [(9, .int (0)), (0, .ref (zA Z (6) (0) (0))), (1, .ref (zA Z (8) (0) (0))), (2, .long (hv)), (4, .int (b1)), (5, .int (nI (k))), (6, .int (S 0 4 6 k)), (7, .int (S 0 4 7 k)), (8, .int (S 0 4 8 k))]) rfl ?_
    refine L_lgA l Z h S hO nn hI.1.1 hn4 qq hI.1.2 hq4 k hlt (S 0 4 6 k) (S 0 4 7 k) (S 0 4 8 k) hv b1 hKk.1 X hSt hZ 8 0 (by omega) ?_
    refine j_iconst X dL_logs_145 rfl (v := 0) (by decide) ?_
    refine j_istore X dL_logs_146 rfl (by decide) (Ls2 := [(9, .int (0)), (0, .ref (zA Z (6) (0) (0))), (1, .ref (zA Z (8) (0) (0))), (2, .long (hv)), (4, .int (b1)), (5, .int (nI (k))), (6, .int (S 0 4 6 k)), (7, .int (S 0 4 7 k)), (8, .int (S 0 4 8 k))]) rfl ?_
    refine j_sub [0, 1, 2, 3, 4, 5, 6, 7, 8] (Ls2 := [(9, .int (0)), (0, .ref (zA Z (6) (0) (0))), (1, .ref (zA Z (8) (0) (0))), (2, .long (hv)), (4, .int (b1)), (5, .int (nI (k))), (6, .int (S 0 4 6 k)), (7, .int (S 0 4 7 k)), (8, .int (S 0 4 8 k))]) rfl ?_
    refine L_lgB l Z h hO qq hq4 k hlt (S 0 4 6 k) (S 0 4 7 k) (S 0 4 8 k) hv b1 X hSt hZ 8 0 S (by omega) hI.1.2 ?_
    refine j_name (fun S1 eS1 => ?_)
    refine j_iload X dL_logs_192 rfl (q := 5) rfl ?_
    refine j_if_lt X dL_logs_194 rfl (tgt := 251) (by decide) (fun c_194 => ?_) (fun c_194 => ?_)
    · refine j_iload X dL_logs_251 rfl (q := 6) rfl ?_
      refine j_if_ne_f X dL_logs_253 rfl (tgt := 265) (by decide) (hKk.2.2 c_194).1 ?_
      refine j_iload X dL_logs_256 rfl (q := 7) rfl ?_
      refine j_callQ X hSt hZ (c_L_size l Z S1 h (S 0 4 8 k) (hKk.2.2 c_194).2.1) lk_RL_111 mt_L_size ini_RL mc_L_size md_L_size ⟨Nat.le_of_ble_eq_true rfl, Nat.le_of_ble_eq_true rfl⟩ ⟨Nat.le_of_ble_eq_true rfl, Nat.le_of_ble_eq_true rfl⟩ rfl (Nat.le_of_ble_eq_true rfl) (as := [.int (S 0 4 8 k)]) (rest := []) rfl dL_logs_258 rfl ?_
      refine j_iconst X dL_logs_261 rfl (v := 1) (by decide) ?_
      refine j_icmp_eq_t X (tgt := 267) dL_logs_262 (by decide) (hKk.2.2 c_194).2.2 ?_
      refine j_iinc X dL_logs_267 rfl (q := 4) rfl (v := (nI (k + 1))) (nI_1 _) (by decide) (Ls2 := [(5, .int (nI (k + 1))), (0, .ref (zA Z (6) (0) (0))), (1, .ref (zA Z (8) (0) (0))), (2, .long (hv)), (4, .int (b1)), (6, .int (S 0 4 6 k)), (7, .int (S 0 4 7 k)), (8, .int (S 0 4 8 k))]) rfl ?_
      refine j_goto X (tgt := 13) dL_logs_270 (by decide) ?_
      refine j_sub [0, 1, 2, 3, 4] (Ls2 := [(5, .int (nI (k + 1))), (0, .ref (zA Z (6) (0) (0))), (1, .ref (zA Z (8) (0) (0))), (2, .long (hv)), (4, .int (b1))]) rfl ?_
      have eB : (lgO) k (S, hv, b1) = (S1, (hv), (b1)) := by subst eS1; first | with_reducible rfl | (simp [lgO, c_194]; done) | (simp_all [lgO]; done) | rfl
      have eL : lp (lgO) (n + 1) k (S, hv, b1) = lp (lgO) n (k + 1) (S1, (hv), (b1)) := congrArg (lp (lgO) n (k + 1)) eB
      rw [eL] at hk
      exact ih (k + 1) S1 ((hv)) ((b1)) (by omega) (by subst eS1; refine ⟨⟨by rw [lgL_ne (by omega)]; exact hI.1.1, by rw [lgL_ne (by omega)]; exact hI.1.2⟩, fun i hi => ?_⟩; have h2 := hI.2 (i + 1) (by omega); rw [lpO_s eB, show k + (i + 1) = k + 1 + i by omega] at h2; exact h2) hk
    · refine j_iinc X dL_logs_197 rfl (q := 3) rfl (v := ((b1) + (1))) rfl (by decide) (Ls2 := [(4, .int ((b1) + (1))), (0, .ref (zA Z (6) (0) (0))), (1, .ref (zA Z (8) (0) (0))), (2, .long (hv)), (5, .int (nI (k))), (6, .int (S 0 4 6 k)), (7, .int (S 0 4 7 k)), (8, .int (S 0 4 8 k))]) rfl ?_
      refine j_iload X dL_logs_200 rfl (q := 5) rfl ?_
      refine j_aload_n X dL_logs_202 rfl rfl (q := 1) rfl ?_
      refine j_iconst X dL_logs_203 rfl (v := 4) (by decide) ?_
      refine j_callQW X hSt hZ (w_value l Z S1 S1 h (4) _ (c_X5_value l Z S1 h 4 (by decide) (ccn (by subst eS1; rw [lgL_ne (by omega)]; exact hI.1.1) hn4))) lk_RL_97 mt_L_value ini_RL mc_L_value md_L_value ⟨Nat.le_of_ble_eq_true rfl, Nat.le_of_ble_eq_true rfl⟩ ⟨Nat.le_of_ble_eq_true rfl, Nat.le_of_ble_eq_true rfl⟩ rfl (Nat.le_of_ble_eq_true rfl) (as := [.ref (zA Z (6) (0) (0)), .int (4)]) (rest := [.int (S 0 4 6 k)]) rfl dL_logs_204 rfl ?_
      refine j_icmp_ge_f X dL_logs_207 rfl (tgt := 228) (by decide) (by rw [show pMFact S1 0 4 = S 0 4 0 8 from (by subst eS1; show lp (lgF k (S 0 4 8 k)) 8 0 S 0 4 0 8 = S 0 4 0 8; exact lgL_ne (by omega) 8 0 S)]; exact (hKk.2.1 c_194).1) ?_
      refine j_iload X dL_logs_210 rfl (q := 5) rfl ?_
      refine j_bipush X dL_logs_212 rfl (v := 63) (by decide) ?_
      refine j_icmp_ge X dL_logs_214 rfl (tgt := 230) (by decide) (fun c_214 => ?_) (fun c_214 => ?_)
      · refine j_lload_n X dL_logs_230 rfl rfl (q := 3) rfl ?_
        refine j_iload X dL_logs_231 rfl (q := 5) rfl ?_
        refine j_bipush X dL_logs_233 rfl (v := 63) (by decide) ?_
        refine j_icmp_ge_t X (tgt := 245) dL_logs_235 (by decide) c_214 ?_
        refine j_lconst X dL_logs_245 rfl (v := 0) (by decide) ?_
        refine j_lor X dL_logs_246 rfl ?_
        refine j_lstore_n X dL_logs_247 rfl rfl (by decide) (Ls2 := [(2, .long ((hv) ||| (0))), (4, .int ((b1) + (1))), (0, .ref (zA Z (6) (0) (0))), (1, .ref (zA Z (8) (0) (0))), (5, .int (nI (k))), (6, .int (S 0 4 6 k)), (7, .int (S 0 4 7 k)), (8, .int (S 0 4 8 k))]) rfl ?_
        refine j_goto X (tgt := 267) dL_logs_248 (by decide) ?_
        refine j_iinc X dL_logs_267 rfl (q := 4) rfl (v := (nI (k + 1))) (nI_1 _) (by decide) (Ls2 := [(5, .int (nI (k + 1))), (2, .long ((hv) ||| (0))), (4, .int ((b1) + (1))), (0, .ref (zA Z (6) (0) (0))), (1, .ref (zA Z (8) (0) (0))), (6, .int (S 0 4 6 k)), (7, .int (S 0 4 7 k)), (8, .int (S 0 4 8 k))]) rfl ?_
        refine j_goto X (tgt := 13) dL_logs_270 (by decide) ?_
        refine j_sub [0, 3, 4, 1, 2] (Ls2 := [(5, .int (nI (k + 1))), (0, .ref (zA Z (6) (0) (0))), (1, .ref (zA Z (8) (0) (0))), (2, .long ((hv) ||| (0))), (4, .int ((b1) + (1)))]) rfl ?_
        have eB : (lgO) k (S, hv, b1) = (S1, ((hv) ||| (0)), ((b1) + (1))) := by subst eS1; first | with_reducible rfl | (simp [lgO, c_194, c_214]; done) | (simp_all [lgO]; done) | rfl
        have eL : lp (lgO) (n + 1) k (S, hv, b1) = lp (lgO) n (k + 1) (S1, ((hv) ||| (0)), ((b1) + (1))) := congrArg (lp (lgO) n (k + 1)) eB
        rw [eL] at hk
        exact ih (k + 1) S1 (((hv) ||| (0))) (((b1) + (1))) (by omega) (by subst eS1; refine ⟨⟨by rw [lgL_ne (by omega)]; exact hI.1.1, by rw [lgL_ne (by omega)]; exact hI.1.2⟩, fun i hi => ?_⟩; have h2 := hI.2 (i + 1) (by omega); rw [lpO_s eB, show k + (i + 1) = k + 1 + i by omega] at h2; exact h2) hk
      · refine j_lload_n X dL_logs_217 rfl rfl (q := 3) rfl ?_
        refine j_iload X dL_logs_218 rfl (q := 5) rfl ?_
        refine j_lshr X dL_logs_220 rfl ?_
        refine j_lconst X dL_logs_221 rfl (v := 1) (by decide) ?_
        refine j_land X dL_logs_222 rfl ?_
        refine j_lconst X dL_logs_223 rfl (v := 1) (by decide) ?_
        refine j_lcmp X dL_logs_224 rfl ?_
        refine j_if_ne_t X (tgt := 230) dL_logs_225 (by decide) ((hKk.2.1 c_194).2 c_214) ?_
        refine j_lload_n X dL_logs_230 rfl rfl (q := 3) rfl ?_
        refine j_iload X dL_logs_231 rfl (q := 5) rfl ?_
        refine j_bipush X dL_logs_233 rfl (v := 63) (by decide) ?_
        refine j_icmp_ge_f X dL_logs_235 rfl (tgt := 245) (by decide) c_214 ?_
        refine j_lconst X dL_logs_238 rfl (v := 1) (by decide) ?_
        refine j_iload X dL_logs_239 rfl (q := 5) rfl ?_
        refine j_lshl X dL_logs_241 rfl ?_
        refine j_goto X (tgt := 246) dL_logs_242 (by decide) ?_
        refine j_lor X dL_logs_246 rfl ?_
        refine j_lstore_n X dL_logs_247 rfl rfl (by decide) (Ls2 := [(2, .long ((hv) ||| ((1) <<< (((S 0 4 6 k)).toInt64 &&& 63)))), (4, .int ((b1) + (1))), (0, .ref (zA Z (6) (0) (0))), (1, .ref (zA Z (8) (0) (0))), (5, .int (nI (k))), (6, .int (S 0 4 6 k)), (7, .int (S 0 4 7 k)), (8, .int (S 0 4 8 k))]) rfl ?_
        refine j_goto X (tgt := 267) dL_logs_248 (by decide) ?_
        refine j_iinc X dL_logs_267 rfl (q := 4) rfl (v := (nI (k + 1))) (nI_1 _) (by decide) (Ls2 := [(5, .int (nI (k + 1))), (2, .long ((hv) ||| ((1) <<< (((S 0 4 6 k)).toInt64 &&& 63)))), (4, .int ((b1) + (1))), (0, .ref (zA Z (6) (0) (0))), (1, .ref (zA Z (8) (0) (0))), (6, .int (S 0 4 6 k)), (7, .int (S 0 4 7 k)), (8, .int (S 0 4 8 k))]) rfl ?_
        refine j_goto X (tgt := 13) dL_logs_270 (by decide) ?_
        refine j_sub [0, 3, 4, 1, 2] (Ls2 := [(5, .int (nI (k + 1))), (0, .ref (zA Z (6) (0) (0))), (1, .ref (zA Z (8) (0) (0))), (2, .long ((hv) ||| ((1) <<< (((S 0 4 6 k)).toInt64 &&& 63)))), (4, .int ((b1) + (1)))]) rfl ?_
        have eB : (lgO) k (S, hv, b1) = (S1, ((hv) ||| ((1) <<< (((S 0 4 6 k)).toInt64 &&& 63))), ((b1) + (1))) := by subst eS1; first | with_reducible rfl | (simp [lgO, c_194, c_214]; done) | (simp_all [lgO]; done) | rfl
        have eL : lp (lgO) (n + 1) k (S, hv, b1) = lp (lgO) n (k + 1) (S1, ((hv) ||| ((1) <<< (((S 0 4 6 k)).toInt64 &&& 63))), ((b1) + (1))) := congrArg (lp (lgO) n (k + 1)) eB
        rw [eL] at hk
        exact ih (k + 1) S1 (((hv) ||| ((1) <<< (((S 0 4 6 k)).toInt64 &&& 63)))) (((b1) + (1))) (by omega) (by subst eS1; refine ⟨⟨by rw [lgL_ne (by omega)]; exact hI.1.1, by rw [lgL_ne (by omega)]; exact hI.1.2⟩, fun i hi => ?_⟩; have h2 := hI.2 (i + 1) (by omega); rw [lpO_s eB, show k + (i + 1) = k + 1 + i by omega] at h2; exact h2) hk
set_option maxRecDepth 100000 in
set_option maxHeartbeats 4000000 in
theorem L_lgM (l : Launch) (Z : wZ) (h : Hl) (S : St) (hO : zO Z = true) (nn : Nat) (hn : S 0 4 0 4 = nI nn) (hn4 : nn ≤ 4) (b1 : Int32) (hM : ∀ l, l < 8 → pCom S 0 l = S 8 0 0 l) {p : Program} {e : Env} {s : State} {mi : MethodId} {args : Array Value} {below : List Frame} {meth : Method} {c : Code} {A0 : Nat → Prop} {Q : State → Prop} (X : JX p s mi args meth c cL_logs 12 RL Z A0) (hSt : hStr s) (hZ : hZq A0 s s.heap) : ∀ (n k : Nat), k + n = 8 → J p l e { frames := 5, cells := 1, slots := 8, locals := 106 } s mi args below meth c 12 Z A0 1 8 Q S h [(0, .ref (zA Z (6) (0) (0))), (4, .int (b1))] 305 [] → J p l e { frames := 5, cells := 1, slots := 8, locals := 106 } s mi args below meth c 12 Z A0 1 8 Q S h [(5, .int (nI (k))), (0, .ref (zA Z (6) (0) (0))), (1, .ref (zA Z (8) (0) (0))), (4, .int (b1))] 276 [] := by
  intro n
  induction n with
  | zero =>
    intro k hkn hk
    have hkN : 8 = k := by omega
    subst hkN
    refine j_iload X dL_logs_276 rfl (q := 0) rfl ?_
    refine j_bipush X dL_logs_278 rfl (v := 8) (by decide) ?_
    refine j_icmp_ge_t X (tgt := 305) dL_logs_280 (by decide) (nI_le (Nat.le_refl _) (by decide)) ?_
    refine j_sub [1, 3] (Ls2 := [(0, .ref (zA Z (6) (0) (0))), (4, .int (b1))]) rfl ?_
    exact hk
  | succ n ih =>
    intro k hkn hk
    have hlt : k < 8 := by omega
    refine j_iload X dL_logs_276 rfl (q := 0) rfl ?_
    refine j_bipush X dL_logs_278 rfl (v := 8) (by decide) ?_
    refine j_icmp_ge_f X dL_logs_280 rfl (tgt := 305) (by decide) (nI_ge hlt (by decide)) ?_
    refine j_aload_n X dL_logs_283 rfl rfl (q := 1) rfl ?_
    refine j_iload X dL_logs_284 rfl (q := 0) rfl ?_
    refine j_iconst X dL_logs_286 rfl (v := 1) (by decide) ?_
    refine j_callQW X hSt hZ (w_memory l Z S S h (nI (k)) true _ (c_X5_memory l Z S h k hlt true (ccn hn hn4))) lk_RL_99 mt_L_memory ini_RL mc_L_memory md_L_memory ⟨Nat.le_of_ble_eq_true rfl, Nat.le_of_ble_eq_true rfl⟩ ⟨Nat.le_of_ble_eq_true rfl, Nat.le_of_ble_eq_true rfl⟩ rfl (Nat.le_of_ble_eq_true rfl) (as := [.ref (zA Z (6) (0) (0)), .int (nI (k)), .int (1)]) (rest := []) rfl dL_logs_287 rfl ?_
    refine j_topeq (y := (pCom S 0 k)) (if_pos rfl) ?_
    refine j_aload_n X dL_logs_290 rfl rfl (q := 2) rfl ?_
    refine j_iload X dL_logs_291 rfl (q := 0) rfl ?_
    refine j_ialdN X (k := k) (wm_out hO) ((fun _ => rfl) _) hlt (by decide) dL_logs_293 rfl ?_
    refine j_icmp_eq_t X (tgt := 299) dL_logs_294 (by decide) (hM k hlt) ?_
    refine j_iinc X dL_logs_299 rfl (q := 0) rfl (v := (nI (k + 1))) (nI_1 _) (by decide) (Ls2 := [(5, .int (nI (k + 1))), (0, .ref (zA Z (6) (0) (0))), (1, .ref (zA Z (8) (0) (0))), (4, .int (b1))]) rfl ?_
    refine j_goto X (tgt := 276) dL_logs_302 (by decide) ?_
    exact ih (k + 1) (by omega) hk
set_option maxRecDepth 100000 in
set_option maxHeartbeats 4000000 in
theorem logs_body (l : Launch) (Z : wZ) (hO : zO Z = true) (S : St) (h : Hl) (nn : Nat) (hn : S 0 4 0 4 = nI nn) (hn4 : nn ≤ 4) (qq : Nat) (hq : S 0 4 4 7 = nI qq) (hq4 : qq ≤ 400) (hK : ∀ i, i < qq → lgC (lp lgO i 0 (S, 0, 0)) i) (hM : ∀ l, l < 8 → pCom (lgT S qq).1 0 l = (lgT S qq).1 8 0 0 l) (hser : (pReplay (lgT S qq).1 0 6 0 7).1 = true) {p : Program} {e : Env} {s : State} {mi : MethodId} {args : Array Value} {below : List Frame} {meth : Method} {c : Code} {A0 : Nat → Prop} {Q : State → Prop} (X : JX p s mi args meth c cL_logs 12 RL Z A0) (hSt : hStr s) (hZ : hZq A0 s s.heap) (K : ∀ (Ls : List (Nat × Value)) (pc : Nat), decode cL_logs pc = .ok (.ireturn, 1) → J p l e { frames := 5, cells := 1, slots := 8, locals := 106 } s mi args below meth c 12 Z A0 1 8 Q (pReplay (lgT S qq).1 0 6 0 7).2 h Ls pc [.int (lgT S qq).2.2]) : J p l e { frames := 5, cells := 1, slots := 8, locals := 106 } s mi args below meth c 12 Z A0 1 8 Q S h [(0, .ref (zA Z 6 0 0))] 4 [.ref (zA Z 8 0 0)] := by
  refine j_astore_n X dL_logs_4 rfl rfl (by decide) (Ls2 := [(1, .ref (zA Z (8) (0) (0))), (0, .ref (zA Z (6) (0) (0)))]) rfl ?_
  refine j_lconst X dL_logs_5 rfl (v := 0) (by decide) ?_
  refine j_lstore_n X dL_logs_6 rfl rfl (by decide) (Ls2 := [(2, .long (0)), (1, .ref (zA Z (8) (0) (0))), (0, .ref (zA Z (6) (0) (0)))]) rfl ?_
  refine j_iconst X dL_logs_7 rfl (v := 0) (by decide) ?_
  refine j_istore X dL_logs_8 rfl (by decide) (Ls2 := [(4, .int (0)), (2, .long (0)), (1, .ref (zA Z (8) (0) (0))), (0, .ref (zA Z (6) (0) (0)))]) rfl ?_
  refine j_iconst X dL_logs_10 rfl (v := 0) (by decide) ?_
  refine j_istore X dL_logs_11 rfl (by decide) (Ls2 := [(5, .int (0)), (4, .int (0)), (2, .long (0)), (1, .ref (zA Z (8) (0) (0))), (0, .ref (zA Z (6) (0) (0)))]) rfl ?_
  refine j_sub [0, 4, 3, 2, 1] (Ls2 := [(5, .int (0)), (0, .ref (zA Z (6) (0) (0))), (1, .ref (zA Z (8) (0) (0))), (2, .long (0)), (4, .int (0))]) rfl ?_
  refine L_lgO l Z h hO nn hn4 qq hq4 X hSt hZ qq 0 S ((0)) ((0)) (by omega) ⟨⟨hn, hq⟩, fun i hi => by rw [Nat.zero_add]; exact hK i hi⟩ ?_
  refine j_name (fun S1 eS1 => ?_)
  refine j_iconst X dL_logs_273 rfl (v := 0) (by decide) ?_
  refine j_istore X dL_logs_274 rfl (by decide) (Ls2 := [(5, .int (0)), (0, .ref (zA Z (6) (0) (0))), (1, .ref (zA Z (8) (0) (0))), (4, .int ((lp (lgO) qq 0 (S, (0), (0))).2.2))]) rfl ?_
  refine j_sub [0, 1, 2, 3] (Ls2 := [(5, .int (0)), (0, .ref (zA Z (6) (0) (0))), (1, .ref (zA Z (8) (0) (0))), (4, .int ((lp (lgO) qq 0 (S, (0), (0))).2.2))]) rfl ?_
  refine L_lgM l Z h S1 hO nn (by subst eS1; rw [lgT_ne (by omega)]; exact hn) hn4 (lgT S qq).2.2 (by subst eS1; exact hM) X hSt hZ 8 0 (by omega) ?_
  refine j_aload_n X dL_logs_305 rfl rfl (q := 0) rfl ?_
  refine j_calli X (c_X5_serializable l Z S1 h (by subst eS1; rw [lgT_ne (by omega)]; show okI (S 0 4 4 7) 400; rw [hq]; exact okI_nI hq4 (by decide))) (wm_top (by decide)) ((fun _ => rfl) _) rfl lk_RL_128 mi_X5_serializable ms_X5_serializable ini_RX5 mc_X5_serializable md_X5_serializable ⟨Nat.le_of_ble_eq_true rfl, Nat.le_of_ble_eq_true rfl⟩ ⟨Nat.le_of_ble_eq_true rfl, Nat.le_of_ble_eq_true rfl⟩ rfl (Nat.le_of_ble_eq_true rfl) (as := []) (rest := []) rfl dL_logs_306 rfl ?_
  refine j_name (fun S2 eS2 => ?_)
  refine j_if_eq_f X dL_logs_309 rfl (tgt := 317) (by decide) (by rw [show (pReplay S1 0 6 0 7).1 = true from (by subst eS1; exact hser)]; decide) ?_
  refine j_iload X dL_logs_312 rfl (q := 1) rfl ?_
  refine j_goto X (tgt := 318) dL_logs_314 (by decide) ?_
  exact j_ret rfl (by subst eS1; subst eS2; rfl) rfl (K _ _ dL_logs_318)
set_option maxRecDepth 100000 in
set_option maxHeartbeats 4000000 in
theorem c_L_logs (l : Launch) (Z : wZ) (hO : zO Z = false) (S : St) (h : Hl) (nn : Nat) (hn : S 0 4 0 4 = nI nn) (hn4 : nn ≤ 4) (qq : Nat) (hq : S 0 4 4 7 = nI qq) (hq4 : qq ≤ 400) (hK : ∀ i, i < qq → lgC (lp lgO i 0 (upR S 8 0 0 (fun _ => 0), 0, 0)) i) (hM : ∀ l, l < 8 → pCom (lgT (upR S 8 0 0 (fun _ => 0)) qq).1 0 l = (lgT (upR S 8 0 0 (fun _ => 0)) qq).1 8 0 0 l) (hser : (pReplay (lgT (upR S 8 0 0 (fun _ => 0)) qq).1 0 6 0 7).1 = true) : Cq l yL_logs (.code yL_logs cL_logs 12 (some .int)) 1 8 5 106 Z [.ref (zA Z 6 0 0)] S h (lgT (upR S 8 0 0 (fun _ => 0)) qq).2.2 (pReplay (lgT (upR S 8 0 0 (fun _ => 0)) qq).1 0 6 0 7).2 h := by
  refine Cq.of rfl rfl rfl (Nat.le_of_ble_eq_true rfl) (fun p e s mi args below meth c A0 Q X hSt hZ K => ?_)
  refine j_at rfl rfl (Ls3 := [(0, .ref (zA Z 6 0 0))]) rfl rfl ?_
  refine j_bipush X dL_logs_0 rfl (v := 8) (by decide) ?_
  refine j_newO X hO ⟨Nat.le_of_ble_eq_true rfl, Nat.le_of_ble_eq_true rfl⟩ (List.mem_of_getElem? (i := 11) (by decide +kernel)) dL_logs_2 rfl (fun q X2 => ?_)
  have e6 : zA Z 6 0 0 = zA (zW Z q) 6 0 0 := (zW_A (by omega)).symm
  have e8 : q = zA (zW Z q) 8 0 0 := by
    show q = (if 8 = 8 ∧ 0 = 0 then q else zA Z 8 0 0)
    rw [if_pos ⟨rfl, rfl⟩]
  have B := logs_body l (zW Z q) rfl (upR S 8 0 0 (fun _ => 0)) h nn (by rw [upR_ne _ _ (by decide)]; exact hn) hn4 qq (by rw [upR_ne _ _ (by decide)]; exact hq) hq4 hK hM hser (p := p) (e := e) (below := below) (Q := Q) X2 hSt hZ (fun Ls pc hd => j_drop hO (K Ls pc hd))
  rw [← e6, ← e8] at B
  exact B

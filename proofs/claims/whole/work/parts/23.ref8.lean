/-! the field of the reference that is a long -/
theorem ws_set1 (Z : wZ) (S S' : St) (h h' : Hl) {k : Nat} {m g i : Nat} (hk : (wPl Z)[k]? = some (m, g, i)) {e : va_E} (he : wE Z h' m g i (S' m g i) = e) (ho : ∀ q : Nat × Nat × Nat, q ∈ wPl Z → q ≠ (m, g, i) → wE Z h' q.1 q.2.1 q.2.2 (S' q.1 q.2.1 q.2.2) = wE Z h q.1 q.2.1 q.2.2 (S q.1 q.2.1 q.2.2)) : (ws Z S h).set k (zA Z m g i, e) = ws Z S' h' := by
  apply List.ext_getElem?
  intro j
  by_cases hj : k = j
  · subst hj
    have hlt : k < (ws Z S h).length := (List.getElem?_eq_some_iff.mp (ws_get Z S h hk)).1
    rw [List.getElem?_set_self hlt, ws_get Z S' h' hk, ← he]
  · rw [List.getElem?_set_ne hj]
    cases hq : (wPl Z)[j]? with
    | none =>
      unfold ws
      rw [List.getElem?_map, List.getElem?_map, hq]
      rfl
    | some q =>
      rw [ws_get Z S h hq, ws_get Z S' h' hq, ho q (List.mem_of_getElem? hq) ?_]
      intro hqe
      subst hqe
      obtain ⟨h1, e1⟩ := List.getElem?_eq_some_iff.mp hk
      obtain ⟨h2, e2⟩ := List.getElem?_eq_some_iff.mp hq
      exact hj ((List.getElem_inj (wPl_nodup Z)).mp (e1.trans e2.symm))
theorem wPl_7 (Z : wZ) : ∀ q ∈ wPl Z, q.1 = 7 → q.2.1 = 0 := by
  unfold wPl
  generalize zO Z = b
  cases b <;> decide +kernel
theorem wPl_8 (Z : wZ) : ∀ q ∈ wPl Z, 7 < q.1 → q = (8, 0, 0) := by
  unfold wPl
  generalize zO Z = b
  cases b <;> decide +kernel
theorem wE_h0 {Z : wZ} {h : Hl} {x : Int64} {q : Nat × Nat × Nat} {r : Nat → Int32} (hq : q ∈ wPl Z) (hn : q ≠ (7, 0, 0)) : wE Z (va_up h 0 x) q.1 q.2.1 q.2.2 r = wE Z h q.1 q.2.1 q.2.2 r := by
  unfold wE
  split
  · rfl
  · split
    · rfl
    · split
      · rename_i h7
        have hg := wPl_7 Z q hq h7
        have hi : q.2.2 ≠ 0 := by
          intro hz; apply hn
          obtain ⟨a, b, c⟩ := q
          simp only at h7 hg hz
          subst h7; subst hg; subst hz; rfl
        unfold rE
        split
        · rename_i hz; exact absurd hz hi
        all_goals rfl
      · rfl
theorem wE_h1 {Z : wZ} {h : Hl} {x : Int64} {q : Nat × Nat × Nat} {r : Nat → Int32} (hq : q ∈ wPl Z) (hn : q ≠ (8, 0, 0)) : wE Z (va_up h 1 x) q.1 q.2.1 q.2.2 r = wE Z h q.1 q.2.1 q.2.2 r := by
  unfold wE
  split
  · rfl
  · split
    · rfl
    · split
      · unfold rE
        split <;> rfl
      · rename_i h1 h2 h3
        exact absurd (wPl_8 Z q hq (by omega)) hn
section JL
variable {p : Program} {l : Launch} {e : Env} {R : Room} {s : State} {m : MethodId} {args : Array Value} {below : List Frame} {meth : Method} {c : Code} {n : Nat} {Z : wZ} {A0 : Nat → Prop} {cells slots : Nat} {Q : State → Prop} {cc : ByteArray} {own : String} {S : St} {h : Hl} {Ls : List (Nat × Value)} {pc pc2 : Nat} {st : List Value}
theorem jpl_model (X : JX p s m args meth c cc n own Z A0) {index : Nat} {x : Int64} (hlink : Cond.fieldLink own index (TX6 16).1 (TX6 16).2.1 (TX6 16).2.2.1 ∈ wsL_law) (hdg : decode cc pc = .ok (.putfield index, 3)) (hp : pc + 3 = pc2) (kk : J p l e R s m args below meth c n Z A0 cells slots Q S (va_up h 0 x) Ls pc2 st) : J p l e R s m args below meth c n Z A0 cells slots Q S h Ls pc (.long x :: .ref (zA Z 7 0 0) :: st) := by
  subst hp
  intro H locs ls hP hS hl
  obtain ⟨q0, hw0, hw⟩ := ws_at Z S h (wm_ref (i := 0) (by decide))
  rw [show wE Z h 7 0 0 (S 7 0 0) = .inr (6, eModel Z h (S 7 0 0)) from rfl] at hw
  refine va_put X.1 X.2.1 X.2.2.2.2.1 inlX6 tyX6 tyX6_ok nmX6 X.2.2.2.1 X.2.2.2.2.2.2.1 hP (X.2.2.2.2.2.2.2.1 S h) hS q0 hw rfl 16 (by decide) (X.2.2.2.2.1 _ hlink) (fun _ h9 => h9) rfl (ty := .long) rfl rfl rfl (Nat.le_of_ble_eq_true rfl) hdg (fun H1 locs1 hP1 _ hS1 => ?_)
  rw [ws_set1 Z S S h (va_up h 0 x) hw0 (e := .inr (6, (eModel Z h (S 7 0 0)).set 16 (.long x))) rfl (fun q hq hn => wE_h0 hq hn)] at hP1
  exact kk H1 locs1 ls hP1 hS1 hl
theorem j_nameh (k : ∀ h2 : Hl, h2 = h → J p l e R s m args below meth c n Z A0 cells slots Q S h2 Ls pc st) : J p l e R s m args below meth c n Z A0 cells slots Q S h Ls pc st := k h rfl
end JL
def rMix (h : Hl) (v : Int64) : Hl := va_up h 0 (31 * h 0 + v)
def rMcA (S : St) (a k : Nat) (h : Hl) : Hl := rMix h (rCoreO S a k).toInt64
def rMcB (S : St) (a k : Nat) (h : Hl) : Hl := rMix (rMix h (rOf S a (20 + k)).toInt64) (rOf S a (28 + k)).toInt64
def rMcC (S : St) (a : Nat) (h : Hl) : Hl := lp (rMcB S a) 8 0 (rMix (rMix (lp (rMcA S a) 6 0 h) (rOf S a 7).toInt64) (rOf S a 8).toInt64)
def rDg1 (S : St) (k : Nat) (h : Hl) : Hl := rMix h (rValO S k).toInt64
def rDg2 (S : St) (k : Nat) (h : Hl) : Hl := rMcC S k h
def rDg3 (S : St) (w : Bool) (k : Nat) (h : Hl) : Hl := rMix h (rMem S k w).toInt64
def rDg5 (S : St) (k : Nat) (h : Hl) : Hl := rMix h (S 7 0 1 (13 + k)).toInt64
def rDgH (S : St) (h : Hl) : Hl :=
  rMix (rMix (lp (rDg5 S) 8 0 (lp (rDg3 S true) 8 0 (lp (rDg3 S false) 8 0 (lp (rDg2 S) (rCC S) 0 (rMix (lp (rDg1 S) 5 0 (rMix (va_up h 0 3011) (S 7 0 0 7).toInt64)) (S 7 0 1 3).toInt64))))) (S 7 0 1 21).toInt64) (S 7 0 0 5).toInt64
/-! serializable -/
theorem lp_inv {σ : Type} (f : Nat → σ → σ) (P : σ → Prop) (h : ∀ k S, P S → P (f k S)) : ∀ (n k : Nat) (S : σ), P S → P (lp f n k S)
  | 0, _, _, hS => hS
  | n + 1, k, S, hS => lp_inv f P h n (k + 1) (f k S) (h k S hS)
theorem lp_s {σ : Type} {f : Nat → σ → σ} {k i : Nat} {S T : σ} (h : f k S = T) : lp f (i + 1) k S = lp f i (k + 1) T := by rw [lp, h]
theorem rSer_b (S : St) : (rSer S).2 = bI (decide ((rSer S).2 = 1)) := by
  have h : (rSer S).2 = 0 ∨ (rSer S).2 = 1 := by
    unfold rSer
    refine lp_inv rSeK (fun q => q.2 = 0 ∨ q.2 = 1) (fun k q hq => ?_) _ 0 _ (Or.inr rfl)
    dsimp only [rSeK]
    refine lp_inv _ (fun b => b = 0 ∨ b = 1) (fun j b hb => ?_) _ 0 _ hq
    dsimp only [rSeF]
    split
    · exact Or.inl rfl
    · split
      · split
        · exact Or.inr rfl
        · exact Or.inl rfl
      · exact Or.inr rfl
  rcases h with h | h
  · rw [h]; rfl
  · rw [h]; rfl
/-! trials -/
def okRs (S : St) (b : Nat) : Prop := ∀ i, i ≤ b → (lpE rRunF i 0 S).1 = true → okR (lpE rRunF i 0 S).2
def okDs (S : St) (m b : Nat) : Prop := ∀ i, i ≤ b → (lpE (pOftF m) i 0 S).1 = true → okD (lpE (pOftF m) i 0 S).2 m
def rRunQ (S : St) (b : Nat) : St := rRuns (rKeep (rCd S 0)) b
def rFoL (S : St) (x : Int32) : Bool × St × Int32 := rUntL (rBegT S x)
def rFoN (S : St) (x : Int32) : Int32 := if rFinC (rFoL S x).2.1 = (rFoL S x).2.1 7 0 1 0 then (if (rFoL S x).1 = true then 2000 else (rFoL S x).2.2) else -1
def rFoS (S : St) (x : Int32) : St := rEndT (rFoL S x).2.1
def okF (S : St) (x : Int32) : Prop := (∀ i, i ≤ 2000 → (lpE rUntF i 0 (rBegT S x, 0)).1 = true → okR (lpE rUntF i 0 (rBegT S x, 0)).2.1) ∧ okI ((rFoL S x).2.1 7 0 1 0) 4
def rAbW (S : St) (x : Int32) (b : Nat) : Int32 := (rRuns (rBegT S x) b 7 0 1 18 + rRuns (rBegT S x) b 7 0 1 19) - (rBegT S x 7 0 1 18 + rBegT S x 7 0 1 19)
def rBesF (k : Nat) (q : St × Int32 × Int32) : St × Int32 × Int32 :=
  if rFoN q.1 (nI k) = -1 then (rFoS q.1 (nI k), q.2.1, q.2.2) else if q.2.1 = -1 then (rFoS q.1 (nI k), nI k, rFoN q.1 (nI k)) else if q.2.2 ≤ rFoN q.1 (nI k) then (rFoS q.1 (nI k), q.2.1, q.2.2) else (rFoS q.1 (nI k), nI k, rFoN q.1 (nI k))
def rBest (S : St) : St × Int32 × Int32 := lp rBesF 3 0 (rCd S 0, -1, 0)
def pRunS (S : St) (b : Nat) : St := pOft (pSave S) 0 b
def pFoL (S : St) (x : Int32) : Int32 × St := pUnt (pTrial S x) 1
def okT (S : St) (x : Int32) : Prop := okI (S 0 4 4 7) 400 ∧ ∀ i, i ≤ 2000 → (lpE (pUntF 1) i 0 (pTrial S x, 0)).1 = true → okD (lpE (pUntF 1) i 0 (pTrial S x, 0)).2.1 1
def pBesF (k : Nat) (q : St × Int32 × Int32) : St × Int32 × Int32 :=
  if (pFoL q.1 (nI k)).1 = -1 then ((pFoL q.1 (nI k)).2, q.2.1, q.2.2) else if q.2.1 = -1 then ((pFoL q.1 (nI k)).2, nI k, (pFoL q.1 (nI k)).1) else if q.2.2 ≤ (pFoL q.1 (nI k)).1 then ((pFoL q.1 (nI k)).2, q.2.1, q.2.2) else ((pFoL q.1 (nI k)).2, nI k, (pFoL q.1 (nI k)).1)
def pBest (S : St) : St × Int32 × Int32 := lp pBesF 3 0 (S, -1, 0)
def pAbW (S : St) (x : Int32) (b : Nat) : Int32 := pAborts (pOft (pTrial S x) 1 b) 1 - pAborts (pTrial S x) 1
set_option maxRecDepth 100000 in
set_option maxHeartbeats 400000 in
theorem c_X6_mix (l : Launch) (Z : wZ) (S : St) (h : Hl) (v : Int64) : Cv l yX6_mix cX6_mix 3 0 0 Z [.ref (zA Z (7) (0) (0)), .long (v)] S h (S) (rMix h v) := by
  refine Cv.of rfl (Nat.le_of_ble_eq_true rfl) (fun p e s mi args below meth c A0 Q X K => ?_)
  refine j_at rfl rfl (Ls3 := [(0, .ref (zA Z (7) (0) (0))), (1, .long (v))]) rfl rfl ?_
  refine j_aload_n X dX6_mix_0 rfl rfl (q := 0) rfl ?_
  refine j_ldc2 X (v := 31) dX6_mix_1 rfl (List.mem_of_getElem? (i := 810) (by decide +kernel)) ?_
  refine j_aload_n X dX6_mix_4 rfl rfl (q := 0) rfl ?_
  refine jg_model X 16 (by decide) lk_RX6_204 rfl rfl dX6_mix_5 rfl ?_
  refine j_lmul X dX6_mix_8 rfl ?_
  refine j_lload_n X dX6_mix_9 rfl rfl (q := 1) rfl ?_
  refine j_ladd X dX6_mix_10 rfl ?_
  refine jpl_model X lk_RX6_204 dX6_mix_11 rfl ?_
  exact j_at (by first | with_reducible rfl | (simp []; done) | (simp_all []; done) | rfl) rfl rfl rfl (K _ _ dX6_mix_14)
set_option maxRecDepth 100000 in
set_option maxHeartbeats 400000 in
theorem L_rmA (l : Launch) (Z : wZ) (S : St) (a : Nat) (ha : a < 4) {p : Program} {e : Env} {s : State} {mi : MethodId} {args : Array Value} {below : List Frame} {meth : Method} {c : Code} {A0 : Nat → Prop} {Q : State → Prop} (X : JX p s mi args meth c cX6_mixCore 3 yX6_mixCore.cls Z A0) : ∀ (n k : Nat) (h : Hl), k + n = 6 → J p l e { frames := 3, cells := 0, slots := 0, locals := 65 } s mi args below meth c 3 Z A0 0 0 Q (S) ((lp (rMcA S a) n k h)) [(0, .ref (zA Z (7) (0) (0))), (1, .int (nI (a)))] 25 [] → J p l e { frames := 3, cells := 0, slots := 0, locals := 65 } s mi args below meth c 3 Z A0 0 0 Q S h [(2, .int (nI (k))), (0, .ref (zA Z (7) (0) (0))), (1, .int (nI (a)))] 2 [] := by
  intro n
  induction n with
  | zero =>
    intro k h hkn hk
    have hkN : 6 = k := by omega
    subst hkN
    refine j_iload_n X dX6_mixCore_2 rfl rfl (q := 0) rfl ?_
    refine j_bipush X dX6_mixCore_3 rfl (v := 6) (by decide) ?_
    refine j_icmp_ge_t X (tgt := 25) dX6_mixCore_5 (by decide) (nI_le (Nat.le_refl _) (by decide)) ?_
    refine j_sub [1, 2] (Ls2 := [(0, .ref (zA Z (7) (0) (0))), (1, .int (nI (a)))]) rfl ?_
    exact hk
  | succ n ih =>
    intro k h hkn hk
    have hlt : k < 6 := by omega
    refine j_iload_n X dX6_mixCore_2 rfl rfl (q := 0) rfl ?_
    refine j_bipush X dX6_mixCore_3 rfl (v := 6) (by decide) ?_
    refine j_icmp_ge_f X dX6_mixCore_5 rfl (tgt := 25) (by decide) (nI_ge hlt (by decide)) ?_
    refine j_aload_n X dX6_mixCore_8 rfl rfl (q := 1) rfl ?_
    refine j_aload_n X dX6_mixCore_9 rfl rfl (q := 1) rfl ?_
    refine j_iload_n X dX6_mixCore_10 rfl rfl (q := 2) rfl ?_
    refine j_iload_n X dX6_mixCore_11 rfl rfl (q := 0) rfl ?_
    refine j_calli X (c_X6_coreOf l Z S h a (by omega) k (by omega)) (wm_ref (by decide)) ((fun _ => rfl) _) rfl lk_RX6_187 mi_X6_coreOf ms_X6_coreOf ini_RX6 mc_X6_coreOf md_X6_coreOf ⟨Nat.le_of_ble_eq_true rfl, Nat.le_of_ble_eq_true rfl⟩ ⟨Nat.le_of_ble_eq_true rfl, Nat.le_of_ble_eq_true rfl⟩ rfl (Nat.le_of_ble_eq_true rfl) (as := [.int (nI (a)), .int (nI (k))]) (rest := [.ref (zA Z (7) (0) (0))]) rfl dX6_mixCore_12 rfl ?_
    refine j_i2l X dX6_mixCore_15 rfl ?_
    refine j_callv X (c_X6_mix l Z S h ((rCoreO S a k).toInt64)) (wm_ref (by decide)) ((fun _ => rfl) _) rfl lk_RX6_208 mi_X6_mix ms_X6_mix ini_RX6 mc_X6_mix md_X6_mix ⟨Nat.le_of_ble_eq_true rfl, Nat.le_of_ble_eq_true rfl⟩ ⟨Nat.le_of_ble_eq_true rfl, Nat.le_of_ble_eq_true rfl⟩ rfl (Nat.le_of_ble_eq_true rfl) (as := [.long ((rCoreO S a k).toInt64)]) (rest := []) rfl dX6_mixCore_16 rfl ?_
    refine j_iinc X dX6_mixCore_19 rfl (q := 0) rfl (v := (nI (k + 1))) (nI_1 _) (by decide) (Ls2 := [(2, .int (nI (k + 1))), (0, .ref (zA Z (7) (0) (0))), (1, .int (nI (a)))]) rfl ?_
    refine j_goto X (tgt := 2) dX6_mixCore_22 (by decide) ?_
    have eB : (rMcA S a) k h = (rMix h ((rCoreO S a k).toInt64)) := by first | with_reducible rfl | (simp [rMcA]; done) | (simp_all [rMcA]; done) | rfl
    have eL : lp (rMcA S a) (n + 1) k h = lp (rMcA S a) n (k + 1) (rMix h ((rCoreO S a k).toInt64)) := congrArg (lp (rMcA S a) n (k + 1)) eB
    rw [eL] at hk
    exact ih (k + 1) ((rMix h ((rCoreO S a k).toInt64))) (by omega) hk
set_option maxRecDepth 100000 in
set_option maxHeartbeats 400000 in
theorem L_rmB (l : Launch) (Z : wZ) (S : St) (a : Nat) (ha : a < 4) {p : Program} {e : Env} {s : State} {mi : MethodId} {args : Array Value} {below : List Frame} {meth : Method} {c : Code} {A0 : Nat → Prop} {Q : State → Prop} (X : JX p s mi args meth c cX6_mixCore 3 yX6_mixCore.cls Z A0) : ∀ (n k : Nat) (h : Hl), k + n = 8 → J p l e { frames := 3, cells := 0, slots := 0, locals := 65 } s mi args below meth c 3 Z A0 0 0 Q (S) ((lp (rMcB S a) n k h)) [] 91 [] → J p l e { frames := 3, cells := 0, slots := 0, locals := 65 } s mi args below meth c 3 Z A0 0 0 Q S h [(2, .int (nI (k))), (0, .ref (zA Z (7) (0) (0))), (1, .int (nI (a)))] 51 [] := by
  intro n
  induction n with
  | zero =>
    intro k h hkn hk
    have hkN : 8 = k := by omega
    subst hkN
    refine j_iload_n X dX6_mixCore_51 rfl rfl (q := 0) rfl ?_
    refine j_bipush X dX6_mixCore_52 rfl (v := 8) (by decide) ?_
    refine j_icmp_ge_t X (tgt := 91) dX6_mixCore_54 (by decide) (nI_le (Nat.le_refl _) (by decide)) ?_
    refine j_sub [] (Ls2 := []) rfl ?_
    exact hk
  | succ n ih =>
    intro k h hkn hk
    have hlt : k < 8 := by omega
    refine j_iload_n X dX6_mixCore_51 rfl rfl (q := 0) rfl ?_
    refine j_bipush X dX6_mixCore_52 rfl (v := 8) (by decide) ?_
    refine j_icmp_ge_f X dX6_mixCore_54 rfl (tgt := 91) (by decide) (nI_ge hlt (by decide)) ?_
    refine j_aload_n X dX6_mixCore_57 rfl rfl (q := 1) rfl ?_
    refine j_aload_n X dX6_mixCore_58 rfl rfl (q := 1) rfl ?_
    refine j_iload_n X dX6_mixCore_59 rfl rfl (q := 2) rfl ?_
    refine j_bipush X dX6_mixCore_60 rfl (v := 20) (by decide) ?_
    refine j_iload_n X dX6_mixCore_62 rfl rfl (q := 0) rfl ?_
    refine j_iadd X dX6_mixCore_63 rfl ?_
    refine j_topeq (y := nI (20 + k)) (nI_add 20 k) ?_
    refine j_calli X (c_X6_of l Z S h a (20 + k) (by omega)) (wm_ref (by decide)) ((fun _ => rfl) _) rfl lk_RX6_97 mi_X6_of ms_X6_of ini_RX6 mc_X6_of md_X6_of ⟨Nat.le_of_ble_eq_true rfl, Nat.le_of_ble_eq_true rfl⟩ ⟨Nat.le_of_ble_eq_true rfl, Nat.le_of_ble_eq_true rfl⟩ rfl (Nat.le_of_ble_eq_true rfl) (as := [.int (nI (a)), .int (nI (20 + k))]) (rest := [.ref (zA Z (7) (0) (0))]) rfl dX6_mixCore_64 rfl ?_
    refine j_i2l X dX6_mixCore_67 rfl ?_
    refine j_callv X (c_X6_mix l Z S h ((rOf S a (20 + k)).toInt64)) (wm_ref (by decide)) ((fun _ => rfl) _) rfl lk_RX6_208 mi_X6_mix ms_X6_mix ini_RX6 mc_X6_mix md_X6_mix ⟨Nat.le_of_ble_eq_true rfl, Nat.le_of_ble_eq_true rfl⟩ ⟨Nat.le_of_ble_eq_true rfl, Nat.le_of_ble_eq_true rfl⟩ rfl (Nat.le_of_ble_eq_true rfl) (as := [.long ((rOf S a (20 + k)).toInt64)]) (rest := []) rfl dX6_mixCore_68 rfl ?_
    refine j_aload_n X dX6_mixCore_71 rfl rfl (q := 1) rfl ?_
    refine j_aload_n X dX6_mixCore_72 rfl rfl (q := 1) rfl ?_
    refine j_iload_n X dX6_mixCore_73 rfl rfl (q := 2) rfl ?_
    refine j_bipush X dX6_mixCore_74 rfl (v := 28) (by decide) ?_
    refine j_iload_n X dX6_mixCore_76 rfl rfl (q := 0) rfl ?_
    refine j_iadd X dX6_mixCore_77 rfl ?_
    refine j_topeq (y := nI (28 + k)) (nI_add 28 k) ?_
    refine j_calli X (c_X6_of l Z S (rMix h ((rOf S a (20 + k)).toInt64)) a (28 + k) (by omega)) (wm_ref (by decide)) ((fun _ => rfl) _) rfl lk_RX6_97 mi_X6_of ms_X6_of ini_RX6 mc_X6_of md_X6_of ⟨Nat.le_of_ble_eq_true rfl, Nat.le_of_ble_eq_true rfl⟩ ⟨Nat.le_of_ble_eq_true rfl, Nat.le_of_ble_eq_true rfl⟩ rfl (Nat.le_of_ble_eq_true rfl) (as := [.int (nI (a)), .int (nI (28 + k))]) (rest := [.ref (zA Z (7) (0) (0))]) rfl dX6_mixCore_78 rfl ?_
    refine j_i2l X dX6_mixCore_81 rfl ?_
    refine j_callv X (c_X6_mix l Z S (rMix h ((rOf S a (20 + k)).toInt64)) ((rOf S a (28 + k)).toInt64)) (wm_ref (by decide)) ((fun _ => rfl) _) rfl lk_RX6_208 mi_X6_mix ms_X6_mix ini_RX6 mc_X6_mix md_X6_mix ⟨Nat.le_of_ble_eq_true rfl, Nat.le_of_ble_eq_true rfl⟩ ⟨Nat.le_of_ble_eq_true rfl, Nat.le_of_ble_eq_true rfl⟩ rfl (Nat.le_of_ble_eq_true rfl) (as := [.long ((rOf S a (28 + k)).toInt64)]) (rest := []) rfl dX6_mixCore_82 rfl ?_
    refine j_iinc X dX6_mixCore_85 rfl (q := 0) rfl (v := (nI (k + 1))) (nI_1 _) (by decide) (Ls2 := [(2, .int (nI (k + 1))), (0, .ref (zA Z (7) (0) (0))), (1, .int (nI (a)))]) rfl ?_
    refine j_goto X (tgt := 51) dX6_mixCore_88 (by decide) ?_
    have eB : (rMcB S a) k h = (rMix (rMix h ((rOf S a (20 + k)).toInt64)) ((rOf S a (28 + k)).toInt64)) := by first | with_reducible rfl | (simp [rMcB]; done) | (simp_all [rMcB]; done) | rfl
    have eL : lp (rMcB S a) (n + 1) k h = lp (rMcB S a) n (k + 1) (rMix (rMix h ((rOf S a (20 + k)).toInt64)) ((rOf S a (28 + k)).toInt64)) := congrArg (lp (rMcB S a) n (k + 1)) eB
    rw [eL] at hk
    exact ih (k + 1) ((rMix (rMix h ((rOf S a (20 + k)).toInt64)) ((rOf S a (28 + k)).toInt64))) (by omega) hk
set_option maxRecDepth 100000 in
set_option maxHeartbeats 400000 in
theorem c_X6_mixCore (l : Launch) (Z : wZ) (S : St) (h : Hl) (a : Nat) (ha : a < 4) : Cv l yX6_mixCore cX6_mixCore 3 3 65 Z [.ref (zA Z (7) (0) (0)), .int (nI (a))] S h (S) (rMcC S a h) := by
  refine Cv.of rfl (Nat.le_of_ble_eq_true rfl) (fun p e s mi args below meth c A0 Q X K => ?_)
  refine j_at rfl rfl (Ls3 := [(0, .ref (zA Z (7) (0) (0))), (1, .int (nI (a)))]) rfl rfl ?_
  refine j_iconst X dX6_mixCore_0 rfl (v := 0) (by decide) ?_
  refine j_istore_n X dX6_mixCore_1 rfl rfl (by decide) (Ls2 := [(2, .int (0)), (0, .ref (zA Z (7) (0) (0))), (1, .int (nI (a)))]) rfl ?_
  refine j_sub [0, 1, 2] (Ls2 := [(2, .int (0)), (0, .ref (zA Z (7) (0) (0))), (1, .int (nI (a)))]) rfl ?_
  refine L_rmA l Z S a ha X 6 0 h (by omega) ?_
  refine j_aload_n X dX6_mixCore_25 rfl rfl (q := 0) rfl ?_
  refine j_aload_n X dX6_mixCore_26 rfl rfl (q := 0) rfl ?_
  refine j_iload_n X dX6_mixCore_27 rfl rfl (q := 1) rfl ?_
  refine j_bipush X dX6_mixCore_28 rfl (v := 7) (by decide) ?_
  refine j_calli X (c_X6_of l Z S ((lp (rMcA S a) 6 0 h)) a 7 (by omega)) (wm_ref (by decide)) ((fun _ => rfl) _) rfl lk_RX6_97 mi_X6_of ms_X6_of ini_RX6 mc_X6_of md_X6_of ⟨Nat.le_of_ble_eq_true rfl, Nat.le_of_ble_eq_true rfl⟩ ⟨Nat.le_of_ble_eq_true rfl, Nat.le_of_ble_eq_true rfl⟩ rfl (Nat.le_of_ble_eq_true rfl) (as := [.int (nI (a)), .int (7)]) (rest := [.ref (zA Z (7) (0) (0))]) rfl dX6_mixCore_30 rfl ?_
  refine j_i2l X dX6_mixCore_33 rfl ?_
  refine j_callv X (c_X6_mix l Z S ((lp (rMcA S a) 6 0 h)) ((rOf S a 7).toInt64)) (wm_ref (by decide)) ((fun _ => rfl) _) rfl lk_RX6_208 mi_X6_mix ms_X6_mix ini_RX6 mc_X6_mix md_X6_mix ⟨Nat.le_of_ble_eq_true rfl, Nat.le_of_ble_eq_true rfl⟩ ⟨Nat.le_of_ble_eq_true rfl, Nat.le_of_ble_eq_true rfl⟩ rfl (Nat.le_of_ble_eq_true rfl) (as := [.long ((rOf S a 7).toInt64)]) (rest := []) rfl dX6_mixCore_34 rfl ?_
  refine j_aload_n X dX6_mixCore_37 rfl rfl (q := 0) rfl ?_
  refine j_aload_n X dX6_mixCore_38 rfl rfl (q := 0) rfl ?_
  refine j_iload_n X dX6_mixCore_39 rfl rfl (q := 1) rfl ?_
  refine j_bipush X dX6_mixCore_40 rfl (v := 8) (by decide) ?_
  refine j_calli X (c_X6_of l Z S (rMix ((lp (rMcA S a) 6 0 h)) ((rOf S a 7).toInt64)) a 8 (by omega)) (wm_ref (by decide)) ((fun _ => rfl) _) rfl lk_RX6_97 mi_X6_of ms_X6_of ini_RX6 mc_X6_of md_X6_of ⟨Nat.le_of_ble_eq_true rfl, Nat.le_of_ble_eq_true rfl⟩ ⟨Nat.le_of_ble_eq_true rfl, Nat.le_of_ble_eq_true rfl⟩ rfl (Nat.le_of_ble_eq_true rfl) (as := [.int (nI (a)), .int (8)]) (rest := [.ref (zA Z (7) (0) (0))]) rfl dX6_mixCore_42 rfl ?_
  refine j_i2l X dX6_mixCore_45 rfl ?_
  refine j_callv X (c_X6_mix l Z S (rMix ((lp (rMcA S a) 6 0 h)) ((rOf S a 7).toInt64)) ((rOf S a 8).toInt64)) (wm_ref (by decide)) ((fun _ => rfl) _) rfl lk_RX6_208 mi_X6_mix ms_X6_mix ini_RX6 mc_X6_mix md_X6_mix ⟨Nat.le_of_ble_eq_true rfl, Nat.le_of_ble_eq_true rfl⟩ ⟨Nat.le_of_ble_eq_true rfl, Nat.le_of_ble_eq_true rfl⟩ rfl (Nat.le_of_ble_eq_true rfl) (as := [.long ((rOf S a 8).toInt64)]) (rest := []) rfl dX6_mixCore_46 rfl ?_
  refine j_iconst X dX6_mixCore_49 rfl (v := 0) (by decide) ?_
  refine j_istore_n X dX6_mixCore_50 rfl rfl (by decide) (Ls2 := [(2, .int (0)), (0, .ref (zA Z (7) (0) (0))), (1, .int (nI (a)))]) rfl ?_
  refine j_sub [0, 1, 2] (Ls2 := [(2, .int (0)), (0, .ref (zA Z (7) (0) (0))), (1, .int (nI (a)))]) rfl ?_
  refine L_rmB l Z S a ha X 8 0 ((rMix (rMix ((lp (rMcA S a) 6 0 h)) ((rOf S a 7).toInt64)) ((rOf S a 8).toInt64))) (by omega) ?_
  exact j_at (by first | with_reducible rfl | (simp []; done) | (simp_all []; done) | rfl) rfl rfl rfl (K _ _ dX6_mixCore_91)
set_option maxRecDepth 100000 in
set_option maxHeartbeats 400000 in
theorem L_rd1 (l : Launch) (Z : wZ) (S : St) (hcc : okI (S 7 0 1 0) 4) {p : Program} {e : Env} {s : State} {mi : MethodId} {args : Array Value} {below : List Frame} {meth : Method} {c : Code} {A0 : Nat → Prop} {Q : State → Prop} (X : JX p s mi args meth c cX6_digest 2 yX6_digest.cls Z A0) : ∀ (n k : Nat) (h : Hl), k + n = 5 → J p l e { frames := 5, cells := 0, slots := 0, locals := 107 } s mi args below meth c 2 Z A0 0 0 Q (S) ((lp (rDg1 S) n k h)) [(0, .ref (zA Z (7) (0) (0)))] 44 [] → J p l e { frames := 5, cells := 0, slots := 0, locals := 107 } s mi args below meth c 2 Z A0 0 0 Q S h [(1, .int (nI (k))), (0, .ref (zA Z (7) (0) (0)))] 23 [] := by
  intro n
  induction n with
  | zero =>
    intro k h hkn hk
    have hkN : 5 = k := by omega
    subst hkN
    refine j_iload_n X dX6_digest_23 rfl rfl (q := 0) rfl ?_
    refine j_iconst X dX6_digest_24 rfl (v := 5) (by decide) ?_
    refine j_icmp_ge_t X (tgt := 44) dX6_digest_25 (by decide) (nI_le (Nat.le_refl _) (by decide)) ?_
    refine j_sub [1] (Ls2 := [(0, .ref (zA Z (7) (0) (0)))]) rfl ?_
    exact hk
  | succ n ih =>
    intro k h hkn hk
    have hlt : k < 5 := by omega
    refine j_iload_n X dX6_digest_23 rfl rfl (q := 0) rfl ?_
    refine j_iconst X dX6_digest_24 rfl (v := 5) (by decide) ?_
    refine j_icmp_ge_f X dX6_digest_25 rfl (tgt := 44) (by decide) (nI_ge hlt (by decide)) ?_
    refine j_aload_n X dX6_digest_28 rfl rfl (q := 1) rfl ?_
    refine j_aload_n X dX6_digest_29 rfl rfl (q := 1) rfl ?_
    refine j_iload_n X dX6_digest_30 rfl rfl (q := 0) rfl ?_
    refine j_calli X (c_X6_valueOf l Z S h hcc k (by omega)) (wm_ref (by decide)) ((fun _ => rfl) _) rfl lk_RX6_190 mi_X6_valueOf ms_X6_valueOf ini_RX6 mc_X6_valueOf md_X6_valueOf ⟨Nat.le_of_ble_eq_true rfl, Nat.le_of_ble_eq_true rfl⟩ ⟨Nat.le_of_ble_eq_true rfl, Nat.le_of_ble_eq_true rfl⟩ rfl (Nat.le_of_ble_eq_true rfl) (as := [.int (nI (k))]) (rest := [.ref (zA Z (7) (0) (0))]) rfl dX6_digest_31 rfl ?_
    refine j_i2l X dX6_digest_34 rfl ?_
    refine j_callv X (c_X6_mix l Z S h ((rValO S k).toInt64)) (wm_ref (by decide)) ((fun _ => rfl) _) rfl lk_RX6_208 mi_X6_mix ms_X6_mix ini_RX6 mc_X6_mix md_X6_mix ⟨Nat.le_of_ble_eq_true rfl, Nat.le_of_ble_eq_true rfl⟩ ⟨Nat.le_of_ble_eq_true rfl, Nat.le_of_ble_eq_true rfl⟩ rfl (Nat.le_of_ble_eq_true rfl) (as := [.long ((rValO S k).toInt64)]) (rest := []) rfl dX6_digest_35 rfl ?_
    refine j_iinc X dX6_digest_38 rfl (q := 0) rfl (v := (nI (k + 1))) (nI_1 _) (by decide) (Ls2 := [(1, .int (nI (k + 1))), (0, .ref (zA Z (7) (0) (0)))]) rfl ?_
    refine j_goto X (tgt := 23) dX6_digest_41 (by decide) ?_
    have eB : (rDg1 S) k h = (rMix h ((rValO S k).toInt64)) := by first | with_reducible rfl | (simp [rDg1]; done) | (simp_all [rDg1]; done) | rfl
    have eL : lp (rDg1 S) (n + 1) k h = lp (rDg1 S) n (k + 1) (rMix h ((rValO S k).toInt64)) := congrArg (lp (rDg1 S) n (k + 1)) eB
    rw [eL] at hk
    exact ih (k + 1) ((rMix h ((rValO S k).toInt64))) (by omega) hk
set_option maxRecDepth 100000 in
set_option maxHeartbeats 400000 in
theorem L_rd2 (l : Launch) (Z : wZ) (S : St) (hcc : okI (S 7 0 1 0) 4) {p : Program} {e : Env} {s : State} {mi : MethodId} {args : Array Value} {below : List Frame} {meth : Method} {c : Code} {A0 : Nat → Prop} {Q : State → Prop} (X : JX p s mi args meth c cX6_digest 2 yX6_digest.cls Z A0) : ∀ (n k : Nat) (h : Hl), k + n = rCC S → J p l e { frames := 5, cells := 0, slots := 0, locals := 107 } s mi args below meth c 2 Z A0 0 0 Q (S) ((lp (rDg2 S) n k h)) [(0, .ref (zA Z (7) (0) (0)))] 78 [] → J p l e { frames := 5, cells := 0, slots := 0, locals := 107 } s mi args below meth c 2 Z A0 0 0 Q S h [(1, .int (nI (k))), (0, .ref (zA Z (7) (0) (0)))] 57 [] := by
  have hc4 : rCC S ≤ 4 := hcc.2
  intro n
  induction n with
  | zero =>
    intro k h hkn hk
    have hkN : rCC S = k := by omega
    subst hkN
    refine j_iload_n X dX6_digest_57 rfl rfl (q := 0) rfl ?_
    refine j_aload_n X dX6_digest_58 rfl rfl (q := 1) rfl ?_
    refine jg_model X 0 (by decide) lk_RX6_7 rfl rfl dX6_digest_59 rfl ?_
    refine j_iconst X dX6_digest_62 rfl (v := 0) (by decide) ?_
    refine j_ialdN X (k := 0) (wm_ref (by decide)) ((fun _ => rfl) _) (by decide) (by decide) dX6_digest_63 rfl ?_
    refine j_topeq (y := (nI (rCC S))) (hcc.1) ?_
    refine j_icmp_ge_t X (tgt := 78) dX6_digest_64 (by decide) (nI_le (Nat.le_refl _) (by have : rCC S ≤ 4 := hcc.2; omega)) ?_
    refine j_sub [1] (Ls2 := [(0, .ref (zA Z (7) (0) (0)))]) rfl ?_
    exact hk
  | succ n ih =>
    intro k h hkn hk
    have hlt : k < rCC S := by omega
    refine j_iload_n X dX6_digest_57 rfl rfl (q := 0) rfl ?_
    refine j_aload_n X dX6_digest_58 rfl rfl (q := 1) rfl ?_
    refine jg_model X 0 (by decide) lk_RX6_7 rfl rfl dX6_digest_59 rfl ?_
    refine j_iconst X dX6_digest_62 rfl (v := 0) (by decide) ?_
    refine j_ialdN X (k := 0) (wm_ref (by decide)) ((fun _ => rfl) _) (by decide) (by decide) dX6_digest_63 rfl ?_
    refine j_topeq (y := (nI (rCC S))) (hcc.1) ?_
    refine j_icmp_ge_f X dX6_digest_64 rfl (tgt := 78) (by decide) (nI_ge hlt (by have : rCC S ≤ 4 := hcc.2; omega)) ?_
    refine j_aload_n X dX6_digest_67 rfl rfl (q := 1) rfl ?_
    refine j_iload_n X dX6_digest_68 rfl rfl (q := 0) rfl ?_
    refine j_callv X (c_X6_mixCore l Z S h k (by omega)) (wm_ref (by decide)) ((fun _ => rfl) _) rfl lk_RX6_214 mi_X6_mixCore ms_X6_mixCore ini_RX6 mc_X6_mixCore md_X6_mixCore ⟨Nat.le_of_ble_eq_true rfl, Nat.le_of_ble_eq_true rfl⟩ ⟨Nat.le_of_ble_eq_true rfl, Nat.le_of_ble_eq_true rfl⟩ rfl (Nat.le_of_ble_eq_true rfl) (as := [.int (nI (k))]) (rest := []) rfl dX6_digest_69 rfl ?_
    refine j_iinc X dX6_digest_72 rfl (q := 0) rfl (v := (nI (k + 1))) (nI_1 _) (by decide) (Ls2 := [(1, .int (nI (k + 1))), (0, .ref (zA Z (7) (0) (0)))]) rfl ?_
    refine j_goto X (tgt := 57) dX6_digest_75 (by decide) ?_
    have eB : (rDg2 S) k h = (rMcC S k h) := by first | with_reducible rfl | (simp [rDg2]; done) | (simp_all [rDg2]; done) | rfl
    have eL : lp (rDg2 S) (n + 1) k h = lp (rDg2 S) n (k + 1) (rMcC S k h) := congrArg (lp (rDg2 S) n (k + 1)) eB
    rw [eL] at hk
    exact ih (k + 1) ((rMcC S k h)) (by omega) hk
set_option maxRecDepth 100000 in
set_option maxHeartbeats 400000 in
theorem L_rd3 (l : Launch) (Z : wZ) (S : St) (hcc : okI (S 7 0 1 0) 4) {p : Program} {e : Env} {s : State} {mi : MethodId} {args : Array Value} {below : List Frame} {meth : Method} {c : Code} {A0 : Nat → Prop} {Q : State → Prop} (X : JX p s mi args meth c cX6_digest 2 yX6_digest.cls Z A0) : ∀ (n k : Nat) (h : Hl), k + n = 8 → J p l e { frames := 5, cells := 0, slots := 0, locals := 107 } s mi args below meth c 2 Z A0 0 0 Q (S) ((lp (rDg3 S false) n k h)) [(0, .ref (zA Z (7) (0) (0)))] 103 [] → J p l e { frames := 5, cells := 0, slots := 0, locals := 107 } s mi args below meth c 2 Z A0 0 0 Q S h [(1, .int (nI (k))), (0, .ref (zA Z (7) (0) (0)))] 80 [] := by
  intro n
  induction n with
  | zero =>
    intro k h hkn hk
    have hkN : 8 = k := by omega
    subst hkN
    refine j_iload_n X dX6_digest_80 rfl rfl (q := 0) rfl ?_
    refine j_bipush X dX6_digest_81 rfl (v := 8) (by decide) ?_
    refine j_icmp_ge_t X (tgt := 103) dX6_digest_83 (by decide) (nI_le (Nat.le_refl _) (by decide)) ?_
    refine j_sub [1] (Ls2 := [(0, .ref (zA Z (7) (0) (0)))]) rfl ?_
    exact hk
  | succ n ih =>
    intro k h hkn hk
    have hlt : k < 8 := by omega
    refine j_iload_n X dX6_digest_80 rfl rfl (q := 0) rfl ?_
    refine j_bipush X dX6_digest_81 rfl (v := 8) (by decide) ?_
    refine j_icmp_ge_f X dX6_digest_83 rfl (tgt := 103) (by decide) (nI_ge hlt (by decide)) ?_
    refine j_aload_n X dX6_digest_86 rfl rfl (q := 1) rfl ?_
    refine j_aload_n X dX6_digest_87 rfl rfl (q := 1) rfl ?_
    refine j_iload_n X dX6_digest_88 rfl rfl (q := 0) rfl ?_
    refine j_iconst X dX6_digest_89 rfl (v := 0) (by decide) ?_
    refine j_calli X (c_X6_memoryOf l Z S h k (by omega) false hcc) (wm_ref (by decide)) ((fun _ => rfl) _) rfl lk_RX6_183 mi_X6_memoryOf ms_X6_memoryOf ini_RX6 mc_X6_memoryOf md_X6_memoryOf ⟨Nat.le_of_ble_eq_true rfl, Nat.le_of_ble_eq_true rfl⟩ ⟨Nat.le_of_ble_eq_true rfl, Nat.le_of_ble_eq_true rfl⟩ rfl (Nat.le_of_ble_eq_true rfl) (as := [.int (nI (k)), .int (0)]) (rest := [.ref (zA Z (7) (0) (0))]) rfl dX6_digest_90 rfl ?_
    refine j_i2l X dX6_digest_93 rfl ?_
    refine j_callv X (c_X6_mix l Z S h ((rMem S k false).toInt64)) (wm_ref (by decide)) ((fun _ => rfl) _) rfl lk_RX6_208 mi_X6_mix ms_X6_mix ini_RX6 mc_X6_mix md_X6_mix ⟨Nat.le_of_ble_eq_true rfl, Nat.le_of_ble_eq_true rfl⟩ ⟨Nat.le_of_ble_eq_true rfl, Nat.le_of_ble_eq_true rfl⟩ rfl (Nat.le_of_ble_eq_true rfl) (as := [.long ((rMem S k false).toInt64)]) (rest := []) rfl dX6_digest_94 rfl ?_
    refine j_iinc X dX6_digest_97 rfl (q := 0) rfl (v := (nI (k + 1))) (nI_1 _) (by decide) (Ls2 := [(1, .int (nI (k + 1))), (0, .ref (zA Z (7) (0) (0)))]) rfl ?_
    refine j_goto X (tgt := 80) dX6_digest_100 (by decide) ?_
    have eB : (rDg3 S false) k h = (rMix h ((rMem S k false).toInt64)) := by first | with_reducible rfl | (simp [rDg3]; done) | (simp_all [rDg3]; done) | rfl
    have eL : lp (rDg3 S false) (n + 1) k h = lp (rDg3 S false) n (k + 1) (rMix h ((rMem S k false).toInt64)) := congrArg (lp (rDg3 S false) n (k + 1)) eB
    rw [eL] at hk
    exact ih (k + 1) ((rMix h ((rMem S k false).toInt64))) (by omega) hk
set_option maxRecDepth 100000 in
set_option maxHeartbeats 400000 in
theorem L_rd4 (l : Launch) (Z : wZ) (S : St) (hcc : okI (S 7 0 1 0) 4) {p : Program} {e : Env} {s : State} {mi : MethodId} {args : Array Value} {below : List Frame} {meth : Method} {c : Code} {A0 : Nat → Prop} {Q : State → Prop} (X : JX p s mi args meth c cX6_digest 2 yX6_digest.cls Z A0) : ∀ (n k : Nat) (h : Hl), k + n = 8 → J p l e { frames := 5, cells := 0, slots := 0, locals := 107 } s mi args below meth c 2 Z A0 0 0 Q (S) ((lp (rDg3 S true) n k h)) [(0, .ref (zA Z (7) (0) (0)))] 128 [] → J p l e { frames := 5, cells := 0, slots := 0, locals := 107 } s mi args below meth c 2 Z A0 0 0 Q S h [(1, .int (nI (k))), (0, .ref (zA Z (7) (0) (0)))] 105 [] := by
  intro n
  induction n with
  | zero =>
    intro k h hkn hk
    have hkN : 8 = k := by omega
    subst hkN
    refine j_iload_n X dX6_digest_105 rfl rfl (q := 0) rfl ?_
    refine j_bipush X dX6_digest_106 rfl (v := 8) (by decide) ?_
    refine j_icmp_ge_t X (tgt := 128) dX6_digest_108 (by decide) (nI_le (Nat.le_refl _) (by decide)) ?_
    refine j_sub [1] (Ls2 := [(0, .ref (zA Z (7) (0) (0)))]) rfl ?_
    exact hk
  | succ n ih =>
    intro k h hkn hk
    have hlt : k < 8 := by omega
    refine j_iload_n X dX6_digest_105 rfl rfl (q := 0) rfl ?_
    refine j_bipush X dX6_digest_106 rfl (v := 8) (by decide) ?_
    refine j_icmp_ge_f X dX6_digest_108 rfl (tgt := 128) (by decide) (nI_ge hlt (by decide)) ?_
    refine j_aload_n X dX6_digest_111 rfl rfl (q := 1) rfl ?_
    refine j_aload_n X dX6_digest_112 rfl rfl (q := 1) rfl ?_
    refine j_iload_n X dX6_digest_113 rfl rfl (q := 0) rfl ?_
    refine j_iconst X dX6_digest_114 rfl (v := 1) (by decide) ?_
    refine j_calli X (c_X6_memoryOf l Z S h k (by omega) true hcc) (wm_ref (by decide)) ((fun _ => rfl) _) rfl lk_RX6_183 mi_X6_memoryOf ms_X6_memoryOf ini_RX6 mc_X6_memoryOf md_X6_memoryOf ⟨Nat.le_of_ble_eq_true rfl, Nat.le_of_ble_eq_true rfl⟩ ⟨Nat.le_of_ble_eq_true rfl, Nat.le_of_ble_eq_true rfl⟩ rfl (Nat.le_of_ble_eq_true rfl) (as := [.int (nI (k)), .int (1)]) (rest := [.ref (zA Z (7) (0) (0))]) rfl dX6_digest_115 rfl ?_
    refine j_i2l X dX6_digest_118 rfl ?_
    refine j_callv X (c_X6_mix l Z S h ((rMem S k true).toInt64)) (wm_ref (by decide)) ((fun _ => rfl) _) rfl lk_RX6_208 mi_X6_mix ms_X6_mix ini_RX6 mc_X6_mix md_X6_mix ⟨Nat.le_of_ble_eq_true rfl, Nat.le_of_ble_eq_true rfl⟩ ⟨Nat.le_of_ble_eq_true rfl, Nat.le_of_ble_eq_true rfl⟩ rfl (Nat.le_of_ble_eq_true rfl) (as := [.long ((rMem S k true).toInt64)]) (rest := []) rfl dX6_digest_119 rfl ?_
    refine j_iinc X dX6_digest_122 rfl (q := 0) rfl (v := (nI (k + 1))) (nI_1 _) (by decide) (Ls2 := [(1, .int (nI (k + 1))), (0, .ref (zA Z (7) (0) (0)))]) rfl ?_
    refine j_goto X (tgt := 105) dX6_digest_125 (by decide) ?_
    have eB : (rDg3 S true) k h = (rMix h ((rMem S k true).toInt64)) := by first | with_reducible rfl | (simp [rDg3]; done) | (simp_all [rDg3]; done) | rfl
    have eL : lp (rDg3 S true) (n + 1) k h = lp (rDg3 S true) n (k + 1) (rMix h ((rMem S k true).toInt64)) := congrArg (lp (rDg3 S true) n (k + 1)) eB
    rw [eL] at hk
    exact ih (k + 1) ((rMix h ((rMem S k true).toInt64))) (by omega) hk
set_option maxRecDepth 100000 in
set_option maxHeartbeats 400000 in
theorem L_rd5 (l : Launch) (Z : wZ) (S : St)  {p : Program} {e : Env} {s : State} {mi : MethodId} {args : Array Value} {below : List Frame} {meth : Method} {c : Code} {A0 : Nat → Prop} {Q : State → Prop} (X : JX p s mi args meth c cX6_digest 2 yX6_digest.cls Z A0) : ∀ (n k : Nat) (h : Hl), k + n = 8 → J p l e { frames := 5, cells := 0, slots := 0, locals := 107 } s mi args below meth c 2 Z A0 0 0 Q (S) ((lp (rDg5 S) n k h)) [(0, .ref (zA Z (7) (0) (0)))] 156 [] → J p l e { frames := 5, cells := 0, slots := 0, locals := 107 } s mi args below meth c 2 Z A0 0 0 Q S h [(1, .int (nI (k))), (0, .ref (zA Z (7) (0) (0)))] 130 [] := by
  intro n
  induction n with
  | zero =>
    intro k h hkn hk
    have hkN : 8 = k := by omega
    subst hkN
    refine j_iload_n X dX6_digest_130 rfl rfl (q := 0) rfl ?_
    refine j_bipush X dX6_digest_131 rfl (v := 8) (by decide) ?_
    refine j_icmp_ge_t X (tgt := 156) dX6_digest_133 (by decide) (nI_le (Nat.le_refl _) (by decide)) ?_
    refine j_sub [1] (Ls2 := [(0, .ref (zA Z (7) (0) (0)))]) rfl ?_
    exact hk
  | succ n ih =>
    intro k h hkn hk
    have hlt : k < 8 := by omega
    refine j_iload_n X dX6_digest_130 rfl rfl (q := 0) rfl ?_
    refine j_bipush X dX6_digest_131 rfl (v := 8) (by decide) ?_
    refine j_icmp_ge_f X dX6_digest_133 rfl (tgt := 156) (by decide) (nI_ge hlt (by decide)) ?_
    refine j_aload_n X dX6_digest_136 rfl rfl (q := 1) rfl ?_
    refine j_aload_n X dX6_digest_137 rfl rfl (q := 1) rfl ?_
    refine jg_model X 0 (by decide) lk_RX6_7 rfl rfl dX6_digest_138 rfl ?_
    refine j_bipush X dX6_digest_141 rfl (v := 13) (by decide) ?_
    refine j_iload_n X dX6_digest_143 rfl rfl (q := 0) rfl ?_
    refine j_iadd X dX6_digest_144 rfl ?_
    refine j_topeq (y := nI (13 + k)) (nI_add 13 k) ?_
    refine j_ialdN X (k := 13 + k) (wm_ref (by decide)) ((fun _ => rfl) _) (by omega) (by decide) dX6_digest_145 rfl ?_
    refine j_i2l X dX6_digest_146 rfl ?_
    refine j_callv X (c_X6_mix l Z S h ((S 7 0 1 (13 + k)).toInt64)) (wm_ref (by decide)) ((fun _ => rfl) _) rfl lk_RX6_208 mi_X6_mix ms_X6_mix ini_RX6 mc_X6_mix md_X6_mix ⟨Nat.le_of_ble_eq_true rfl, Nat.le_of_ble_eq_true rfl⟩ ⟨Nat.le_of_ble_eq_true rfl, Nat.le_of_ble_eq_true rfl⟩ rfl (Nat.le_of_ble_eq_true rfl) (as := [.long ((S 7 0 1 (13 + k)).toInt64)]) (rest := []) rfl dX6_digest_147 rfl ?_
    refine j_iinc X dX6_digest_150 rfl (q := 0) rfl (v := (nI (k + 1))) (nI_1 _) (by decide) (Ls2 := [(1, .int (nI (k + 1))), (0, .ref (zA Z (7) (0) (0)))]) rfl ?_
    refine j_goto X (tgt := 130) dX6_digest_153 (by decide) ?_
    have eB : (rDg5 S) k h = (rMix h ((S 7 0 1 (13 + k)).toInt64)) := by first | with_reducible rfl | (simp [rDg5]; done) | (simp_all [rDg5]; done) | rfl
    have eL : lp (rDg5 S) (n + 1) k h = lp (rDg5 S) n (k + 1) (rMix h ((S 7 0 1 (13 + k)).toInt64)) := congrArg (lp (rDg5 S) n (k + 1)) eB
    rw [eL] at hk
    exact ih (k + 1) ((rMix h ((S 7 0 1 (13 + k)).toInt64))) (by omega) hk
set_option maxRecDepth 100000 in
set_option maxHeartbeats 400000 in
theorem c_X6_digest (l : Launch) (Z : wZ) (S : St) (h : Hl) (hcc : okI (S 7 0 1 0) 4) : Cl l yX6_digest cX6_digest 2 5 107 Z [.ref (zA Z (7) (0) (0))] S h (rDgH (rCd S 0) h 0) (rCd S 0) (rDgH (rCd S 0) h) := by
  refine Cl.of rfl (Nat.le_of_ble_eq_true rfl) (fun p e s mi args below meth c A0 Q X K => ?_)
  refine j_at rfl rfl (Ls3 := [(0, .ref (zA Z (7) (0) (0)))]) rfl rfl ?_
  refine j_aload_n X dX6_digest_0 rfl rfl (q := 0) rfl ?_
  refine j_iconst X dX6_digest_1 rfl (v := 0) (by decide) ?_
  refine jp_model X 9 (by decide) lk_RX6_41 rfl rfl rfl (vp_nar_int _) rfl rfl dX6_digest_2 rfl ?_
  refine j_name (fun S1 eS1 => ?_)
  refine j_aload_n X dX6_digest_5 rfl rfl (q := 0) rfl ?_
  refine j_ldc2 X (v := 3011) dX6_digest_6 rfl (List.mem_of_getElem? (i := 804) (by decide +kernel)) ?_
  refine jpl_model X lk_RX6_204 dX6_digest_9 rfl ?_
  refine j_nameh (fun h2 eh2 => ?_)
  refine j_aload_n X dX6_digest_12 rfl rfl (q := 0) rfl ?_
  refine j_aload_n X dX6_digest_13 rfl rfl (q := 0) rfl ?_
  refine jg_model X 7 (by decide) lk_RX6_67 rfl rfl dX6_digest_14 rfl ?_
  refine j_i2l X dX6_digest_17 rfl ?_
  refine j_callv X (c_X6_mix l Z S1 h2 ((S1 7 0 0 7).toInt64)) (wm_ref (by decide)) ((fun _ => rfl) _) rfl lk_RX6_208 mi_X6_mix ms_X6_mix ini_RX6 mc_X6_mix md_X6_mix ⟨Nat.le_of_ble_eq_true rfl, Nat.le_of_ble_eq_true rfl⟩ ⟨Nat.le_of_ble_eq_true rfl, Nat.le_of_ble_eq_true rfl⟩ rfl (Nat.le_of_ble_eq_true rfl) (as := [.long ((S1 7 0 0 7).toInt64)]) (rest := []) rfl dX6_digest_18 rfl ?_
  refine j_nameh (fun h3 eh3 => ?_)
  refine j_iconst X dX6_digest_21 rfl (v := 0) (by decide) ?_
  refine j_istore_n X dX6_digest_22 rfl rfl (by decide) (Ls2 := [(1, .int (0)), (0, .ref (zA Z (7) (0) (0)))]) rfl ?_
  refine j_sub [0, 1] (Ls2 := [(1, .int (0)), (0, .ref (zA Z (7) (0) (0)))]) rfl ?_
  refine L_rd1 l Z S1 (by subst eS1; subst eh2; subst eh3; rw [setO_M (by decide)]; exact hcc) X 5 0 h3 (by omega) ?_
  refine j_nameh (fun h4 eh4 => ?_)
  refine j_aload_n X dX6_digest_44 rfl rfl (q := 0) rfl ?_
  refine j_aload_n X dX6_digest_45 rfl rfl (q := 0) rfl ?_
  refine jg_model X 0 (by decide) lk_RX6_7 rfl rfl dX6_digest_46 rfl ?_
  refine j_iconst X dX6_digest_49 rfl (v := 3) (by decide) ?_
  refine j_ialdN X (k := 3) (wm_ref (by decide)) ((fun _ => rfl) _) (by decide) (by decide) dX6_digest_50 rfl ?_
  refine j_i2l X dX6_digest_51 rfl ?_
  refine j_callv X (c_X6_mix l Z S1 h4 ((S1 7 0 1 3).toInt64)) (wm_ref (by decide)) ((fun _ => rfl) _) rfl lk_RX6_208 mi_X6_mix ms_X6_mix ini_RX6 mc_X6_mix md_X6_mix ⟨Nat.le_of_ble_eq_true rfl, Nat.le_of_ble_eq_true rfl⟩ ⟨Nat.le_of_ble_eq_true rfl, Nat.le_of_ble_eq_true rfl⟩ rfl (Nat.le_of_ble_eq_true rfl) (as := [.long ((S1 7 0 1 3).toInt64)]) (rest := []) rfl dX6_digest_52 rfl ?_
  refine j_nameh (fun h5 eh5 => ?_)
  refine j_iconst X dX6_digest_55 rfl (v := 0) (by decide) ?_
  refine j_istore_n X dX6_digest_56 rfl rfl (by decide) (Ls2 := [(1, .int (0)), (0, .ref (zA Z (7) (0) (0)))]) rfl ?_
  refine j_sub [0, 1] (Ls2 := [(1, .int (0)), (0, .ref (zA Z (7) (0) (0)))]) rfl ?_
  refine L_rd2 l Z S1 (by subst eS1; subst eh2; subst eh3; subst eh4; subst eh5; rw [setO_M (by decide)]; exact hcc) X (rCC S1) 0 h5 (by omega) ?_
  refine j_nameh (fun h6 eh6 => ?_)
  refine j_iconst X dX6_digest_78 rfl (v := 0) (by decide) ?_
  refine j_istore_n X dX6_digest_79 rfl rfl (by decide) (Ls2 := [(1, .int (0)), (0, .ref (zA Z (7) (0) (0)))]) rfl ?_
  refine j_sub [0, 1] (Ls2 := [(1, .int (0)), (0, .ref (zA Z (7) (0) (0)))]) rfl ?_
  refine L_rd3 l Z S1 (by subst eS1; subst eh2; subst eh3; subst eh4; subst eh5; subst eh6; rw [setO_M (by decide)]; exact hcc) X 8 0 h6 (by omega) ?_
  refine j_nameh (fun h7 eh7 => ?_)
  refine j_iconst X dX6_digest_103 rfl (v := 0) (by decide) ?_
  refine j_istore_n X dX6_digest_104 rfl rfl (by decide) (Ls2 := [(1, .int (0)), (0, .ref (zA Z (7) (0) (0)))]) rfl ?_
  refine j_sub [0, 1] (Ls2 := [(1, .int (0)), (0, .ref (zA Z (7) (0) (0)))]) rfl ?_
  refine L_rd4 l Z S1 (by subst eS1; subst eh2; subst eh3; subst eh4; subst eh5; subst eh6; subst eh7; rw [setO_M (by decide)]; exact hcc) X 8 0 h7 (by omega) ?_
  refine j_nameh (fun h8 eh8 => ?_)
  refine j_iconst X dX6_digest_128 rfl (v := 0) (by decide) ?_
  refine j_istore_n X dX6_digest_129 rfl rfl (by decide) (Ls2 := [(1, .int (0)), (0, .ref (zA Z (7) (0) (0)))]) rfl ?_
  refine j_sub [0, 1] (Ls2 := [(1, .int (0)), (0, .ref (zA Z (7) (0) (0)))]) rfl ?_
  refine L_rd5 l Z S1  X 8 0 h8 (by omega) ?_
  refine j_nameh (fun h9 eh9 => ?_)
  refine j_aload_n X dX6_digest_156 rfl rfl (q := 0) rfl ?_
  refine j_aload_n X dX6_digest_157 rfl rfl (q := 0) rfl ?_
  refine jg_model X 0 (by decide) lk_RX6_7 rfl rfl dX6_digest_158 rfl ?_
  refine j_bipush X dX6_digest_161 rfl (v := 21) (by decide) ?_
  refine j_ialdN X (k := 21) (wm_ref (by decide)) ((fun _ => rfl) _) (by decide) (by decide) dX6_digest_163 rfl ?_
  refine j_i2l X dX6_digest_164 rfl ?_
  refine j_callv X (c_X6_mix l Z S1 h9 ((S1 7 0 1 21).toInt64)) (wm_ref (by decide)) ((fun _ => rfl) _) rfl lk_RX6_208 mi_X6_mix ms_X6_mix ini_RX6 mc_X6_mix md_X6_mix ⟨Nat.le_of_ble_eq_true rfl, Nat.le_of_ble_eq_true rfl⟩ ⟨Nat.le_of_ble_eq_true rfl, Nat.le_of_ble_eq_true rfl⟩ rfl (Nat.le_of_ble_eq_true rfl) (as := [.long ((S1 7 0 1 21).toInt64)]) (rest := []) rfl dX6_digest_165 rfl ?_
  refine j_nameh (fun h10 eh10 => ?_)
  refine j_aload_n X dX6_digest_168 rfl rfl (q := 0) rfl ?_
  refine j_aload_n X dX6_digest_169 rfl rfl (q := 0) rfl ?_
  refine jg_model X 5 (by decide) lk_RX6_49 rfl rfl dX6_digest_170 rfl ?_
  refine j_i2l X dX6_digest_173 rfl ?_
  refine j_callv X (c_X6_mix l Z S1 h10 ((S1 7 0 0 5).toInt64)) (wm_ref (by decide)) ((fun _ => rfl) _) rfl lk_RX6_208 mi_X6_mix ms_X6_mix ini_RX6 mc_X6_mix md_X6_mix ⟨Nat.le_of_ble_eq_true rfl, Nat.le_of_ble_eq_true rfl⟩ ⟨Nat.le_of_ble_eq_true rfl, Nat.le_of_ble_eq_true rfl⟩ rfl (Nat.le_of_ble_eq_true rfl) (as := [.long ((S1 7 0 0 5).toInt64)]) (rest := []) rfl dX6_digest_174 rfl ?_
  refine j_nameh (fun h11 eh11 => ?_)
  refine j_aload_n X dX6_digest_177 rfl rfl (q := 0) rfl ?_
  refine jg_model X 16 (by decide) lk_RX6_204 rfl rfl dX6_digest_178 rfl ?_
  have eH : h11 = rDgH (rCd S 0) h := by rw [eh11, eh10, eh9, eh8, eh7, eh6, eh5, eh4, eh3, eh2, eS1, rDgH]
  exact j_retl (by rw [eH]) eS1 eH (K _ _ dX6_digest_181)
set_option maxRecDepth 100000 in
set_option maxHeartbeats 400000 in
theorem L_se0 (l : Launch) (Z : wZ) (h : Hl)  {p : Program} {e : Env} {s : State} {mi : MethodId} {args : Array Value} {below : List Frame} {meth : Method} {c : Code} {A0 : Nat → Prop} {Q : State → Prop} (X : JX p s mi args meth c cX6_serializable 5 yX6_serializable.cls Z A0) : ∀ (n k : Nat) (S : St), k + n = 8 → J p l e { frames := 1, cells := 0, slots := 0, locals := 21 } s mi args below meth c 5 Z A0 0 0 Q ((lp (rSeZ) n k S)) h [(0, .ref (zA Z (7) (0) (0)))] 26 [] → J p l e { frames := 1, cells := 0, slots := 0, locals := 21 } s mi args below meth c 5 Z A0 0 0 Q S h [(1, .int (nI (k))), (0, .ref (zA Z (7) (0) (0)))] 7 [] := by
  intro n
  induction n with
  | zero =>
    intro k S hkn hk
    have hkN : 8 = k := by omega
    subst hkN
    refine j_iload_n X dX6_serializable_7 rfl rfl (q := 0) rfl ?_
    refine j_bipush X dX6_serializable_8 rfl (v := 8) (by decide) ?_
    refine j_icmp_ge_t X (tgt := 26) dX6_serializable_10 (by decide) (nI_le (Nat.le_refl _) (by decide)) ?_
    refine j_sub [1] (Ls2 := [(0, .ref (zA Z (7) (0) (0)))]) rfl ?_
    exact hk
  | succ n ih =>
    intro k S hkn hk
    have hlt : k < 8 := by omega
    refine j_iload_n X dX6_serializable_7 rfl rfl (q := 0) rfl ?_
    refine j_bipush X dX6_serializable_8 rfl (v := 8) (by decide) ?_
    refine j_icmp_ge_f X dX6_serializable_10 rfl (tgt := 26) (by decide) (nI_ge hlt (by decide)) ?_
    refine j_aload_n X dX6_serializable_13 rfl rfl (q := 1) rfl ?_
    refine jg_model X 14 (by decide) lk_RX6_31 rfl rfl dX6_serializable_14 rfl ?_
    refine j_iload_n X dX6_serializable_17 rfl rfl (q := 0) rfl ?_
    refine j_iconst X dX6_serializable_18 rfl (v := 0) (by decide) ?_
    refine j_iastN X (k := k) (wm_ref (by decide)) (fun r => (fun _ => rfl) r) hlt (by decide) dX6_serializable_19 rfl ?_
    refine j_name (fun S1 eS1 => ?_)
    refine j_iinc X dX6_serializable_20 rfl (q := 0) rfl (v := (nI (k + 1))) (nI_1 _) (by decide) (Ls2 := [(1, .int (nI (k + 1))), (0, .ref (zA Z (7) (0) (0)))]) rfl ?_
    refine j_goto X (tgt := 7) dX6_serializable_23 (by decide) ?_
    have eB : (rSeZ) k S = S1 := by subst eS1; first | with_reducible rfl | (simp [rSeZ]; done) | (simp_all [rSeZ]; done) | rfl
    have eL : lp (rSeZ) (n + 1) k S = lp (rSeZ) n (k + 1) S1 := congrArg (lp (rSeZ) n (k + 1)) eB
    rw [eL] at hk
    exact ih (k + 1) S1 (by omega) hk
set_option maxRecDepth 100000 in
set_option maxHeartbeats 400000 in
theorem L_se1 (l : Launch) (Z : wZ) (h : Hl) (S : St) (kk : Nat) (hkk : kk < 400) {p : Program} {e : Env} {s : State} {mi : MethodId} {args : Array Value} {below : List Frame} {meth : Method} {c : Code} {A0 : Nat → Prop} {Q : State → Prop} (X : JX p s mi args meth c cX6_serializable 5 yX6_serializable.cls Z A0) : ∀ (n k : Nat) (b1 : Int32), k + n = 8 → J p l e { frames := 1, cells := 0, slots := 0, locals := 21 } s mi args below meth c 5 Z A0 0 0 Q (S) h [(0, .ref (zA Z (7) (0) (0))), (1, .int ((lp (rSeF S (406 + 19 * kk)) n k b1))), (2, .int (nI (kk))), (3, .int (nI (406 + 19 * kk)))] 113 [] → J p l e { frames := 1, cells := 0, slots := 0, locals := 21 } s mi args below meth c 5 Z A0 0 0 Q S h [(4, .int (nI (k))), (0, .ref (zA Z (7) (0) (0))), (1, .int (b1)), (2, .int (nI (kk))), (3, .int (nI (406 + 19 * kk)))] 53 [] := by
  intro n
  induction n with
  | zero =>
    intro k b1 hkn hk
    have hkN : 8 = k := by omega
    subst hkN
    refine j_iload X dX6_serializable_53 rfl (q := 0) rfl ?_
    refine j_bipush X dX6_serializable_55 rfl (v := 8) (by decide) ?_
    refine j_icmp_ge_t X (tgt := 113) dX6_serializable_57 (by decide) (nI_le (Nat.le_refl _) (by decide)) ?_
    refine j_sub [1, 2, 3, 4] (Ls2 := [(0, .ref (zA Z (7) (0) (0))), (1, .int (b1)), (2, .int (nI (kk))), (3, .int (nI (406 + 19 * kk)))]) rfl ?_
    exact hk
  | succ n ih =>
    intro k b1 hkn hk
    have hlt : k < 8 := by omega
    refine j_iload X dX6_serializable_53 rfl (q := 0) rfl ?_
    refine j_bipush X dX6_serializable_55 rfl (v := 8) (by decide) ?_
    refine j_icmp_ge_f X dX6_serializable_57 rfl (tgt := 113) (by decide) (nI_ge hlt (by decide)) ?_
    refine j_iload_n X dX6_serializable_60 rfl rfl (q := 2) rfl ?_
    refine j_if_eq X dX6_serializable_61 rfl (tgt := 105) (by decide) (fun c_61 => ?_) (fun c_61 => ?_)
    · refine j_iconst X dX6_serializable_105 rfl (v := 0) (by decide) ?_
      refine j_istore_n X dX6_serializable_106 rfl rfl (by decide) (Ls2 := [(1, .int (0)), (4, .int (nI (k))), (0, .ref (zA Z (7) (0) (0))), (2, .int (nI (kk))), (3, .int (nI (406 + 19 * kk)))]) rfl ?_
      refine j_iinc X dX6_serializable_107 rfl (q := 1) rfl (v := (nI (k + 1))) (nI_1 _) (by decide) (Ls2 := [(4, .int (nI (k + 1))), (1, .int (0)), (0, .ref (zA Z (7) (0) (0))), (2, .int (nI (kk))), (3, .int (nI (406 + 19 * kk)))]) rfl ?_
      refine j_goto X (tgt := 53) dX6_serializable_110 (by decide) ?_
      refine j_sub [0, 2, 1, 3, 4] (Ls2 := [(4, .int (nI (k + 1))), (0, .ref (zA Z (7) (0) (0))), (1, .int (0)), (2, .int (nI (kk))), (3, .int (nI (406 + 19 * kk)))]) rfl ?_
      have eB : (rSeF S (406 + 19 * kk)) k b1 = (0) := by first | with_reducible rfl | (simp [rSeF, c_61]; done) | (simp_all [rSeF]; done) | rfl
      have eL : lp (rSeF S (406 + 19 * kk)) (n + 1) k b1 = lp (rSeF S (406 + 19 * kk)) n (k + 1) (0) := congrArg (lp (rSeF S (406 + 19 * kk)) n (k + 1)) eB
      rw [eL] at hk
      exact ih (k + 1) ((0)) (by omega) hk
    · refine j_aload_n X dX6_serializable_64 rfl rfl (q := 1) rfl ?_
      refine jg_model X 0 (by decide) lk_RX6_7 rfl rfl dX6_serializable_65 rfl ?_
      refine j_iload_n X dX6_serializable_68 rfl rfl (q := 4) rfl ?_
      refine j_iconst X dX6_serializable_69 rfl (v := 2) (by decide) ?_
      refine j_iadd X dX6_serializable_70 rfl ?_
      refine j_topeq (y := nI ((406 + 19 * kk) + 2)) (nI_add (406 + 19 * kk) 2) ?_
      refine j_ialdN X (k := (406 + 19 * kk) + 2) (wm_ref (by decide)) ((fun _ => rfl) _) (by omega) (by decide) dX6_serializable_71 rfl ?_
      refine j_iload X dX6_serializable_72 rfl (q := 0) rfl ?_
      refine j_callSi X (c_X6_hasLine l Z S h (S 7 0 1 ((406 + 19 * kk) + 2)) (nI (k))) lk_RX6_110 mt_X6_hasLine ini_RX6 mc_X6_hasLine md_X6_hasLine ⟨Nat.le_of_ble_eq_true rfl, Nat.le_of_ble_eq_true rfl⟩ ⟨Nat.le_of_ble_eq_true rfl, Nat.le_of_ble_eq_true rfl⟩ rfl (Nat.le_of_ble_eq_true rfl) (as := [.int (S 7 0 1 ((406 + 19 * kk) + 2)), .int (nI (k))]) (rest := []) rfl dX6_serializable_74 rfl ?_
      refine j_ifb_eq X dX6_serializable_77 rfl (tgt := 101) (by decide) (fun c_77 => ?_) (fun c_77 => ?_)
      · refine j_iconst X dX6_serializable_101 rfl (v := 1) (by decide) ?_
        refine j_goto X (tgt := 106) dX6_serializable_102 (by decide) ?_
        refine j_istore_n X dX6_serializable_106 rfl rfl (by decide) (Ls2 := [(1, .int (1)), (4, .int (nI (k))), (0, .ref (zA Z (7) (0) (0))), (2, .int (nI (kk))), (3, .int (nI (406 + 19 * kk)))]) rfl ?_
        refine j_iinc X dX6_serializable_107 rfl (q := 1) rfl (v := (nI (k + 1))) (nI_1 _) (by decide) (Ls2 := [(4, .int (nI (k + 1))), (1, .int (1)), (0, .ref (zA Z (7) (0) (0))), (2, .int (nI (kk))), (3, .int (nI (406 + 19 * kk)))]) rfl ?_
        refine j_goto X (tgt := 53) dX6_serializable_110 (by decide) ?_
        refine j_sub [0, 2, 1, 3, 4] (Ls2 := [(4, .int (nI (k + 1))), (0, .ref (zA Z (7) (0) (0))), (1, .int (1)), (2, .int (nI (kk))), (3, .int (nI (406 + 19 * kk)))]) rfl ?_
        have eB : (rSeF S (406 + 19 * kk)) k b1 = (1) := by first | with_reducible rfl | (simp [rSeF, c_61, c_77]; done) | (simp_all [rSeF]; done) | rfl
        have eL : lp (rSeF S (406 + 19 * kk)) (n + 1) k b1 = lp (rSeF S (406 + 19 * kk)) n (k + 1) (1) := congrArg (lp (rSeF S (406 + 19 * kk)) n (k + 1)) eB
        rw [eL] at hk
        exact ih (k + 1) ((1)) (by omega) hk
      · refine j_aload_n X dX6_serializable_80 rfl rfl (q := 1) rfl ?_
        refine jg_model X 14 (by decide) lk_RX6_31 rfl rfl dX6_serializable_81 rfl ?_
        refine j_iload X dX6_serializable_84 rfl (q := 0) rfl ?_
        refine j_ialdN X (k := k) (wm_ref (by decide)) ((fun _ => rfl) _) hlt (by decide) dX6_serializable_86 rfl ?_
        refine j_aload_n X dX6_serializable_87 rfl rfl (q := 1) rfl ?_
        refine jg_model X 0 (by decide) lk_RX6_7 rfl rfl dX6_serializable_88 rfl ?_
        refine j_iload_n X dX6_serializable_91 rfl rfl (q := 4) rfl ?_
        refine j_iconst X dX6_serializable_92 rfl (v := 3) (by decide) ?_
        refine j_iadd X dX6_serializable_93 rfl ?_
        refine j_topeq (y := nI ((406 + 19 * kk) + 3)) (nI_add (406 + 19 * kk) 3) ?_
        refine j_iload X dX6_serializable_94 rfl (q := 0) rfl ?_
        refine j_iadd X dX6_serializable_96 rfl ?_
        refine j_topeq (y := nI (((406 + 19 * kk) + 3) + k)) (nI_add ((406 + 19 * kk) + 3) k) ?_
        refine j_ialdN X (k := ((406 + 19 * kk) + 3) + k) (wm_ref (by decide)) ((fun _ => rfl) _) (by omega) (by decide) dX6_serializable_97 rfl ?_
        refine j_icmp_ne X dX6_serializable_98 rfl (tgt := 105) (by decide) (fun c_98 => ?_) (fun c_98 => ?_)
        · refine j_iconst X dX6_serializable_105 rfl (v := 0) (by decide) ?_
          refine j_istore_n X dX6_serializable_106 rfl rfl (by decide) (Ls2 := [(1, .int (0)), (4, .int (nI (k))), (0, .ref (zA Z (7) (0) (0))), (2, .int (nI (kk))), (3, .int (nI (406 + 19 * kk)))]) rfl ?_
          refine j_iinc X dX6_serializable_107 rfl (q := 1) rfl (v := (nI (k + 1))) (nI_1 _) (by decide) (Ls2 := [(4, .int (nI (k + 1))), (1, .int (0)), (0, .ref (zA Z (7) (0) (0))), (2, .int (nI (kk))), (3, .int (nI (406 + 19 * kk)))]) rfl ?_
          refine j_goto X (tgt := 53) dX6_serializable_110 (by decide) ?_
          refine j_sub [0, 2, 1, 3, 4] (Ls2 := [(4, .int (nI (k + 1))), (0, .ref (zA Z (7) (0) (0))), (1, .int (0)), (2, .int (nI (kk))), (3, .int (nI (406 + 19 * kk)))]) rfl ?_
          have eB : (rSeF S (406 + 19 * kk)) k b1 = (0) := by first | with_reducible rfl | (simp [rSeF, c_61, c_77, c_98]; done) | (simp_all [rSeF]; done) | rfl
          have eL : lp (rSeF S (406 + 19 * kk)) (n + 1) k b1 = lp (rSeF S (406 + 19 * kk)) n (k + 1) (0) := congrArg (lp (rSeF S (406 + 19 * kk)) n (k + 1)) eB
          rw [eL] at hk
          exact ih (k + 1) ((0)) (by omega) hk
        · refine j_iconst X dX6_serializable_101 rfl (v := 1) (by decide) ?_
          refine j_goto X (tgt := 106) dX6_serializable_102 (by decide) ?_
          refine j_istore_n X dX6_serializable_106 rfl rfl (by decide) (Ls2 := [(1, .int (1)), (4, .int (nI (k))), (0, .ref (zA Z (7) (0) (0))), (2, .int (nI (kk))), (3, .int (nI (406 + 19 * kk)))]) rfl ?_
          refine j_iinc X dX6_serializable_107 rfl (q := 1) rfl (v := (nI (k + 1))) (nI_1 _) (by decide) (Ls2 := [(4, .int (nI (k + 1))), (1, .int (1)), (0, .ref (zA Z (7) (0) (0))), (2, .int (nI (kk))), (3, .int (nI (406 + 19 * kk)))]) rfl ?_
          refine j_goto X (tgt := 53) dX6_serializable_110 (by decide) ?_
          refine j_sub [0, 2, 1, 3, 4] (Ls2 := [(4, .int (nI (k + 1))), (0, .ref (zA Z (7) (0) (0))), (1, .int (1)), (2, .int (nI (kk))), (3, .int (nI (406 + 19 * kk)))]) rfl ?_
          have eB : (rSeF S (406 + 19 * kk)) k b1 = (1) := by first | with_reducible rfl | (simp [rSeF, c_61, c_77, c_98]; done) | (simp_all [rSeF]; done) | rfl
          have eL : lp (rSeF S (406 + 19 * kk)) (n + 1) k b1 = lp (rSeF S (406 + 19 * kk)) n (k + 1) (1) := congrArg (lp (rSeF S (406 + 19 * kk)) n (k + 1)) eB
          rw [eL] at hk
          exact ih (k + 1) ((1)) (by omega) hk
set_option maxRecDepth 100000 in
set_option maxHeartbeats 400000 in
theorem L_se2 (l : Launch) (Z : wZ) (h : Hl) (kk : Nat) (hkk : kk < 400) (b1 : Int32) {p : Program} {e : Env} {s : State} {mi : MethodId} {args : Array Value} {below : List Frame} {meth : Method} {c : Code} {A0 : Nat → Prop} {Q : State → Prop} (X : JX p s mi args meth c cX6_serializable 5 yX6_serializable.cls Z A0) : ∀ (n k : Nat) (S : St), k + n = 8 → J p l e { frames := 1, cells := 0, slots := 0, locals := 21 } s mi args below meth c 5 Z A0 0 0 Q ((lp (rSeG (406 + 19 * kk)) n k S)) h [(0, .ref (zA Z (7) (0) (0))), (1, .int (b1)), (2, .int (nI (kk)))] 178 [] → J p l e { frames := 1, cells := 0, slots := 0, locals := 21 } s mi args below meth c 5 Z A0 0 0 Q S h [(4, .int (nI (k))), (0, .ref (zA Z (7) (0) (0))), (1, .int (b1)), (2, .int (nI (kk))), (3, .int (nI (406 + 19 * kk)))] 116 [] := by
  intro n
  induction n with
  | zero =>
    intro k S hkn hk
    have hkN : 8 = k := by omega
    subst hkN
    refine j_iload X dX6_serializable_116 rfl (q := 0) rfl ?_
    refine j_bipush X dX6_serializable_118 rfl (v := 8) (by decide) ?_
    refine j_icmp_ge_t X (tgt := 178) dX6_serializable_120 (by decide) (nI_le (Nat.le_refl _) (by decide)) ?_
    refine j_sub [1, 2, 3] (Ls2 := [(0, .ref (zA Z (7) (0) (0))), (1, .int (b1)), (2, .int (nI (kk)))]) rfl ?_
    exact hk
  | succ n ih =>
    intro k S hkn hk
    have hlt : k < 8 := by omega
    refine j_iload X dX6_serializable_116 rfl (q := 0) rfl ?_
    refine j_bipush X dX6_serializable_118 rfl (v := 8) (by decide) ?_
    refine j_icmp_ge_f X dX6_serializable_120 rfl (tgt := 178) (by decide) (nI_ge hlt (by decide)) ?_
    refine j_aload_n X dX6_serializable_123 rfl rfl (q := 1) rfl ?_
    refine jg_model X 14 (by decide) lk_RX6_31 rfl rfl dX6_serializable_124 rfl ?_
    refine j_iload X dX6_serializable_127 rfl (q := 0) rfl ?_
    refine j_aload_n X dX6_serializable_129 rfl rfl (q := 1) rfl ?_
    refine jg_model X 0 (by decide) lk_RX6_7 rfl rfl dX6_serializable_130 rfl ?_
    refine j_iload_n X dX6_serializable_133 rfl rfl (q := 4) rfl ?_
    refine j_iconst X dX6_serializable_134 rfl (v := 2) (by decide) ?_
    refine j_iadd X dX6_serializable_135 rfl ?_
    refine j_topeq (y := nI ((406 + 19 * kk) + 2)) (nI_add (406 + 19 * kk) 2) ?_
    refine j_ialdN X (k := (406 + 19 * kk) + 2) (wm_ref (by decide)) ((fun _ => rfl) _) (by omega) (by decide) dX6_serializable_136 rfl ?_
    refine j_sipush X dX6_serializable_137 rfl (v := 256) (by decide) ?_
    refine j_idiv X dX6_serializable_140 rfl (by decide) ?_
    refine j_iload X dX6_serializable_141 rfl (q := 0) rfl ?_
    refine j_callSi X (c_X6_hasLine l Z S h ((S 7 0 1 ((406 + 19 * kk) + 2)) / (256)) (nI (k))) lk_RX6_110 mt_X6_hasLine ini_RX6 mc_X6_hasLine md_X6_hasLine ⟨Nat.le_of_ble_eq_true rfl, Nat.le_of_ble_eq_true rfl⟩ ⟨Nat.le_of_ble_eq_true rfl, Nat.le_of_ble_eq_true rfl⟩ rfl (Nat.le_of_ble_eq_true rfl) (as := [.int ((S 7 0 1 ((406 + 19 * kk) + 2)) / (256)), .int (nI (k))]) (rest := [.int (nI (k)), .ref (zA Z (7) (0) (8))]) rfl dX6_serializable_143 rfl ?_
    refine j_ifb_eq X dX6_serializable_146 rfl (tgt := 164) (by decide) (fun c_146 => ?_) (fun c_146 => ?_)
    · refine j_aload_n X dX6_serializable_164 rfl rfl (q := 1) rfl ?_
      refine jg_model X 14 (by decide) lk_RX6_31 rfl rfl dX6_serializable_165 rfl ?_
      refine j_iload X dX6_serializable_168 rfl (q := 0) rfl ?_
      refine j_ialdN X (k := k) (wm_ref (by decide)) ((fun _ => rfl) _) hlt (by decide) dX6_serializable_170 rfl ?_
      refine j_iastN X (k := k) (wm_ref (by decide)) (fun r => (fun _ => rfl) r) hlt (by decide) dX6_serializable_171 rfl ?_
      refine j_name (fun S1 eS1 => ?_)
      refine j_iinc X dX6_serializable_172 rfl (q := 0) rfl (v := (nI (k + 1))) (nI_1 _) (by decide) (Ls2 := [(4, .int (nI (k + 1))), (0, .ref (zA Z (7) (0) (0))), (1, .int (b1)), (2, .int (nI (kk))), (3, .int (nI (406 + 19 * kk)))]) rfl ?_
      refine j_goto X (tgt := 116) dX6_serializable_175 (by decide) ?_
      have eB : (rSeG (406 + 19 * kk)) k S = S1 := by subst eS1; first | with_reducible rfl | (simp [rSeG, c_146]; done) | (simp_all [rSeG]; done) | rfl
      have eL : lp (rSeG (406 + 19 * kk)) (n + 1) k S = lp (rSeG (406 + 19 * kk)) n (k + 1) S1 := congrArg (lp (rSeG (406 + 19 * kk)) n (k + 1)) eB
      rw [eL] at hk
      exact ih (k + 1) S1 (by omega) hk
    · refine j_aload_n X dX6_serializable_149 rfl rfl (q := 1) rfl ?_
      refine jg_model X 0 (by decide) lk_RX6_7 rfl rfl dX6_serializable_150 rfl ?_
      refine j_iload_n X dX6_serializable_153 rfl rfl (q := 4) rfl ?_
      refine j_bipush X dX6_serializable_154 rfl (v := 11) (by decide) ?_
      refine j_iadd X dX6_serializable_156 rfl ?_
      refine j_topeq (y := nI ((406 + 19 * kk) + 11)) (nI_add (406 + 19 * kk) 11) ?_
      refine j_iload X dX6_serializable_157 rfl (q := 0) rfl ?_
      refine j_iadd X dX6_serializable_159 rfl ?_
      refine j_topeq (y := nI (((406 + 19 * kk) + 11) + k)) (nI_add ((406 + 19 * kk) + 11) k) ?_
      refine j_ialdN X (k := ((406 + 19 * kk) + 11) + k) (wm_ref (by decide)) ((fun _ => rfl) _) (by omega) (by decide) dX6_serializable_160 rfl ?_
      refine j_goto X (tgt := 171) dX6_serializable_161 (by decide) ?_
      refine j_iastN X (k := k) (wm_ref (by decide)) (fun r => (fun _ => rfl) r) hlt (by decide) dX6_serializable_171 rfl ?_
      refine j_name (fun S2 eS2 => ?_)
      refine j_iinc X dX6_serializable_172 rfl (q := 0) rfl (v := (nI (k + 1))) (nI_1 _) (by decide) (Ls2 := [(4, .int (nI (k + 1))), (0, .ref (zA Z (7) (0) (0))), (1, .int (b1)), (2, .int (nI (kk))), (3, .int (nI (406 + 19 * kk)))]) rfl ?_
      refine j_goto X (tgt := 116) dX6_serializable_175 (by decide) ?_
      have eB : (rSeG (406 + 19 * kk)) k S = S2 := by subst eS2; first | with_reducible rfl | (simp [rSeG, c_146]; done) | (simp_all [rSeG]; done) | rfl
      have eL : lp (rSeG (406 + 19 * kk)) (n + 1) k S = lp (rSeG (406 + 19 * kk)) n (k + 1) S2 := congrArg (lp (rSeG (406 + 19 * kk)) n (k + 1)) eB
      rw [eL] at hk
      exact ih (k + 1) S2 (by omega) hk
set_option maxRecDepth 100000 in
set_option maxHeartbeats 400000 in
theorem L_se (l : Launch) (Z : wZ) (h : Hl) (qq : Nat) (hq4 : qq ≤ 400) {p : Program} {e : Env} {s : State} {mi : MethodId} {args : Array Value} {below : List Frame} {meth : Method} {c : Code} {A0 : Nat → Prop} {Q : State → Prop} (X : JX p s mi args meth c cX6_serializable 5 yX6_serializable.cls Z A0) : ∀ (n k : Nat) (S : St) (b1 : Int32), k + n = qq → S 7 0 1 21 = nI qq → J p l e { frames := 1, cells := 0, slots := 0, locals := 21 } s mi args below meth c 5 Z A0 0 0 Q ((lp (rSeK) n k (S, b1)).1) h [(1, .int ((lp (rSeK) n k (S, b1)).2))] 184 [] → J p l e { frames := 1, cells := 0, slots := 0, locals := 21 } s mi args below meth c 5 Z A0 0 0 Q S h [(2, .int (nI (k))), (0, .ref (zA Z (7) (0) (0))), (1, .int (b1))] 30 [] := by
  intro n
  induction n with
  | zero =>
    intro k S b1 hkn hI hk
    have hkN : qq = k := by omega
    subst hkN
    refine j_iload_n X dX6_serializable_30 rfl rfl (q := 0) rfl ?_
    refine j_aload_n X dX6_serializable_31 rfl rfl (q := 1) rfl ?_
    refine jg_model X 0 (by decide) lk_RX6_7 rfl rfl dX6_serializable_32 rfl ?_
    refine j_bipush X dX6_serializable_35 rfl (v := 21) (by decide) ?_
    refine j_ialdN X (k := 21) (wm_ref (by decide)) ((fun _ => rfl) _) (by decide) (by decide) dX6_serializable_37 rfl ?_
    refine j_topeq (y := (nI (qq))) (hI) ?_
    refine j_icmp_ge_t X (tgt := 184) dX6_serializable_38 (by decide) (nI_le (Nat.le_refl _) (by omega)) ?_
    refine j_sub [2] (Ls2 := [(1, .int (b1))]) rfl ?_
    exact hk
  | succ n ih =>
    intro k S b1 hkn hI hk
    have hlt : k < qq := by omega
    refine j_iload_n X dX6_serializable_30 rfl rfl (q := 0) rfl ?_
    refine j_aload_n X dX6_serializable_31 rfl rfl (q := 1) rfl ?_
    refine jg_model X 0 (by decide) lk_RX6_7 rfl rfl dX6_serializable_32 rfl ?_
    refine j_bipush X dX6_serializable_35 rfl (v := 21) (by decide) ?_
    refine j_ialdN X (k := 21) (wm_ref (by decide)) ((fun _ => rfl) _) (by decide) (by decide) dX6_serializable_37 rfl ?_
    refine j_topeq (y := (nI (qq))) (hI) ?_
    refine j_icmp_ge_f X dX6_serializable_38 rfl (tgt := 184) (by decide) (nI_ge hlt (by omega)) ?_
    refine j_sipush X dX6_serializable_41 rfl (v := 406) (by decide) ?_
    refine j_bipush X dX6_serializable_44 rfl (v := 19) (by decide) ?_
    refine j_iload_n X dX6_serializable_46 rfl rfl (q := 0) rfl ?_
    refine j_imul X dX6_serializable_47 rfl ?_
    refine j_topeq (y := nI (19 * k)) (pk_mul 19 k) ?_
    refine j_iadd X dX6_serializable_48 rfl ?_
    refine j_topeq (y := nI (406 + (19 * k))) (nI_add 406 (19 * k)) ?_
    refine j_istore_n X dX6_serializable_49 rfl rfl (by decide) (Ls2 := [(3, .int (nI (406 + (19 * k)))), (2, .int (nI (k))), (0, .ref (zA Z (7) (0) (0))), (1, .int (b1))]) rfl ?_
    refine j_iconst X dX6_serializable_50 rfl (v := 0) (by decide) ?_
    refine j_istore X dX6_serializable_51 rfl (by decide) (Ls2 := [(4, .int (0)), (3, .int (nI (406 + (19 * k)))), (2, .int (nI (k))), (0, .ref (zA Z (7) (0) (0))), (1, .int (b1))]) rfl ?_
    refine j_sub [0, 3, 4, 2, 1] (Ls2 := [(4, .int (0)), (0, .ref (zA Z (7) (0) (0))), (1, .int (b1)), (2, .int (nI (k))), (3, .int (nI (406 + (19 * k))))]) rfl ?_
    refine L_se1 l Z h S k (by omega) X 8 0 ((b1)) (by omega) ?_
    refine j_iconst X dX6_serializable_113 rfl (v := 0) (by decide) ?_
    refine j_istore X dX6_serializable_114 rfl (by decide) (Ls2 := [(4, .int (0)), (0, .ref (zA Z (7) (0) (0))), (1, .int ((lp (rSeF S (406 + 19 * k)) 8 0 (b1)))), (2, .int (nI (k))), (3, .int (nI (406 + 19 * k)))]) rfl ?_
    refine j_sub [0, 1, 2, 3, 4] (Ls2 := [(4, .int (0)), (0, .ref (zA Z (7) (0) (0))), (1, .int ((lp (rSeF S (406 + 19 * k)) 8 0 (b1)))), (2, .int (nI (k))), (3, .int (nI (406 + 19 * k)))]) rfl ?_
    refine L_se2 l Z h k (by omega) (lp (rSeF S (406 + 19 * k)) 8 0 b1) X 8 0 S (by omega) ?_
    refine j_name (fun S1 eS1 => ?_)
    refine j_iinc X dX6_serializable_178 rfl (q := 2) rfl (v := (nI (k + 1))) (nI_1 _) (by decide) (Ls2 := [(2, .int (nI (k + 1))), (0, .ref (zA Z (7) (0) (0))), (1, .int (lp (rSeF S (406 + 19 * k)) 8 0 b1))]) rfl ?_
    refine j_goto X (tgt := 30) dX6_serializable_181 (by decide) ?_
    refine j_sub [0, 1, 2] (Ls2 := [(2, .int (nI (k + 1))), (0, .ref (zA Z (7) (0) (0))), (1, .int (lp (rSeF S (406 + 19 * k)) 8 0 b1))]) rfl ?_
    have eB : (rSeK) k (S, b1) = (S1, (lp (rSeF S (406 + 19 * k)) 8 0 b1)) := by subst eS1; first | with_reducible rfl | (simp [rSeK]; done) | (simp_all [rSeK]; done) | rfl
    have eL : lp (rSeK) (n + 1) k (S, b1) = lp (rSeK) n (k + 1) (S1, (lp (rSeF S (406 + 19 * k)) 8 0 b1)) := congrArg (lp (rSeK) n (k + 1)) eB
    rw [eL] at hk
    exact ih (k + 1) S1 ((lp (rSeF S (406 + 19 * k)) 8 0 b1)) (by omega) (by subst eS1; rw [rSeL_m]; exact hI) hk
set_option maxRecDepth 100000 in
set_option maxHeartbeats 400000 in
theorem c_X6_serializable (l : Launch) (Z : wZ) (S : St) (h : Hl) (hq : okI (S 7 0 1 21) 400) : Ci l yX6_serializable cX6_serializable 5 .boolean 1 21 Z [.ref (zA Z (7) (0) (0))] S h (bI (decide ((rSer S).2 = 1))) ((rSer S).1) (h) := by
  refine Ci.of rfl (bI_nar _) (Nat.le_of_ble_eq_true rfl) (fun p e s mi args below meth c A0 Q X K => ?_)
  refine j_at rfl rfl (Ls3 := [(0, .ref (zA Z (7) (0) (0)))]) rfl rfl ?_
  refine j_aload_n X dX6_serializable_0 rfl rfl (q := 0) rfl ?_
  refine j_iconst X dX6_serializable_1 rfl (v := 0) (by decide) ?_
  refine jp_model X 9 (by decide) lk_RX6_41 rfl rfl rfl (vp_nar_int _) rfl rfl dX6_serializable_2 rfl ?_
  refine j_name (fun S1 eS1 => ?_)
  refine j_iconst X dX6_serializable_5 rfl (v := 0) (by decide) ?_
  refine j_istore_n X dX6_serializable_6 rfl rfl (by decide) (Ls2 := [(1, .int (0)), (0, .ref (zA Z (7) (0) (0)))]) rfl ?_
  refine j_sub [0, 1] (Ls2 := [(1, .int (0)), (0, .ref (zA Z (7) (0) (0)))]) rfl ?_
  refine L_se0 l Z h  X 8 0 S1 (by omega) ?_
  refine j_name (fun S2 eS2 => ?_)
  refine j_iconst X dX6_serializable_26 rfl (v := 1) (by decide) ?_
  refine j_istore_n X dX6_serializable_27 rfl rfl (by decide) (Ls2 := [(1, .int (1)), (0, .ref (zA Z (7) (0) (0)))]) rfl ?_
  refine j_iconst X dX6_serializable_28 rfl (v := 0) (by decide) ?_
  refine j_istore_n X dX6_serializable_29 rfl rfl (by decide) (Ls2 := [(2, .int (0)), (1, .int (1)), (0, .ref (zA Z (7) (0) (0)))]) rfl ?_
  refine j_sub [0, 2, 1] (Ls2 := [(2, .int (0)), (0, .ref (zA Z (7) (0) (0))), (1, .int (1))]) rfl ?_
  refine L_se l Z h (rQ S) hq.2 X (rQ S) 0 S2 ((1)) (by omega) (by subst eS1; subst eS2; rw [rSeZ_m, setO_M (by decide)]; exact hq.1) ?_
  refine j_name (fun S3 eS3 => ?_)
  refine j_iload_n X dX6_serializable_184 rfl rfl (q := 0) rfl ?_
  exact j_ret (by subst eS1; subst eS2; subst eS3; exact rSer_b S) (by subst eS1; subst eS2; subst eS3; rfl) rfl (K _ _ dX6_serializable_185)
set_option maxRecDepth 100000 in
set_option maxHeartbeats 400000 in
theorem c_X6_run (l : Launch) (Z : wZ) (S : St) (h : Hl) (b : Nat) (hb : b ≤ 1000) (hx : rIn (nI b) 0 1000 = true) (hok : okRs (rKeep (rCd S 0)) b) (hfc : okI (rRunQ S b 7 0 1 0) 4) : Ci l yX6_run cX6_run 2 .int 10 226 Z [.ref (zA Z (7) (0) (0)), .int (nI (b))] S h (rFinC (rRunQ S b)) (rRunQ S b) (h) := by
  refine Ci.of rfl rfl (Nat.le_of_ble_eq_true rfl) (fun p e s mi args below meth c A0 Q X K => ?_)
  refine j_at rfl rfl (Ls3 := [(0, .ref (zA Z (7) (0) (0))), (1, .int (nI (b)))]) rfl rfl ?_
  refine j_aload_n X dX6_run_0 rfl rfl (q := 0) rfl ?_
  refine j_iload_n X dX6_run_1 rfl rfl (q := 1) rfl ?_
  refine j_iconst X dX6_run_2 rfl (v := 0) (by decide) ?_
  refine j_sipush X dX6_run_3 rfl (v := 1000) (by decide) ?_
  refine j_callSi X (c_X6_in l Z S h (nI (b)) (0) (1000)) lk_RX6_56 mt_X6_in ini_RX6 mc_X6_in md_X6_in ⟨Nat.le_of_ble_eq_true rfl, Nat.le_of_ble_eq_true rfl⟩ ⟨Nat.le_of_ble_eq_true rfl, Nat.le_of_ble_eq_true rfl⟩ rfl (Nat.le_of_ble_eq_true rfl) (as := [.int (nI (b)), .int (0), .int (1000)]) (rest := [.ref (zA Z (7) (0) (0))]) rfl dX6_run_6 rfl ?_
  refine j_if_eq_f X dX6_run_9 rfl (tgt := 16) (by decide) (by rw [show rIn (nI b) 0 1000 = true from hx]; decide) ?_
  refine j_iconst X dX6_run_12 rfl (v := 0) (by decide) ?_
  refine j_goto X (tgt := 17) dX6_run_13 (by decide) ?_
  refine jp_model X 9 (by decide) lk_RX6_41 rfl rfl rfl (vp_nar_int _) rfl rfl dX6_run_17 rfl ?_
  refine j_name (fun S1 eS1 => ?_)
  refine j_aload_n X dX6_run_20 rfl rfl (q := 0) rfl ?_
  refine jg_model X 9 (by decide) lk_RX6_41 rfl rfl dX6_run_21 rfl ?_
  refine j_topeq (y := (0)) (by rw [eS1, setF_at, if_pos ⟨rfl, rfl, rfl, rfl⟩]) ?_
  refine j_if_eq_t X (tgt := 29) dX6_run_24 (by decide) (by decide) ?_
  refine j_aload_n X dX6_run_29 rfl rfl (q := 0) rfl ?_
  refine j_callv X (c_X6_keep l Z S1 h ) (wm_ref (by decide)) ((fun _ => rfl) _) rfl lk_RX6_63 mi_X6_keep ms_X6_keep ini_RX6 mc_X6_keep md_X6_keep ⟨Nat.le_of_ble_eq_true rfl, Nat.le_of_ble_eq_true rfl⟩ ⟨Nat.le_of_ble_eq_true rfl, Nat.le_of_ble_eq_true rfl⟩ rfl (Nat.le_of_ble_eq_true rfl) (as := []) (rest := []) rfl dX6_run_30 rfl ?_
  refine j_name (fun S2 eS2 => ?_)
  refine j_aload_n X dX6_run_33 rfl rfl (q := 0) rfl ?_
  refine j_iload_n X dX6_run_34 rfl rfl (q := 1) rfl ?_
  refine j_callv X (c_X6_runs l Z S2 h b hb (by subst eS1; subst eS2; exact hok)) (wm_ref (by decide)) ((fun _ => rfl) _) rfl lk_RX6_177 mi_X6_runs ms_X6_runs ini_RX6 mc_X6_runs md_X6_runs ⟨Nat.le_of_ble_eq_true rfl, Nat.le_of_ble_eq_true rfl⟩ ⟨Nat.le_of_ble_eq_true rfl, Nat.le_of_ble_eq_true rfl⟩ rfl (Nat.le_of_ble_eq_true rfl) (as := [.int (nI (b))]) (rest := []) rfl dX6_run_35 rfl ?_
  refine j_name (fun S3 eS3 => ?_)
  refine j_aload_n X dX6_run_38 rfl rfl (q := 0) rfl ?_
  refine j_calli X (c_X6_finishedCount l Z S3 h (by subst eS1; subst eS2; subst eS3; exact hfc)) (wm_ref (by decide)) ((fun _ => rfl) _) rfl lk_RX6_164 mi_X6_finishedCount ms_X6_finishedCount ini_RX6 mc_X6_finishedCount md_X6_finishedCount ⟨Nat.le_of_ble_eq_true rfl, Nat.le_of_ble_eq_true rfl⟩ ⟨Nat.le_of_ble_eq_true rfl, Nat.le_of_ble_eq_true rfl⟩ rfl (Nat.le_of_ble_eq_true rfl) (as := []) (rest := []) rfl dX6_run_39 rfl ?_
  exact j_ret (by subst eS1; subst eS2; subst eS3; first | with_reducible rfl | (simp [rRunQ]; done) | (simp_all [rRunQ]; done) | rfl) (by subst eS1; subst eS2; subst eS3; first | with_reducible rfl | (simp [rRunQ]; done) | (simp_all [rRunQ]; done) | rfl) rfl (K _ _ dX6_run_42)
set_option maxRecDepth 100000 in
set_option maxHeartbeats 400000 in
theorem c_X6_run_no (l : Launch) (Z : wZ) (S : St) (h : Hl) (x : Int32) (hx : rIn x 0 1000 = false) : Ci l yX6_run cX6_run 2 .int 10 226 Z [.ref (zA Z (7) (0) (0)), .int (x)] S h (0) (rCd S 1) (h) := by
  refine Ci.of rfl rfl (Nat.le_of_ble_eq_true rfl) (fun p e s mi args below meth c A0 Q X K => ?_)
  refine j_at rfl rfl (Ls3 := [(0, .ref (zA Z (7) (0) (0))), (1, .int (x))]) rfl rfl ?_
  refine j_aload_n X dX6_run_0 rfl rfl (q := 0) rfl ?_
  refine j_iload_n X dX6_run_1 rfl rfl (q := 1) rfl ?_
  refine j_iconst X dX6_run_2 rfl (v := 0) (by decide) ?_
  refine j_sipush X dX6_run_3 rfl (v := 1000) (by decide) ?_
  refine j_callSi X (c_X6_in l Z S h (x) (0) (1000)) lk_RX6_56 mt_X6_in ini_RX6 mc_X6_in md_X6_in ⟨Nat.le_of_ble_eq_true rfl, Nat.le_of_ble_eq_true rfl⟩ ⟨Nat.le_of_ble_eq_true rfl, Nat.le_of_ble_eq_true rfl⟩ rfl (Nat.le_of_ble_eq_true rfl) (as := [.int (x), .int (0), .int (1000)]) (rest := [.ref (zA Z (7) (0) (0))]) rfl dX6_run_6 rfl ?_
  refine j_if_eq_t X (tgt := 16) dX6_run_9 (by decide) (by rw [show rIn x 0 1000 = false from hx]; decide) ?_
  refine j_iconst X dX6_run_16 rfl (v := 1) (by decide) ?_
  refine jp_model X 9 (by decide) lk_RX6_41 rfl rfl rfl (vp_nar_int _) rfl rfl dX6_run_17 rfl ?_
  refine j_name (fun S1 eS1 => ?_)
  refine j_aload_n X dX6_run_20 rfl rfl (q := 0) rfl ?_
  refine jg_model X 9 (by decide) lk_RX6_41 rfl rfl dX6_run_21 rfl ?_
  refine j_topeq (y := (1)) (by rw [eS1, setF_at, if_pos ⟨rfl, rfl, rfl, rfl⟩]) ?_
  refine j_if_eq_f X dX6_run_24 rfl (tgt := 29) (by decide) (by decide) ?_
  refine j_iconst X dX6_run_27 rfl (v := 0) (by decide) ?_
  exact j_ret (by subst eS1; first | with_reducible rfl | (simp []; done) | (simp_all []; done) | rfl) (by subst eS1; first | with_reducible rfl | (simp []; done) | (simp_all []; done) | rfl) rfl (K _ _ dX6_run_28)
set_option maxRecDepth 100000 in
set_option maxHeartbeats 400000 in
theorem L_fo (l : Launch) (Z : wZ) (h : Hl)  {p : Program} {e : Env} {s : State} {mi : MethodId} {args : Array Value} {below : List Frame} {meth : Method} {c : Code} {A0 : Nat → Prop} {Q : State → Prop} (X : JX p s mi args meth c cX6_finishOf 4 yX6_finishOf.cls Z A0) : ∀ (n k : Nat) (S : St) (r : Int32), k + n = 2000 → (∀ i, i ≤ n → (lpE (rUntF) i k (S, r)).1 = true → okR (lpE (rUntF) i k (S, r)).2.1) → ((lpE (rUntF) n k (S, r)).1 = true → J p l e { frames := 9, cells := 0, slots := 0, locals := 204 } s mi args below meth c 4 Z A0 0 0 Q ((lpE (rUntF) n k (S, r)).2.1) h [(2, .int (nI (2000))), (0, .ref (zA Z (7) (0) (0)))] 27 []) → ((lpE (rUntF) n k (S, r)).1 = false → J p l e { frames := 9, cells := 0, slots := 0, locals := 204 } s mi args below meth c 4 Z A0 0 0 Q ((lpE (rUntF) n k (S, r)).2.1) h [(2, .int ((lpE (rUntF) n k (S, r)).2.2)), (0, .ref (zA Z (7) (0) (0)))] 27 []) → J p l e { frames := 9, cells := 0, slots := 0, locals := 204 } s mi args below meth c 4 Z A0 0 0 Q S h [(2, .int (nI (k))), (0, .ref (zA Z (7) (0) (0)))] 7 [] := by
  intro n
  induction n with
  | zero =>
    intro k S r hkn hI hT hF
    have hkN : 2000 = k := by omega
    subst hkN
    have hD : okR S := hI 0 (Nat.zero_le _) rfl
    refine j_iload_n X dX6_finishOf_7 rfl rfl (q := 0) rfl ?_
    refine j_sipush X dX6_finishOf_8 rfl (v := 2000) (by decide) ?_
    refine j_icmp_ge_t X (tgt := 27) dX6_finishOf_11 (by decide) (nI_le (Nat.le_refl _) (by decide)) ?_
    exact hT rfl
  | succ n ih =>
    intro k S r hkn hI hT hF
    have hlt : k < 2000 := by omega
    have hD : okR S := hI 0 (Nat.zero_le _) rfl
    refine j_iload_n X dX6_finishOf_7 rfl rfl (q := 0) rfl ?_
    refine j_sipush X dX6_finishOf_8 rfl (v := 2000) (by decide) ?_
    refine j_icmp_ge_f X dX6_finishOf_11 rfl (tgt := 27) (by decide) (nI_ge hlt (by decide)) ?_
    refine j_aload_n X dX6_finishOf_14 rfl rfl (q := 1) rfl ?_
    refine j_calli X (c_X6_schedules l Z S h hD.1 hD.2.1 hD.2.2) (wm_ref (by decide)) ((fun _ => rfl) _) rfl lk_RX6_174 mi_X6_schedules ms_X6_schedules ini_RX6 mc_X6_schedules md_X6_schedules ⟨Nat.le_of_ble_eq_true rfl, Nat.le_of_ble_eq_true rfl⟩ ⟨Nat.le_of_ble_eq_true rfl, Nat.le_of_ble_eq_true rfl⟩ rfl (Nat.le_of_ble_eq_true rfl) (as := []) (rest := []) rfl dX6_finishOf_15 rfl ?_
    refine j_name (fun S1 eS1 => ?_)
    refine j_ifb_eq X dX6_finishOf_18 rfl (tgt := 27) (by decide) (fun c_18 => ?_) (fun c_18 => ?_)
    · have eB : (rUntF) k (S, r) = (false, (S1, (nI k))) := by subst eS1; first | with_reducible rfl | (simp [rUntF, c_18]; done) | (simp_all [rUntF]; done) | rfl
      have eL : lpE (rUntF) (n + 1) k (S, r) = (false, (S1, (nI k))) := by rw [lpE, eB]; rfl
      rw [eL] at hF
      refine j_sub [0, 1] (Ls2 := [(2, .int (nI (k))), (0, .ref (zA Z (7) (0) (0)))]) rfl ?_
      exact hF rfl
    · refine j_iinc X dX6_finishOf_21 rfl (q := 0) rfl (v := (nI (k + 1))) (nI_1 _) (by decide) (Ls2 := [(2, .int (nI (k + 1))), (0, .ref (zA Z (7) (0) (0)))]) rfl ?_
      refine j_goto X (tgt := 7) dX6_finishOf_24 (by decide) ?_
      have eB : (rUntF) k (S, r) = (true, (S1, r)) := by subst eS1; first | with_reducible rfl | (simp [rUntF, c_18]; done) | (simp_all [rUntF]; done) | rfl
      have eL : lpE (rUntF) (n + 1) k (S, r) = lpE (rUntF) n (k + 1) (S1, r) := by rw [lpE, eB]; rfl
      rw [eL] at hT hF
      exact ih (k + 1) S1 r (by omega) (by subst eS1; intro i hi h1; have h2 := hI (i + 1) (by omega); rw [lpE_s eB] at h2; exact h2 h1) hT hF
set_option maxRecDepth 100000 in
set_option maxHeartbeats 400000 in
theorem c_X6_finishOf (l : Launch) (Z : wZ) (S : St) (h : Hl) (x : Int32) (hok : okF S x) : Ci l yX6_finishOf cX6_finishOf 4 .int 9 204 Z [.ref (zA Z (7) (0) (0)), .int (x)] S h (rFoN S x) (rFoS S x) (h) := by
  refine Ci.of rfl rfl (Nat.le_of_ble_eq_true rfl) (fun p e s mi args below meth c A0 Q X K => ?_)
  refine j_at rfl rfl (Ls3 := [(0, .ref (zA Z (7) (0) (0))), (1, .int (x))]) rfl rfl ?_
  refine j_aload_n X dX6_finishOf_0 rfl rfl (q := 0) rfl ?_
  refine j_iload_n X dX6_finishOf_1 rfl rfl (q := 1) rfl ?_
  refine j_callv X (c_X6_beginTrial l Z S h (x)) (wm_ref (by decide)) ((fun _ => rfl) _) rfl lk_RX6_193 mi_X6_beginTrial ms_X6_beginTrial ini_RX6 mc_X6_beginTrial md_X6_beginTrial ⟨Nat.le_of_ble_eq_true rfl, Nat.le_of_ble_eq_true rfl⟩ ⟨Nat.le_of_ble_eq_true rfl, Nat.le_of_ble_eq_true rfl⟩ rfl (Nat.le_of_ble_eq_true rfl) (as := [.int (x)]) (rest := []) rfl dX6_finishOf_2 rfl ?_
  refine j_name (fun S1 eS1 => ?_)
  refine j_iconst X dX6_finishOf_5 rfl (v := 0) (by decide) ?_
  refine j_istore_n X dX6_finishOf_6 rfl rfl (by decide) (Ls2 := [(2, .int (0)), (0, .ref (zA Z (7) (0) (0))), (1, .int (x))]) rfl ?_
  refine j_sub [0, 1] (Ls2 := [(2, .int (0)), (0, .ref (zA Z (7) (0) (0)))]) rfl ?_
  refine L_fo l Z h  X 2000 0 S1 0 (by omega) (by subst eS1; exact hok.1) (fun hb2 => ?_) (fun hb2 => ?_)
  · refine j_name (fun S3 eS3 => ?_)
    refine j_aload_n X dX6_finishOf_27 rfl rfl (q := 1) rfl ?_
    refine j_calli X (c_X6_finishedCount l Z S3 h (by subst eS1; subst eS3; exact hok.2)) (wm_ref (by decide)) ((fun _ => rfl) _) rfl lk_RX6_164 mi_X6_finishedCount ms_X6_finishedCount ini_RX6 mc_X6_finishedCount md_X6_finishedCount ⟨Nat.le_of_ble_eq_true rfl, Nat.le_of_ble_eq_true rfl⟩ ⟨Nat.le_of_ble_eq_true rfl, Nat.le_of_ble_eq_true rfl⟩ rfl (Nat.le_of_ble_eq_true rfl) (as := []) (rest := []) rfl dX6_finishOf_28 rfl ?_
    refine j_aload_n X dX6_finishOf_31 rfl rfl (q := 1) rfl ?_
    refine jg_model X 0 (by decide) lk_RX6_7 rfl rfl dX6_finishOf_32 rfl ?_
    refine j_iconst X dX6_finishOf_35 rfl (v := 0) (by decide) ?_
    refine j_ialdN X (k := 0) (wm_ref (by decide)) ((fun _ => rfl) _) (by decide) (by decide) dX6_finishOf_36 rfl ?_
    refine j_icmp_ne X dX6_finishOf_37 rfl (tgt := 44) (by decide) (fun c_37 => ?_) (fun c_37 => ?_)
    · refine j_iconst X dX6_finishOf_44 rfl (v := 0) (by decide) ?_
      refine j_istore_n X dX6_finishOf_45 rfl rfl (by decide) (Ls2 := [(3, .int (0)), (2, .int (nI (2000))), (0, .ref (zA Z (7) (0) (0)))]) rfl ?_
      refine j_aload_n X dX6_finishOf_46 rfl rfl (q := 2) rfl ?_
      refine j_callv X (c_X6_endTrial l Z S3 h ) (wm_ref (by decide)) ((fun _ => rfl) _) rfl lk_RX6_196 mi_X6_endTrial ms_X6_endTrial ini_RX6 mc_X6_endTrial md_X6_endTrial ⟨Nat.le_of_ble_eq_true rfl, Nat.le_of_ble_eq_true rfl⟩ ⟨Nat.le_of_ble_eq_true rfl, Nat.le_of_ble_eq_true rfl⟩ rfl (Nat.le_of_ble_eq_true rfl) (as := []) (rest := []) rfl dX6_finishOf_47 rfl ?_
      refine j_name (fun S4 eS4 => ?_)
      refine j_iload_n X dX6_finishOf_50 rfl rfl (q := 0) rfl ?_
      refine j_if_eq_t X (tgt := 58) dX6_finishOf_51 (by decide) (by decide) ?_
      refine j_iconst X dX6_finishOf_58 rfl (v := -1) (by decide) ?_
      have eF : rFoL S x = lpE rUntF 2000 0 (rBegT S x, 0) := by rw [rFoL, rUntL]
      have hb' : (rFoL S x).1 = true := by rw [eF]; subst eS1; subst eS3; subst eS4; exact hb2
      have hc' : ¬ rFinC (rFoL S x).2.1 = (rFoL S x).2.1 7 0 1 0 := by rw [eF]; subst eS1; subst eS3; subst eS4; exact c_37
      have eS : S4 = rFoS S x := by rw [rFoS, eF]; subst eS1; subst eS3; subst eS4; rfl
      exact j_ret (by rw [rFoN, if_neg hc']) eS rfl (K _ _ dX6_finishOf_59)
    · refine j_iconst X dX6_finishOf_40 rfl (v := 1) (by decide) ?_
      refine j_goto X (tgt := 45) dX6_finishOf_41 (by decide) ?_
      refine j_istore_n X dX6_finishOf_45 rfl rfl (by decide) (Ls2 := [(3, .int (1)), (2, .int (nI (2000))), (0, .ref (zA Z (7) (0) (0)))]) rfl ?_
      refine j_aload_n X dX6_finishOf_46 rfl rfl (q := 2) rfl ?_
      refine j_callv X (c_X6_endTrial l Z S3 h ) (wm_ref (by decide)) ((fun _ => rfl) _) rfl lk_RX6_196 mi_X6_endTrial ms_X6_endTrial ini_RX6 mc_X6_endTrial md_X6_endTrial ⟨Nat.le_of_ble_eq_true rfl, Nat.le_of_ble_eq_true rfl⟩ ⟨Nat.le_of_ble_eq_true rfl, Nat.le_of_ble_eq_true rfl⟩ rfl (Nat.le_of_ble_eq_true rfl) (as := []) (rest := []) rfl dX6_finishOf_47 rfl ?_
      refine j_name (fun S5 eS5 => ?_)
      refine j_iload_n X dX6_finishOf_50 rfl rfl (q := 0) rfl ?_
      refine j_if_eq_f X dX6_finishOf_51 rfl (tgt := 58) (by decide) (by decide) ?_
      refine j_iload_n X dX6_finishOf_54 rfl rfl (q := 1) rfl ?_
      refine j_goto X (tgt := 59) dX6_finishOf_55 (by decide) ?_
      have eF : rFoL S x = lpE rUntF 2000 0 (rBegT S x, 0) := by rw [rFoL, rUntL]
      have hb' : (rFoL S x).1 = true := by rw [eF]; subst eS1; subst eS3; subst eS5; exact hb2
      have hc' : rFinC (rFoL S x).2.1 = (rFoL S x).2.1 7 0 1 0 := by rw [eF]; subst eS1; subst eS3; subst eS5; exact c_37
      have eS : S5 = rFoS S x := by rw [rFoS, eF]; subst eS1; subst eS3; subst eS5; rfl
      exact j_ret (by rw [rFoN, if_pos hc', if_pos hb']; exact (by decide : nI 2000 = 2000)) eS rfl (K _ _ dX6_finishOf_59)
  · refine j_name (fun S6 eS6 => ?_)
    refine j_aload_n X dX6_finishOf_27 rfl rfl (q := 1) rfl ?_
    refine j_calli X (c_X6_finishedCount l Z S6 h (by subst eS1; subst eS6; exact hok.2)) (wm_ref (by decide)) ((fun _ => rfl) _) rfl lk_RX6_164 mi_X6_finishedCount ms_X6_finishedCount ini_RX6 mc_X6_finishedCount md_X6_finishedCount ⟨Nat.le_of_ble_eq_true rfl, Nat.le_of_ble_eq_true rfl⟩ ⟨Nat.le_of_ble_eq_true rfl, Nat.le_of_ble_eq_true rfl⟩ rfl (Nat.le_of_ble_eq_true rfl) (as := []) (rest := []) rfl dX6_finishOf_28 rfl ?_
    refine j_aload_n X dX6_finishOf_31 rfl rfl (q := 1) rfl ?_
    refine jg_model X 0 (by decide) lk_RX6_7 rfl rfl dX6_finishOf_32 rfl ?_
    refine j_iconst X dX6_finishOf_35 rfl (v := 0) (by decide) ?_
    refine j_ialdN X (k := 0) (wm_ref (by decide)) ((fun _ => rfl) _) (by decide) (by decide) dX6_finishOf_36 rfl ?_
    refine j_icmp_ne X dX6_finishOf_37 rfl (tgt := 44) (by decide) (fun c_37_7 => ?_) (fun c_37_7 => ?_)
    · refine j_iconst X dX6_finishOf_44 rfl (v := 0) (by decide) ?_
      refine j_istore_n X dX6_finishOf_45 rfl rfl (by decide) (Ls2 := [(3, .int (0)), (2, .int ((lpE (rUntF) 2000 0 (S1, 0)).2.2)), (0, .ref (zA Z (7) (0) (0)))]) rfl ?_
      refine j_aload_n X dX6_finishOf_46 rfl rfl (q := 2) rfl ?_
      refine j_callv X (c_X6_endTrial l Z S6 h ) (wm_ref (by decide)) ((fun _ => rfl) _) rfl lk_RX6_196 mi_X6_endTrial ms_X6_endTrial ini_RX6 mc_X6_endTrial md_X6_endTrial ⟨Nat.le_of_ble_eq_true rfl, Nat.le_of_ble_eq_true rfl⟩ ⟨Nat.le_of_ble_eq_true rfl, Nat.le_of_ble_eq_true rfl⟩ rfl (Nat.le_of_ble_eq_true rfl) (as := []) (rest := []) rfl dX6_finishOf_47 rfl ?_
      refine j_name (fun S8 eS8 => ?_)
      refine j_iload_n X dX6_finishOf_50 rfl rfl (q := 0) rfl ?_
      refine j_if_eq_t X (tgt := 58) dX6_finishOf_51 (by decide) (by decide) ?_
      refine j_iconst X dX6_finishOf_58 rfl (v := -1) (by decide) ?_
      have eF : rFoL S x = lpE rUntF 2000 0 (rBegT S x, 0) := by rw [rFoL, rUntL]
      have hb' : (rFoL S x).1 = false := by rw [eF]; subst eS1; subst eS6; subst eS8; exact hb2
      have hc' : ¬ rFinC (rFoL S x).2.1 = (rFoL S x).2.1 7 0 1 0 := by rw [eF]; subst eS1; subst eS6; subst eS8; exact c_37_7
      have eS : S8 = rFoS S x := by rw [rFoS, eF]; subst eS1; subst eS6; subst eS8; rfl
      exact j_ret (by rw [rFoN, if_neg hc']) eS rfl (K _ _ dX6_finishOf_59)
    · refine j_iconst X dX6_finishOf_40 rfl (v := 1) (by decide) ?_
      refine j_goto X (tgt := 45) dX6_finishOf_41 (by decide) ?_
      refine j_istore_n X dX6_finishOf_45 rfl rfl (by decide) (Ls2 := [(3, .int (1)), (2, .int ((lpE (rUntF) 2000 0 (S1, 0)).2.2)), (0, .ref (zA Z (7) (0) (0)))]) rfl ?_
      refine j_aload_n X dX6_finishOf_46 rfl rfl (q := 2) rfl ?_
      refine j_callv X (c_X6_endTrial l Z S6 h ) (wm_ref (by decide)) ((fun _ => rfl) _) rfl lk_RX6_196 mi_X6_endTrial ms_X6_endTrial ini_RX6 mc_X6_endTrial md_X6_endTrial ⟨Nat.le_of_ble_eq_true rfl, Nat.le_of_ble_eq_true rfl⟩ ⟨Nat.le_of_ble_eq_true rfl, Nat.le_of_ble_eq_true rfl⟩ rfl (Nat.le_of_ble_eq_true rfl) (as := []) (rest := []) rfl dX6_finishOf_47 rfl ?_
      refine j_name (fun S9 eS9 => ?_)
      refine j_iload_n X dX6_finishOf_50 rfl rfl (q := 0) rfl ?_
      refine j_if_eq_f X dX6_finishOf_51 rfl (tgt := 58) (by decide) (by decide) ?_
      refine j_iload_n X dX6_finishOf_54 rfl rfl (q := 1) rfl ?_
      refine j_goto X (tgt := 59) dX6_finishOf_55 (by decide) ?_
      have eF : rFoL S x = lpE rUntF 2000 0 (rBegT S x, 0) := by rw [rFoL, rUntL]
      have hb' : (rFoL S x).1 = false := by rw [eF]; subst eS1; subst eS6; subst eS9; exact hb2
      have hc' : rFinC (rFoL S x).2.1 = (rFoL S x).2.1 7 0 1 0 := by rw [eF]; subst eS1; subst eS6; subst eS9; exact c_37_7
      have eS : S9 = rFoS S x := by rw [rFoS, eF]; subst eS1; subst eS6; subst eS9; rfl
      exact j_ret (by subst eS1; subst eS6; subst eS9; rw [rFoN, if_pos hc', if_neg (by rw [hb']; decide), eF]) eS rfl (K _ _ dX6_finishOf_59)
set_option maxRecDepth 100000 in
set_option maxHeartbeats 400000 in
theorem c_X6_finish (l : Launch) (Z : wZ) (S : St) (h : Hl) (x : Int32) (hx : rIn x 0 2 = true) (hok : okF (rCd S 0) x) : Ci l yX6_finish cX6_finish 2 .int 10 227 Z [.ref (zA Z (7) (0) (0)), .int (x)] S h (rFoN (rCd S 0) x) (rFoS (rCd S 0) x) (h) := by
  refine Ci.of rfl rfl (Nat.le_of_ble_eq_true rfl) (fun p e s mi args below meth c A0 Q X K => ?_)
  refine j_at rfl rfl (Ls3 := [(0, .ref (zA Z (7) (0) (0))), (1, .int (x))]) rfl rfl ?_
  refine j_aload_n X dX6_finish_0 rfl rfl (q := 0) rfl ?_
  refine j_iload_n X dX6_finish_1 rfl rfl (q := 1) rfl ?_
  refine j_iconst X dX6_finish_2 rfl (v := 0) (by decide) ?_
  refine j_iconst X dX6_finish_3 rfl (v := 2) (by decide) ?_
  refine j_callSi X (c_X6_in l Z S h (x) (0) (2)) lk_RX6_56 mt_X6_in ini_RX6 mc_X6_in md_X6_in ⟨Nat.le_of_ble_eq_true rfl, Nat.le_of_ble_eq_true rfl⟩ ⟨Nat.le_of_ble_eq_true rfl, Nat.le_of_ble_eq_true rfl⟩ rfl (Nat.le_of_ble_eq_true rfl) (as := [.int (x), .int (0), .int (2)]) (rest := [.ref (zA Z (7) (0) (0))]) rfl dX6_finish_4 rfl ?_
  refine j_if_eq_f X dX6_finish_7 rfl (tgt := 14) (by decide) (by rw [show rIn x 0 2 = true from hx]; decide) ?_
  refine j_iconst X dX6_finish_10 rfl (v := 0) (by decide) ?_
  refine j_goto X (tgt := 15) dX6_finish_11 (by decide) ?_
  refine jp_model X 9 (by decide) lk_RX6_41 rfl rfl rfl (vp_nar_int _) rfl rfl dX6_finish_15 rfl ?_
  refine j_name (fun S1 eS1 => ?_)
  refine j_aload_n X dX6_finish_18 rfl rfl (q := 0) rfl ?_
  refine jg_model X 9 (by decide) lk_RX6_41 rfl rfl dX6_finish_19 rfl ?_
  refine j_topeq (y := (0)) (by rw [eS1, setF_at, if_pos ⟨rfl, rfl, rfl, rfl⟩]) ?_
  refine j_if_eq_t X (tgt := 29) dX6_finish_22 (by decide) (by decide) ?_
  refine j_aload_n X dX6_finish_29 rfl rfl (q := 0) rfl ?_
  refine j_iload_n X dX6_finish_30 rfl rfl (q := 1) rfl ?_
  refine j_calli X (c_X6_finishOf l Z S1 h (x) (by subst eS1; exact hok)) (wm_ref (by decide)) ((fun _ => rfl) _) rfl lk_RX6_199 mi_X6_finishOf ms_X6_finishOf ini_RX6 mc_X6_finishOf md_X6_finishOf ⟨Nat.le_of_ble_eq_true rfl, Nat.le_of_ble_eq_true rfl⟩ ⟨Nat.le_of_ble_eq_true rfl, Nat.le_of_ble_eq_true rfl⟩ rfl (Nat.le_of_ble_eq_true rfl) (as := [.int (x)]) (rest := []) rfl dX6_finish_31 rfl ?_
  refine j_name (fun S2 eS2 => ?_)
  exact j_ret (by subst eS1; subst eS2; first | with_reducible rfl | (simp []; done) | (simp_all []; done) | rfl) (by subst eS1; subst eS2; first | with_reducible rfl | (simp []; done) | (simp_all []; done) | rfl) rfl (K _ _ dX6_finish_34)
set_option maxRecDepth 100000 in
set_option maxHeartbeats 400000 in
theorem c_X6_finish_no (l : Launch) (Z : wZ) (S : St) (h : Hl) (x : Int32) (hx : rIn x 0 2 = false) : Ci l yX6_finish cX6_finish 2 .int 10 227 Z [.ref (zA Z (7) (0) (0)), .int (x)] S h (0) (rCd S 1) (h) := by
  refine Ci.of rfl rfl (Nat.le_of_ble_eq_true rfl) (fun p e s mi args below meth c A0 Q X K => ?_)
  refine j_at rfl rfl (Ls3 := [(0, .ref (zA Z (7) (0) (0))), (1, .int (x))]) rfl rfl ?_
  refine j_aload_n X dX6_finish_0 rfl rfl (q := 0) rfl ?_
  refine j_iload_n X dX6_finish_1 rfl rfl (q := 1) rfl ?_
  refine j_iconst X dX6_finish_2 rfl (v := 0) (by decide) ?_
  refine j_iconst X dX6_finish_3 rfl (v := 2) (by decide) ?_
  refine j_callSi X (c_X6_in l Z S h (x) (0) (2)) lk_RX6_56 mt_X6_in ini_RX6 mc_X6_in md_X6_in ⟨Nat.le_of_ble_eq_true rfl, Nat.le_of_ble_eq_true rfl⟩ ⟨Nat.le_of_ble_eq_true rfl, Nat.le_of_ble_eq_true rfl⟩ rfl (Nat.le_of_ble_eq_true rfl) (as := [.int (x), .int (0), .int (2)]) (rest := [.ref (zA Z (7) (0) (0))]) rfl dX6_finish_4 rfl ?_
  refine j_if_eq_t X (tgt := 14) dX6_finish_7 (by decide) (by rw [show rIn x 0 2 = false from hx]; decide) ?_
  refine j_iconst X dX6_finish_14 rfl (v := 1) (by decide) ?_
  refine jp_model X 9 (by decide) lk_RX6_41 rfl rfl rfl (vp_nar_int _) rfl rfl dX6_finish_15 rfl ?_
  refine j_name (fun S1 eS1 => ?_)
  refine j_aload_n X dX6_finish_18 rfl rfl (q := 0) rfl ?_
  refine jg_model X 9 (by decide) lk_RX6_41 rfl rfl dX6_finish_19 rfl ?_
  refine j_topeq (y := (1)) (by rw [eS1, setF_at, if_pos ⟨rfl, rfl, rfl, rfl⟩]) ?_
  refine j_if_eq_f X dX6_finish_22 rfl (tgt := 29) (by decide) (by decide) ?_
  refine j_iconst X dX6_finish_25 rfl (v := 0) (by decide) ?_
  refine j_goto X (tgt := 34) dX6_finish_26 (by decide) ?_
  exact j_ret (by subst eS1; first | with_reducible rfl | (simp []; done) | (simp_all []; done) | rfl) (by subst eS1; first | with_reducible rfl | (simp []; done) | (simp_all []; done) | rfl) rfl (K _ _ dX6_finish_34)
set_option maxRecDepth 100000 in
set_option maxHeartbeats 400000 in
theorem c_X6_abortsWith (l : Launch) (Z : wZ) (S : St) (h : Hl) (x : Int32) (b : Nat) (hb : b ≤ 1000) (hx : rIn x 0 2 = true) (hy : rIn (nI b) 0 1000 = true) (hok : okRs (rBegT (rCd S 0) x) b) : Ci l yX6_abortsWith cX6_abortsWith 5 .int 10 226 Z [.ref (zA Z (7) (0) (0)), .int (x), .int (nI (b))] S h (rAbW (rCd S 0) x b) (rEndT (rRuns (rBegT (rCd S 0) x) b)) (h) := by
  refine Ci.of rfl rfl (Nat.le_of_ble_eq_true rfl) (fun p e s mi args below meth c A0 Q X K => ?_)
  refine j_at rfl rfl (Ls3 := [(0, .ref (zA Z (7) (0) (0))), (1, .int (x)), (2, .int (nI (b)))]) rfl rfl ?_
  refine j_aload_n X dX6_abortsWith_0 rfl rfl (q := 0) rfl ?_
  refine j_iload_n X dX6_abortsWith_1 rfl rfl (q := 1) rfl ?_
  refine j_iconst X dX6_abortsWith_2 rfl (v := 0) (by decide) ?_
  refine j_iconst X dX6_abortsWith_3 rfl (v := 2) (by decide) ?_
  refine j_callSi X (c_X6_in l Z S h (x) (0) (2)) lk_RX6_56 mt_X6_in ini_RX6 mc_X6_in md_X6_in ⟨Nat.le_of_ble_eq_true rfl, Nat.le_of_ble_eq_true rfl⟩ ⟨Nat.le_of_ble_eq_true rfl, Nat.le_of_ble_eq_true rfl⟩ rfl (Nat.le_of_ble_eq_true rfl) (as := [.int (x), .int (0), .int (2)]) (rest := [.ref (zA Z (7) (0) (0))]) rfl dX6_abortsWith_4 rfl ?_
  refine j_if_eq_f X dX6_abortsWith_7 rfl (tgt := 25) (by decide) (by rw [show rIn x 0 2 = true from hx]; decide) ?_
  refine j_iload_n X dX6_abortsWith_10 rfl rfl (q := 2) rfl ?_
  refine j_iconst X dX6_abortsWith_11 rfl (v := 0) (by decide) ?_
  refine j_sipush X dX6_abortsWith_12 rfl (v := 1000) (by decide) ?_
  refine j_callSi X (c_X6_in l Z S h (nI (b)) (0) (1000)) lk_RX6_56 mt_X6_in ini_RX6 mc_X6_in md_X6_in ⟨Nat.le_of_ble_eq_true rfl, Nat.le_of_ble_eq_true rfl⟩ ⟨Nat.le_of_ble_eq_true rfl, Nat.le_of_ble_eq_true rfl⟩ rfl (Nat.le_of_ble_eq_true rfl) (as := [.int (nI (b)), .int (0), .int (1000)]) (rest := [.ref (zA Z (7) (0) (0))]) rfl dX6_abortsWith_15 rfl ?_
  refine j_if_eq_f X dX6_abortsWith_18 rfl (tgt := 25) (by decide) (by rw [hy]; decide) ?_
  refine j_iconst X dX6_abortsWith_21 rfl (v := 0) (by decide) ?_
  refine j_goto X (tgt := 26) dX6_abortsWith_22 (by decide) ?_
  refine jp_model X 9 (by decide) lk_RX6_41 rfl rfl rfl (vp_nar_int _) rfl rfl dX6_abortsWith_26 rfl ?_
  refine j_name (fun S1 eS1 => ?_)
  refine j_aload_n X dX6_abortsWith_29 rfl rfl (q := 0) rfl ?_
  refine jg_model X 9 (by decide) lk_RX6_41 rfl rfl dX6_abortsWith_30 rfl ?_
  refine j_topeq (y := (0)) (by rw [eS1, setF_at, if_pos ⟨rfl, rfl, rfl, rfl⟩]) ?_
  refine j_if_eq_t X (tgt := 38) dX6_abortsWith_33 (by decide) (by decide) ?_
  refine j_aload_n X dX6_abortsWith_38 rfl rfl (q := 0) rfl ?_
  refine j_iload_n X dX6_abortsWith_39 rfl rfl (q := 1) rfl ?_
  refine j_callv X (c_X6_beginTrial l Z S1 h (x)) (wm_ref (by decide)) ((fun _ => rfl) _) rfl lk_RX6_193 mi_X6_beginTrial ms_X6_beginTrial ini_RX6 mc_X6_beginTrial md_X6_beginTrial ⟨Nat.le_of_ble_eq_true rfl, Nat.le_of_ble_eq_true rfl⟩ ⟨Nat.le_of_ble_eq_true rfl, Nat.le_of_ble_eq_true rfl⟩ rfl (Nat.le_of_ble_eq_true rfl) (as := [.int (x)]) (rest := []) rfl dX6_abortsWith_40 rfl ?_
  refine j_name (fun S2 eS2 => ?_)
  refine j_aload_n X dX6_abortsWith_43 rfl rfl (q := 0) rfl ?_
  refine jg_model X 0 (by decide) lk_RX6_7 rfl rfl dX6_abortsWith_44 rfl ?_
  refine j_bipush X dX6_abortsWith_47 rfl (v := 18) (by decide) ?_
  refine j_ialdN X (k := 18) (wm_ref (by decide)) ((fun _ => rfl) _) (by decide) (by decide) dX6_abortsWith_49 rfl ?_
  refine j_aload_n X dX6_abortsWith_50 rfl rfl (q := 0) rfl ?_
  refine jg_model X 0 (by decide) lk_RX6_7 rfl rfl dX6_abortsWith_51 rfl ?_
  refine j_bipush X dX6_abortsWith_54 rfl (v := 19) (by decide) ?_
  refine j_ialdN X (k := 19) (wm_ref (by decide)) ((fun _ => rfl) _) (by decide) (by decide) dX6_abortsWith_56 rfl ?_
  refine j_iadd X dX6_abortsWith_57 rfl ?_
  refine j_istore_n X dX6_abortsWith_58 rfl rfl (by decide) (Ls2 := [(3, .int ((S2 7 0 1 18) + (S2 7 0 1 19))), (0, .ref (zA Z (7) (0) (0))), (1, .int (x)), (2, .int (nI (b)))]) rfl ?_
  refine j_aload_n X dX6_abortsWith_59 rfl rfl (q := 1) rfl ?_
  refine j_iload_n X dX6_abortsWith_60 rfl rfl (q := 3) rfl ?_
  refine j_callv X (c_X6_runs l Z S2 h b hb (by subst eS1; subst eS2; exact hok)) (wm_ref (by decide)) ((fun _ => rfl) _) rfl lk_RX6_177 mi_X6_runs ms_X6_runs ini_RX6 mc_X6_runs md_X6_runs ⟨Nat.le_of_ble_eq_true rfl, Nat.le_of_ble_eq_true rfl⟩ ⟨Nat.le_of_ble_eq_true rfl, Nat.le_of_ble_eq_true rfl⟩ rfl (Nat.le_of_ble_eq_true rfl) (as := [.int (nI (b))]) (rest := []) rfl dX6_abortsWith_61 rfl ?_
  refine j_name (fun S3 eS3 => ?_)
  refine j_aload_n X dX6_abortsWith_64 rfl rfl (q := 1) rfl ?_
  refine jg_model X 0 (by decide) lk_RX6_7 rfl rfl dX6_abortsWith_65 rfl ?_
  refine j_bipush X dX6_abortsWith_68 rfl (v := 18) (by decide) ?_
  refine j_ialdN X (k := 18) (wm_ref (by decide)) ((fun _ => rfl) _) (by decide) (by decide) dX6_abortsWith_70 rfl ?_
  refine j_aload_n X dX6_abortsWith_71 rfl rfl (q := 1) rfl ?_
  refine jg_model X 0 (by decide) lk_RX6_7 rfl rfl dX6_abortsWith_72 rfl ?_
  refine j_bipush X dX6_abortsWith_75 rfl (v := 19) (by decide) ?_
  refine j_ialdN X (k := 19) (wm_ref (by decide)) ((fun _ => rfl) _) (by decide) (by decide) dX6_abortsWith_77 rfl ?_
  refine j_iadd X dX6_abortsWith_78 rfl ?_
  refine j_iload_n X dX6_abortsWith_79 rfl rfl (q := 0) rfl ?_
  refine j_isub X dX6_abortsWith_80 rfl ?_
  refine j_istore X dX6_abortsWith_81 rfl (by decide) (Ls2 := [(4, .int (((S3 7 0 1 18) + (S3 7 0 1 19)) - ((S2 7 0 1 18) + (S2 7 0 1 19)))), (3, .int ((S2 7 0 1 18) + (S2 7 0 1 19))), (0, .ref (zA Z (7) (0) (0))), (1, .int (x)), (2, .int (nI (b)))]) rfl ?_
  refine j_aload_n X dX6_abortsWith_83 rfl rfl (q := 2) rfl ?_
  refine j_callv X (c_X6_endTrial l Z S3 h ) (wm_ref (by decide)) ((fun _ => rfl) _) rfl lk_RX6_196 mi_X6_endTrial ms_X6_endTrial ini_RX6 mc_X6_endTrial md_X6_endTrial ⟨Nat.le_of_ble_eq_true rfl, Nat.le_of_ble_eq_true rfl⟩ ⟨Nat.le_of_ble_eq_true rfl, Nat.le_of_ble_eq_true rfl⟩ rfl (Nat.le_of_ble_eq_true rfl) (as := []) (rest := []) rfl dX6_abortsWith_84 rfl ?_
  refine j_name (fun S4 eS4 => ?_)
  refine j_iload X dX6_abortsWith_87 rfl (q := 0) rfl ?_
  exact j_ret (by subst eS1; subst eS2; subst eS3; subst eS4; first | with_reducible rfl | (simp [rAbW]; done) | (simp_all [rAbW]; done) | rfl) (by subst eS1; subst eS2; subst eS3; subst eS4; first | with_reducible rfl | (simp [rAbW]; done) | (simp_all [rAbW]; done) | rfl) rfl (K _ _ dX6_abortsWith_89)
set_option maxRecDepth 100000 in
set_option maxHeartbeats 400000 in
theorem c_X6_abortsWith_no (l : Launch) (Z : wZ) (S : St) (h : Hl) (x y : Int32) (hx : rIn x 0 2 = false) : Ci l yX6_abortsWith cX6_abortsWith 5 .int 10 226 Z [.ref (zA Z (7) (0) (0)), .int (x), .int (y)] S h (0) (rCd S 1) (h) := by
  refine Ci.of rfl rfl (Nat.le_of_ble_eq_true rfl) (fun p e s mi args below meth c A0 Q X K => ?_)
  refine j_at rfl rfl (Ls3 := [(0, .ref (zA Z (7) (0) (0))), (1, .int (x)), (2, .int (y))]) rfl rfl ?_
  refine j_aload_n X dX6_abortsWith_0 rfl rfl (q := 0) rfl ?_
  refine j_iload_n X dX6_abortsWith_1 rfl rfl (q := 1) rfl ?_
  refine j_iconst X dX6_abortsWith_2 rfl (v := 0) (by decide) ?_
  refine j_iconst X dX6_abortsWith_3 rfl (v := 2) (by decide) ?_
  refine j_callSi X (c_X6_in l Z S h (x) (0) (2)) lk_RX6_56 mt_X6_in ini_RX6 mc_X6_in md_X6_in ⟨Nat.le_of_ble_eq_true rfl, Nat.le_of_ble_eq_true rfl⟩ ⟨Nat.le_of_ble_eq_true rfl, Nat.le_of_ble_eq_true rfl⟩ rfl (Nat.le_of_ble_eq_true rfl) (as := [.int (x), .int (0), .int (2)]) (rest := [.ref (zA Z (7) (0) (0))]) rfl dX6_abortsWith_4 rfl ?_
  refine j_if_eq_t X (tgt := 25) dX6_abortsWith_7 (by decide) (by rw [show rIn x 0 2 = false from hx]; decide) ?_
  refine j_iconst X dX6_abortsWith_25 rfl (v := 1) (by decide) ?_
  refine jp_model X 9 (by decide) lk_RX6_41 rfl rfl rfl (vp_nar_int _) rfl rfl dX6_abortsWith_26 rfl ?_
  refine j_name (fun S1 eS1 => ?_)
  refine j_aload_n X dX6_abortsWith_29 rfl rfl (q := 0) rfl ?_
  refine jg_model X 9 (by decide) lk_RX6_41 rfl rfl dX6_abortsWith_30 rfl ?_
  refine j_topeq (y := (1)) (by rw [eS1, setF_at, if_pos ⟨rfl, rfl, rfl, rfl⟩]) ?_
  refine j_if_eq_f X dX6_abortsWith_33 rfl (tgt := 38) (by decide) (by decide) ?_
  refine j_iconst X dX6_abortsWith_36 rfl (v := 0) (by decide) ?_
  exact j_ret (by subst eS1; first | with_reducible rfl | (simp []; done) | (simp_all []; done) | rfl) (by subst eS1; first | with_reducible rfl | (simp []; done) | (simp_all []; done) | rfl) rfl (K _ _ dX6_abortsWith_37)
set_option maxRecDepth 100000 in
set_option maxHeartbeats 400000 in
theorem c_X6_abortsWith_nr (l : Launch) (Z : wZ) (S : St) (h : Hl) (x y : Int32) (hx : rIn x 0 2 = true) (hy : rIn y 0 1000 = false) : Ci l yX6_abortsWith cX6_abortsWith 5 .int 10 226 Z [.ref (zA Z (7) (0) (0)), .int (x), .int (y)] S h (0) (rCd S 1) (h) := by
  refine Ci.of rfl rfl (Nat.le_of_ble_eq_true rfl) (fun p e s mi args below meth c A0 Q X K => ?_)
  refine j_at rfl rfl (Ls3 := [(0, .ref (zA Z (7) (0) (0))), (1, .int (x)), (2, .int (y))]) rfl rfl ?_
  refine j_aload_n X dX6_abortsWith_0 rfl rfl (q := 0) rfl ?_
  refine j_iload_n X dX6_abortsWith_1 rfl rfl (q := 1) rfl ?_
  refine j_iconst X dX6_abortsWith_2 rfl (v := 0) (by decide) ?_
  refine j_iconst X dX6_abortsWith_3 rfl (v := 2) (by decide) ?_
  refine j_callSi X (c_X6_in l Z S h (x) (0) (2)) lk_RX6_56 mt_X6_in ini_RX6 mc_X6_in md_X6_in ⟨Nat.le_of_ble_eq_true rfl, Nat.le_of_ble_eq_true rfl⟩ ⟨Nat.le_of_ble_eq_true rfl, Nat.le_of_ble_eq_true rfl⟩ rfl (Nat.le_of_ble_eq_true rfl) (as := [.int (x), .int (0), .int (2)]) (rest := [.ref (zA Z (7) (0) (0))]) rfl dX6_abortsWith_4 rfl ?_
  refine j_if_eq_f X dX6_abortsWith_7 rfl (tgt := 25) (by decide) (by rw [show rIn x 0 2 = true from hx]; decide) ?_
  refine j_iload_n X dX6_abortsWith_10 rfl rfl (q := 2) rfl ?_
  refine j_iconst X dX6_abortsWith_11 rfl (v := 0) (by decide) ?_
  refine j_sipush X dX6_abortsWith_12 rfl (v := 1000) (by decide) ?_
  refine j_callSi X (c_X6_in l Z S h (y) (0) (1000)) lk_RX6_56 mt_X6_in ini_RX6 mc_X6_in md_X6_in ⟨Nat.le_of_ble_eq_true rfl, Nat.le_of_ble_eq_true rfl⟩ ⟨Nat.le_of_ble_eq_true rfl, Nat.le_of_ble_eq_true rfl⟩ rfl (Nat.le_of_ble_eq_true rfl) (as := [.int (y), .int (0), .int (1000)]) (rest := [.ref (zA Z (7) (0) (0))]) rfl dX6_abortsWith_15 rfl ?_
  refine j_if_eq_t X (tgt := 25) dX6_abortsWith_18 (by decide) (by rw [hy]; decide) ?_
  refine j_iconst X dX6_abortsWith_25 rfl (v := 1) (by decide) ?_
  refine jp_model X 9 (by decide) lk_RX6_41 rfl rfl rfl (vp_nar_int _) rfl rfl dX6_abortsWith_26 rfl ?_
  refine j_name (fun S1 eS1 => ?_)
  refine j_aload_n X dX6_abortsWith_29 rfl rfl (q := 0) rfl ?_
  refine jg_model X 9 (by decide) lk_RX6_41 rfl rfl dX6_abortsWith_30 rfl ?_
  refine j_topeq (y := (1)) (by rw [eS1, setF_at, if_pos ⟨rfl, rfl, rfl, rfl⟩]) ?_
  refine j_if_eq_f X dX6_abortsWith_33 rfl (tgt := 38) (by decide) (by decide) ?_
  refine j_iconst X dX6_abortsWith_36 rfl (v := 0) (by decide) ?_
  exact j_ret (by subst eS1; first | with_reducible rfl | (simp []; done) | (simp_all []; done) | rfl) (by subst eS1; first | with_reducible rfl | (simp []; done) | (simp_all []; done) | rfl) rfl (K _ _ dX6_abortsWith_37)
set_option maxRecDepth 100000 in
set_option maxHeartbeats 400000 in
theorem L_rbp (l : Launch) (Z : wZ) (h : Hl)  {p : Program} {e : Env} {s : State} {mi : MethodId} {args : Array Value} {below : List Frame} {meth : Method} {c : Code} {A0 : Nat → Prop} {Q : State → Prop} (X : JX p s mi args meth c cX6_bestPolicy 6 yX6_bestPolicy.cls Z A0) : ∀ (n k : Nat) (S : St) (b1 : Int32) (b2 : Int32), k + n = 3 → (∀ i, i < n → okF (lp rBesF i k (S, b1, b2)).1 (nI (k + i))) → J p l e { frames := 10, cells := 0, slots := 0, locals := 227 } s mi args below meth c 6 Z A0 0 0 Q ((lp (rBesF) n k (S, b1, b2)).1) h [(1, .int ((lp (rBesF) n k (S, b1, b2)).2.1))] 76 [] → J p l e { frames := 10, cells := 0, slots := 0, locals := 227 } s mi args below meth c 6 Z A0 0 0 Q S h [(3, .int (nI (k))), (0, .ref (zA Z (7) (0) (0))), (1, .int (b1)), (2, .int (b2))] 11 [] := by
  intro n
  induction n with
  | zero =>
    intro k S b1 b2 hkn hI hk
    have hkN : 3 = k := by omega
    subst hkN
    refine j_iload_n X dX6_bestPolicy_11 rfl rfl (q := 0) rfl ?_
    refine j_iconst X dX6_bestPolicy_12 rfl (v := 3) (by decide) ?_
    refine j_icmp_ge_t X (tgt := 76) dX6_bestPolicy_13 (by decide) (nI_le (Nat.le_refl _) (by decide)) ?_
    refine j_sub [2] (Ls2 := [(1, .int (b1))]) rfl ?_
    exact hk
  | succ n ih =>
    intro k S b1 b2 hkn hI hk
    have hlt : k < 3 := by omega
    refine j_iload_n X dX6_bestPolicy_11 rfl rfl (q := 0) rfl ?_
    refine j_iconst X dX6_bestPolicy_12 rfl (v := 3) (by decide) ?_
    refine j_icmp_ge_f X dX6_bestPolicy_13 rfl (tgt := 76) (by decide) (nI_ge hlt (by decide)) ?_
    refine j_aload_n X dX6_bestPolicy_16 rfl rfl (q := 1) rfl ?_
    refine j_iload_n X dX6_bestPolicy_17 rfl rfl (q := 0) rfl ?_
    refine j_calli X (c_X6_finishOf l Z S h (nI (k)) (hI 0 (by omega))) (wm_ref (by decide)) ((fun _ => rfl) _) rfl lk_RX6_199 mi_X6_finishOf ms_X6_finishOf ini_RX6 mc_X6_finishOf md_X6_finishOf ⟨Nat.le_of_ble_eq_true rfl, Nat.le_of_ble_eq_true rfl⟩ ⟨Nat.le_of_ble_eq_true rfl, Nat.le_of_ble_eq_true rfl⟩ rfl (Nat.le_of_ble_eq_true rfl) (as := [.int (nI (k))]) (rest := []) rfl dX6_bestPolicy_18 rfl ?_
    refine j_name (fun S1 eS1 => ?_)
    refine j_istore X dX6_bestPolicy_21 rfl (by decide) (Ls2 := [(4, .int (rFoN S (nI (k)))), (3, .int (nI (k))), (0, .ref (zA Z (7) (0) (0))), (1, .int (b1)), (2, .int (b2))]) rfl ?_
    refine j_iload X dX6_bestPolicy_23 rfl (q := 0) rfl ?_
    refine j_iconst X dX6_bestPolicy_25 rfl (v := -1) (by decide) ?_
    refine j_icmp_eq X dX6_bestPolicy_26 rfl (tgt := 44) (by decide) (fun c_26 => ?_) (fun c_26 => ?_)
    · refine j_iconst X dX6_bestPolicy_44 rfl (v := 0) (by decide) ?_
      refine j_istore X dX6_bestPolicy_45 rfl (by decide) (Ls2 := [(5, .int (0)), (4, .int (rFoN S (nI (k)))), (3, .int (nI (k))), (0, .ref (zA Z (7) (0) (0))), (1, .int (b1)), (2, .int (b2))]) rfl ?_
      refine j_iload X dX6_bestPolicy_47 rfl (q := 0) rfl ?_
      refine j_if_eq_t X (tgt := 56) dX6_bestPolicy_49 (by decide) (by decide) ?_
      refine j_iload_n X dX6_bestPolicy_56 rfl rfl (q := 4) rfl ?_
      refine j_istore_n X dX6_bestPolicy_57 rfl rfl (by decide) (Ls2 := [(1, .int (b1)), (5, .int (0)), (4, .int (rFoN S (nI (k)))), (3, .int (nI (k))), (0, .ref (zA Z (7) (0) (0))), (2, .int (b2))]) rfl ?_
      refine j_iload X dX6_bestPolicy_58 rfl (q := 1) rfl ?_
      refine j_if_eq_t X (tgt := 68) dX6_bestPolicy_60 (by decide) (by decide) ?_
      refine j_iload_n X dX6_bestPolicy_68 rfl rfl (q := 5) rfl ?_
      refine j_istore_n X dX6_bestPolicy_69 rfl rfl (by decide) (Ls2 := [(2, .int (b2)), (1, .int (b1)), (5, .int (0)), (4, .int (rFoN S (nI (k)))), (3, .int (nI (k))), (0, .ref (zA Z (7) (0) (0)))]) rfl ?_
      refine j_iinc X dX6_bestPolicy_70 rfl (q := 4) rfl (v := (nI (k + 1))) (nI_1 _) (by decide) (Ls2 := [(3, .int (nI (k + 1))), (2, .int (b2)), (1, .int (b1)), (5, .int (0)), (4, .int (rFoN S (nI (k)))), (0, .ref (zA Z (7) (0) (0)))]) rfl ?_
      refine j_goto X (tgt := 11) dX6_bestPolicy_73 (by decide) ?_
      refine j_sub [0, 5, 2, 1] (Ls2 := [(3, .int (nI (k + 1))), (0, .ref (zA Z (7) (0) (0))), (1, .int (b1)), (2, .int (b2))]) rfl ?_
      have eB : (rBesF) k (S, b1, b2) = (S1, (b1), (b2)) := by subst eS1; first | with_reducible rfl | (simp [rBesF, c_26]; done) | (simp_all [rBesF]; done) | rfl
      have eL : lp (rBesF) (n + 1) k (S, b1, b2) = lp (rBesF) n (k + 1) (S1, (b1), (b2)) := congrArg (lp (rBesF) n (k + 1)) eB
      rw [eL] at hk
      exact ih (k + 1) S1 ((b1)) ((b2)) (by omega) (by subst eS1; intro i hi; have h2 := hI (i + 1) (by omega); rw [lp_s eB, show k + (i + 1) = k + 1 + i by omega] at h2; exact h2) hk
    · refine j_iload_n X dX6_bestPolicy_29 rfl rfl (q := 3) rfl ?_
      refine j_iconst X dX6_bestPolicy_30 rfl (v := -1) (by decide) ?_
      refine j_icmp_eq X dX6_bestPolicy_31 rfl (tgt := 40) (by decide) (fun c_31 => ?_) (fun c_31 => ?_)
      · refine j_iconst X dX6_bestPolicy_40 rfl (v := 1) (by decide) ?_
        refine j_goto X (tgt := 45) dX6_bestPolicy_41 (by decide) ?_
        refine j_istore X dX6_bestPolicy_45 rfl (by decide) (Ls2 := [(5, .int (1)), (4, .int (rFoN S (nI (k)))), (3, .int (nI (k))), (0, .ref (zA Z (7) (0) (0))), (1, .int (b1)), (2, .int (b2))]) rfl ?_
        refine j_iload X dX6_bestPolicy_47 rfl (q := 0) rfl ?_
        refine j_if_eq_f X dX6_bestPolicy_49 rfl (tgt := 56) (by decide) (by decide) ?_
        refine j_iload_n X dX6_bestPolicy_52 rfl rfl (q := 2) rfl ?_
        refine j_goto X (tgt := 57) dX6_bestPolicy_53 (by decide) ?_
        refine j_istore_n X dX6_bestPolicy_57 rfl rfl (by decide) (Ls2 := [(1, .int (nI (k))), (5, .int (1)), (4, .int (rFoN S (nI (k)))), (3, .int (nI (k))), (0, .ref (zA Z (7) (0) (0))), (2, .int (b2))]) rfl ?_
        refine j_iload X dX6_bestPolicy_58 rfl (q := 1) rfl ?_
        refine j_if_eq_f X dX6_bestPolicy_60 rfl (tgt := 68) (by decide) (by decide) ?_
        refine j_iload X dX6_bestPolicy_63 rfl (q := 2) rfl ?_
        refine j_goto X (tgt := 69) dX6_bestPolicy_65 (by decide) ?_
        refine j_istore_n X dX6_bestPolicy_69 rfl rfl (by decide) (Ls2 := [(2, .int (rFoN S (nI (k)))), (1, .int (nI (k))), (5, .int (1)), (4, .int (rFoN S (nI (k)))), (3, .int (nI (k))), (0, .ref (zA Z (7) (0) (0)))]) rfl ?_
        refine j_iinc X dX6_bestPolicy_70 rfl (q := 4) rfl (v := (nI (k + 1))) (nI_1 _) (by decide) (Ls2 := [(3, .int (nI (k + 1))), (2, .int (rFoN S (nI (k)))), (1, .int (nI (k))), (5, .int (1)), (4, .int (rFoN S (nI (k)))), (0, .ref (zA Z (7) (0) (0)))]) rfl ?_
        refine j_goto X (tgt := 11) dX6_bestPolicy_73 (by decide) ?_
        refine j_sub [0, 5, 2, 1] (Ls2 := [(3, .int (nI (k + 1))), (0, .ref (zA Z (7) (0) (0))), (1, .int (nI (k))), (2, .int (rFoN S (nI (k))))]) rfl ?_
        have eB : (rBesF) k (S, b1, b2) = (S1, (nI (k)), (rFoN S (nI (k)))) := by subst eS1; first | with_reducible rfl | (simp [rBesF, c_26, c_31]; done) | (simp_all [rBesF]; done) | rfl
        have eL : lp (rBesF) (n + 1) k (S, b1, b2) = lp (rBesF) n (k + 1) (S1, (nI (k)), (rFoN S (nI (k)))) := congrArg (lp (rBesF) n (k + 1)) eB
        rw [eL] at hk
        exact ih (k + 1) S1 ((nI (k))) ((rFoN S (nI (k)))) (by omega) (by subst eS1; intro i hi; have h2 := hI (i + 1) (by omega); rw [lp_s eB, show k + (i + 1) = k + 1 + i by omega] at h2; exact h2) hk
      · refine j_iload X dX6_bestPolicy_34 rfl (q := 0) rfl ?_
        refine j_iload_n X dX6_bestPolicy_36 rfl rfl (q := 4) rfl ?_
        refine j_icmp_ge X dX6_bestPolicy_37 rfl (tgt := 44) (by decide) (fun c_37 => ?_) (fun c_37 => ?_)
        · refine j_iconst X dX6_bestPolicy_44 rfl (v := 0) (by decide) ?_
          refine j_istore X dX6_bestPolicy_45 rfl (by decide) (Ls2 := [(5, .int (0)), (4, .int (rFoN S (nI (k)))), (3, .int (nI (k))), (0, .ref (zA Z (7) (0) (0))), (1, .int (b1)), (2, .int (b2))]) rfl ?_
          refine j_iload X dX6_bestPolicy_47 rfl (q := 0) rfl ?_
          refine j_if_eq_t X (tgt := 56) dX6_bestPolicy_49 (by decide) (by decide) ?_
          refine j_iload_n X dX6_bestPolicy_56 rfl rfl (q := 4) rfl ?_
          refine j_istore_n X dX6_bestPolicy_57 rfl rfl (by decide) (Ls2 := [(1, .int (b1)), (5, .int (0)), (4, .int (rFoN S (nI (k)))), (3, .int (nI (k))), (0, .ref (zA Z (7) (0) (0))), (2, .int (b2))]) rfl ?_
          refine j_iload X dX6_bestPolicy_58 rfl (q := 1) rfl ?_
          refine j_if_eq_t X (tgt := 68) dX6_bestPolicy_60 (by decide) (by decide) ?_
          refine j_iload_n X dX6_bestPolicy_68 rfl rfl (q := 5) rfl ?_
          refine j_istore_n X dX6_bestPolicy_69 rfl rfl (by decide) (Ls2 := [(2, .int (b2)), (1, .int (b1)), (5, .int (0)), (4, .int (rFoN S (nI (k)))), (3, .int (nI (k))), (0, .ref (zA Z (7) (0) (0)))]) rfl ?_
          refine j_iinc X dX6_bestPolicy_70 rfl (q := 4) rfl (v := (nI (k + 1))) (nI_1 _) (by decide) (Ls2 := [(3, .int (nI (k + 1))), (2, .int (b2)), (1, .int (b1)), (5, .int (0)), (4, .int (rFoN S (nI (k)))), (0, .ref (zA Z (7) (0) (0)))]) rfl ?_
          refine j_goto X (tgt := 11) dX6_bestPolicy_73 (by decide) ?_
          refine j_sub [0, 5, 2, 1] (Ls2 := [(3, .int (nI (k + 1))), (0, .ref (zA Z (7) (0) (0))), (1, .int (b1)), (2, .int (b2))]) rfl ?_
          have eB : (rBesF) k (S, b1, b2) = (S1, (b1), (b2)) := by subst eS1; first | with_reducible rfl | (simp [rBesF, c_26, c_31, c_37]; done) | (simp_all [rBesF]; done) | rfl
          have eL : lp (rBesF) (n + 1) k (S, b1, b2) = lp (rBesF) n (k + 1) (S1, (b1), (b2)) := congrArg (lp (rBesF) n (k + 1)) eB
          rw [eL] at hk
          exact ih (k + 1) S1 ((b1)) ((b2)) (by omega) (by subst eS1; intro i hi; have h2 := hI (i + 1) (by omega); rw [lp_s eB, show k + (i + 1) = k + 1 + i by omega] at h2; exact h2) hk
        · refine j_iconst X dX6_bestPolicy_40 rfl (v := 1) (by decide) ?_
          refine j_goto X (tgt := 45) dX6_bestPolicy_41 (by decide) ?_
          refine j_istore X dX6_bestPolicy_45 rfl (by decide) (Ls2 := [(5, .int (1)), (4, .int (rFoN S (nI (k)))), (3, .int (nI (k))), (0, .ref (zA Z (7) (0) (0))), (1, .int (b1)), (2, .int (b2))]) rfl ?_
          refine j_iload X dX6_bestPolicy_47 rfl (q := 0) rfl ?_
          refine j_if_eq_f X dX6_bestPolicy_49 rfl (tgt := 56) (by decide) (by decide) ?_
          refine j_iload_n X dX6_bestPolicy_52 rfl rfl (q := 2) rfl ?_
          refine j_goto X (tgt := 57) dX6_bestPolicy_53 (by decide) ?_
          refine j_istore_n X dX6_bestPolicy_57 rfl rfl (by decide) (Ls2 := [(1, .int (nI (k))), (5, .int (1)), (4, .int (rFoN S (nI (k)))), (3, .int (nI (k))), (0, .ref (zA Z (7) (0) (0))), (2, .int (b2))]) rfl ?_
          refine j_iload X dX6_bestPolicy_58 rfl (q := 1) rfl ?_
          refine j_if_eq_f X dX6_bestPolicy_60 rfl (tgt := 68) (by decide) (by decide) ?_
          refine j_iload X dX6_bestPolicy_63 rfl (q := 2) rfl ?_
          refine j_goto X (tgt := 69) dX6_bestPolicy_65 (by decide) ?_
          refine j_istore_n X dX6_bestPolicy_69 rfl rfl (by decide) (Ls2 := [(2, .int (rFoN S (nI (k)))), (1, .int (nI (k))), (5, .int (1)), (4, .int (rFoN S (nI (k)))), (3, .int (nI (k))), (0, .ref (zA Z (7) (0) (0)))]) rfl ?_
          refine j_iinc X dX6_bestPolicy_70 rfl (q := 4) rfl (v := (nI (k + 1))) (nI_1 _) (by decide) (Ls2 := [(3, .int (nI (k + 1))), (2, .int (rFoN S (nI (k)))), (1, .int (nI (k))), (5, .int (1)), (4, .int (rFoN S (nI (k)))), (0, .ref (zA Z (7) (0) (0)))]) rfl ?_
          refine j_goto X (tgt := 11) dX6_bestPolicy_73 (by decide) ?_
          refine j_sub [0, 5, 2, 1] (Ls2 := [(3, .int (nI (k + 1))), (0, .ref (zA Z (7) (0) (0))), (1, .int (nI (k))), (2, .int (rFoN S (nI (k))))]) rfl ?_
          have eB : (rBesF) k (S, b1, b2) = (S1, (nI (k)), (rFoN S (nI (k)))) := by subst eS1; first | with_reducible rfl | (simp [rBesF, c_26, c_31, c_37]; done) | (simp_all [rBesF]; done) | rfl
          have eL : lp (rBesF) (n + 1) k (S, b1, b2) = lp (rBesF) n (k + 1) (S1, (nI (k)), (rFoN S (nI (k)))) := congrArg (lp (rBesF) n (k + 1)) eB
          rw [eL] at hk
          exact ih (k + 1) S1 ((nI (k))) ((rFoN S (nI (k)))) (by omega) (by subst eS1; intro i hi; have h2 := hI (i + 1) (by omega); rw [lp_s eB, show k + (i + 1) = k + 1 + i by omega] at h2; exact h2) hk
set_option maxRecDepth 100000 in
set_option maxHeartbeats 400000 in
theorem c_X6_bestPolicy (l : Launch) (Z : wZ) (S : St) (h : Hl) (hok : ∀ i, i < 3 → okF (lp rBesF i 0 (rCd S 0, -1, 0)).1 (nI i)) : Ci l yX6_bestPolicy cX6_bestPolicy 6 .int 10 227 Z [.ref (zA Z (7) (0) (0))] S h ((rBest S).2.1) ((rBest S).1) (h) := by
  refine Ci.of rfl rfl (Nat.le_of_ble_eq_true rfl) (fun p e s mi args below meth c A0 Q X K => ?_)
  refine j_at rfl rfl (Ls3 := [(0, .ref (zA Z (7) (0) (0)))]) rfl rfl ?_
  refine j_aload_n X dX6_bestPolicy_0 rfl rfl (q := 0) rfl ?_
  refine j_iconst X dX6_bestPolicy_1 rfl (v := 0) (by decide) ?_
  refine jp_model X 9 (by decide) lk_RX6_41 rfl rfl rfl (vp_nar_int _) rfl rfl dX6_bestPolicy_2 rfl ?_
  refine j_name (fun S1 eS1 => ?_)
  refine j_iconst X dX6_bestPolicy_5 rfl (v := -1) (by decide) ?_
  refine j_istore_n X dX6_bestPolicy_6 rfl rfl (by decide) (Ls2 := [(1, .int (-1)), (0, .ref (zA Z (7) (0) (0)))]) rfl ?_
  refine j_iconst X dX6_bestPolicy_7 rfl (v := 0) (by decide) ?_
  refine j_istore_n X dX6_bestPolicy_8 rfl rfl (by decide) (Ls2 := [(2, .int (0)), (1, .int (-1)), (0, .ref (zA Z (7) (0) (0)))]) rfl ?_
  refine j_iconst X dX6_bestPolicy_9 rfl (v := 0) (by decide) ?_
  refine j_istore_n X dX6_bestPolicy_10 rfl rfl (by decide) (Ls2 := [(3, .int (0)), (2, .int (0)), (1, .int (-1)), (0, .ref (zA Z (7) (0) (0)))]) rfl ?_
  refine j_sub [0, 3, 2, 1] (Ls2 := [(3, .int (0)), (0, .ref (zA Z (7) (0) (0))), (1, .int (-1)), (2, .int (0))]) rfl ?_
  refine L_rbp l Z h  X 3 0 S1 ((-1)) ((0)) (by omega) (by subst eS1; intro i hi; have := hok i hi; rw [Nat.zero_add]; exact this) ?_
  refine j_name (fun S2 eS2 => ?_)
  refine j_iload_n X dX6_bestPolicy_76 rfl rfl (q := 0) rfl ?_
  have eB : lp (rBesF) 3 0 (S1, -1, 0) = rBest S := by rw [rBest, eS1]
  exact j_ret (by rw [eB]) (by rw [eS2, eB]) rfl (K _ _ dX6_bestPolicy_77)
set_option maxRecDepth 100000 in
set_option maxHeartbeats 400000 in
theorem c_X5_run (l : Launch) (Z : wZ) (S : St) (h : Hl) (b : Nat) (hb : b ≤ 1000) (hr : pIsRun (nI b) = true) (ho : okI (S 6 0 0 6) 3) (hn : okI (S 6 0 0 7) 4) (hq : okI (S 0 4 4 7) 400) (hok : okDs (pSave S) 0 b) (hfc : okI (pRunS S b 0 4 0 4) 4) : Ci l yX5_run cX5_run 2 .int 6 143 Z [.ref (zA Z (6) (0) (0)), .int (nI (b))] S h (pFinC (pRunS S b) 0) (pRunS S b) (h) := by
  refine Ci.of rfl rfl (Nat.le_of_ble_eq_true rfl) (fun p e s mi args below meth c A0 Q X K => ?_)
  refine j_at rfl rfl (Ls3 := [(0, .ref (zA Z (6) (0) (0))), (1, .int (nI (b)))]) rfl rfl ?_
  refine j_iload_n X dX5_run_0 rfl rfl (q := 1) rfl ?_
  refine j_callSi X (c_X5_isRunLength l Z S h (nI (b))) lk_RX5_146 mt_X5_isRunLength ini_RX5 mc_X5_isRunLength md_X5_isRunLength ⟨Nat.le_of_ble_eq_true rfl, Nat.le_of_ble_eq_true rfl⟩ ⟨Nat.le_of_ble_eq_true rfl, Nat.le_of_ble_eq_true rfl⟩ rfl (Nat.le_of_ble_eq_true rfl) (as := [.int (nI (b))]) (rest := []) rfl dX5_run_1 rfl ?_
  refine j_if_ne_t X (tgt := 17) dX5_run_4 (by decide) (by rw [hr]; decide) ?_
  refine j_aload_n X dX5_run_17 rfl rfl (q := 0) rfl ?_
  refine j_callv X (c_X5_saveState l Z S h ho hn hq) (wm_top (by decide)) ((fun _ => rfl) _) rfl lk_RX5_60 mi_X5_saveState ms_X5_saveState ini_RX5 mc_X5_saveState md_X5_saveState ⟨Nat.le_of_ble_eq_true rfl, Nat.le_of_ble_eq_true rfl⟩ ⟨Nat.le_of_ble_eq_true rfl, Nat.le_of_ble_eq_true rfl⟩ rfl (Nat.le_of_ble_eq_true rfl) (as := []) (rest := []) rfl dX5_run_18 rfl ?_
  refine j_name (fun S1 eS1 => ?_)
  refine j_aload_n X dX5_run_21 rfl rfl (q := 0) rfl ?_
  refine jg_top X 3 (by decide) lk_RX5_29 rfl rfl dX5_run_22 rfl ?_
  refine j_iload_n X dX5_run_25 rfl rfl (q := 1) rfl ?_
  refine j_callNv X (c_X2_stepOften l Z S1 h 0 (by decide) b hb (by subst eS1; exact hok)) (wm_mach (by decide) (by decide)) (wE_mach (by decide) 0 _) rfl nk_RX5_151 mi_X2_stepOften ms_X2_stepOften ini_RX2 mc_X2_stepOften md_X2_stepOften ⟨Nat.le_of_ble_eq_true rfl, Nat.le_of_ble_eq_true rfl⟩ ⟨Nat.le_of_ble_eq_true rfl, Nat.le_of_ble_eq_true rfl⟩ rfl (Nat.le_of_ble_eq_true rfl) (as := [.int (nI (b))]) (rest := []) rfl dX5_run_26 rfl ?_
  refine j_name (fun S2 eS2 => ?_)
  refine j_aload_n X dX5_run_29 rfl rfl (q := 0) rfl ?_
  refine jg_top X 3 (by decide) lk_RX5_29 rfl rfl dX5_run_30 rfl ?_
  refine j_callNi X (c_X2_finishedCores l Z S2 h 0 (by decide) (by subst eS1; subst eS2; exact hfc)) (wm_mach (by decide) (by decide)) (wE_mach (by decide) 0 _) rfl nk_RX5_154 mi_X2_finishedCores ms_X2_finishedCores ini_RX2 mc_X2_finishedCores md_X2_finishedCores ⟨Nat.le_of_ble_eq_true rfl, Nat.le_of_ble_eq_true rfl⟩ ⟨Nat.le_of_ble_eq_true rfl, Nat.le_of_ble_eq_true rfl⟩ rfl (Nat.le_of_ble_eq_true rfl) (as := []) (rest := []) rfl dX5_run_33 rfl ?_
  exact j_ret (by subst eS1; subst eS2; first | with_reducible rfl | (simp [pRunS]; done) | (simp_all [pRunS]; done) | rfl) (by subst eS1; subst eS2; first | with_reducible rfl | (simp [pRunS]; done) | (simp_all [pRunS]; done) | rfl) rfl (K _ _ dX5_run_36)
set_option maxRecDepth 100000 in
set_option maxHeartbeats 400000 in
theorem c_X5_finish (l : Launch) (Z : wZ) (S : St) (h : Hl) (x : Int32) (h3 : pIsPol x = true) (hok : okT S x) : Ci l yX5_finish cX5_finish 2 .int 6 142 Z [.ref (zA Z (6) (0) (0)), .int (x)] S h ((pFoL S x).1) ((pFoL S x).2) (h) := by
  refine Ci.of rfl rfl (Nat.le_of_ble_eq_true rfl) (fun p e s mi args below meth c A0 Q X K => ?_)
  refine j_at rfl rfl (Ls3 := [(0, .ref (zA Z (6) (0) (0))), (1, .int (x))]) rfl rfl ?_
  refine j_iload_n X dX5_finish_0 rfl rfl (q := 1) rfl ?_
  refine j_callSi X (c_X5_isPolicy l Z S h (x)) lk_RX5_49 mt_X5_isPolicy ini_RX5 mc_X5_isPolicy md_X5_isPolicy ⟨Nat.le_of_ble_eq_true rfl, Nat.le_of_ble_eq_true rfl⟩ ⟨Nat.le_of_ble_eq_true rfl, Nat.le_of_ble_eq_true rfl⟩ rfl (Nat.le_of_ble_eq_true rfl) (as := [.int (x)]) (rest := []) rfl dX5_finish_1 rfl ?_
  refine j_if_ne_t X (tgt := 17) dX5_finish_4 (by decide) (by rw [h3]; decide) ?_
  refine j_aload_n X dX5_finish_17 rfl rfl (q := 0) rfl ?_
  refine j_iload_n X dX5_finish_18 rfl rfl (q := 1) rfl ?_
  refine j_callv X (c_X5_startTrial l Z S h (x) hok.1) (wm_top (by decide)) ((fun _ => rfl) _) rfl lk_RX5_213 mi_X5_startTrial ms_X5_startTrial ini_RX5 mc_X5_startTrial md_X5_startTrial ⟨Nat.le_of_ble_eq_true rfl, Nat.le_of_ble_eq_true rfl⟩ ⟨Nat.le_of_ble_eq_true rfl, Nat.le_of_ble_eq_true rfl⟩ rfl (Nat.le_of_ble_eq_true rfl) (as := [.int (x)]) (rest := []) rfl dX5_finish_19 rfl ?_
  refine j_name (fun S1 eS1 => ?_)
  refine j_aload_n X dX5_finish_22 rfl rfl (q := 0) rfl ?_
  refine jg_top X 4 (by decide) lk_RX5_33 rfl rfl dX5_finish_23 rfl ?_
  refine j_callNi X (c_X2_stepsUntilFinished l Z S1 h 1 (by decide) (by subst eS1; exact hok.2)) (wm_mach (by decide) (by decide)) (wE_mach (by decide) 0 _) rfl nk_RX5_216 mi_X2_stepsUntilFinished ms_X2_stepsUntilFinished ini_RX2 mc_X2_stepsUntilFinished md_X2_stepsUntilFinished ⟨Nat.le_of_ble_eq_true rfl, Nat.le_of_ble_eq_true rfl⟩ ⟨Nat.le_of_ble_eq_true rfl, Nat.le_of_ble_eq_true rfl⟩ rfl (Nat.le_of_ble_eq_true rfl) (as := []) (rest := []) rfl dX5_finish_26 rfl ?_
  refine j_name (fun S2 eS2 => ?_)
  exact j_ret (by subst eS1; subst eS2; first | with_reducible rfl | (simp [pFoL]; done) | (simp_all [pFoL]; done) | rfl) (by subst eS1; subst eS2; first | with_reducible rfl | (simp [pFoL]; done) | (simp_all [pFoL]; done) | rfl) rfl (K _ _ dX5_finish_29)
set_option maxRecDepth 100000 in
set_option maxHeartbeats 400000 in
theorem c_X5_abortsWith (l : Launch) (Z : wZ) (S : St) (h : Hl) (x : Int32) (h3 : pIsPol x = true) (b : Nat) (hb : b ≤ 1000) (hr : pIsRun (nI b) = true) (hq : okI (S 0 4 4 7) 400) (hok : okDs (pTrial S x) 1 b) : Ci l yX5_abortsWith cX5_abortsWith 4 .int 6 143 Z [.ref (zA Z (6) (0) (0)), .int (x), .int (nI (b))] S h (pAbW S x b) (pOft (pTrial S x) 1 b) (h) := by
  refine Ci.of rfl rfl (Nat.le_of_ble_eq_true rfl) (fun p e s mi args below meth c A0 Q X K => ?_)
  refine j_at rfl rfl (Ls3 := [(0, .ref (zA Z (6) (0) (0))), (1, .int (x)), (2, .int (nI (b)))]) rfl rfl ?_
  refine j_iload_n X dX5_abortsWith_0 rfl rfl (q := 1) rfl ?_
  refine j_callSi X (c_X5_isPolicy l Z S h (x)) lk_RX5_49 mt_X5_isPolicy ini_RX5 mc_X5_isPolicy md_X5_isPolicy ⟨Nat.le_of_ble_eq_true rfl, Nat.le_of_ble_eq_true rfl⟩ ⟨Nat.le_of_ble_eq_true rfl, Nat.le_of_ble_eq_true rfl⟩ rfl (Nat.le_of_ble_eq_true rfl) (as := [.int (x)]) (rest := []) rfl dX5_abortsWith_1 rfl ?_
  refine j_if_eq_f X dX5_abortsWith_4 rfl (tgt := 14) (by decide) (by rw [h3]; decide) ?_
  refine j_iload_n X dX5_abortsWith_7 rfl rfl (q := 2) rfl ?_
  refine j_callSi X (c_X5_isRunLength l Z S h (nI (b))) lk_RX5_146 mt_X5_isRunLength ini_RX5 mc_X5_isRunLength md_X5_isRunLength ⟨Nat.le_of_ble_eq_true rfl, Nat.le_of_ble_eq_true rfl⟩ ⟨Nat.le_of_ble_eq_true rfl, Nat.le_of_ble_eq_true rfl⟩ rfl (Nat.le_of_ble_eq_true rfl) (as := [.int (nI (b))]) (rest := []) rfl dX5_abortsWith_8 rfl ?_
  refine j_if_ne_t X (tgt := 24) dX5_abortsWith_11 (by decide) (by rw [hr]; decide) ?_
  refine j_aload_n X dX5_abortsWith_24 rfl rfl (q := 0) rfl ?_
  refine j_iload_n X dX5_abortsWith_25 rfl rfl (q := 1) rfl ?_
  refine j_callv X (c_X5_startTrial l Z S h (x) hq) (wm_top (by decide)) ((fun _ => rfl) _) rfl lk_RX5_213 mi_X5_startTrial ms_X5_startTrial ini_RX5 mc_X5_startTrial md_X5_startTrial ⟨Nat.le_of_ble_eq_true rfl, Nat.le_of_ble_eq_true rfl⟩ ⟨Nat.le_of_ble_eq_true rfl, Nat.le_of_ble_eq_true rfl⟩ rfl (Nat.le_of_ble_eq_true rfl) (as := [.int (x)]) (rest := []) rfl dX5_abortsWith_26 rfl ?_
  refine j_name (fun S1 eS1 => ?_)
  refine j_aload_n X dX5_abortsWith_29 rfl rfl (q := 0) rfl ?_
  refine jg_top X 4 (by decide) lk_RX5_33 rfl rfl dX5_abortsWith_30 rfl ?_
  refine j_callNi X (c_X2_abortsSoFar l Z S1 h 1 (by decide) ) (wm_mach (by decide) (by decide)) (wE_mach (by decide) 0 _) rfl nk_RX5_219 mi_X2_abortsSoFar ms_X2_abortsSoFar ini_RX2 mc_X2_abortsSoFar md_X2_abortsSoFar ⟨Nat.le_of_ble_eq_true rfl, Nat.le_of_ble_eq_true rfl⟩ ⟨Nat.le_of_ble_eq_true rfl, Nat.le_of_ble_eq_true rfl⟩ rfl (Nat.le_of_ble_eq_true rfl) (as := []) (rest := []) rfl dX5_abortsWith_33 rfl ?_
  refine j_istore_n X dX5_abortsWith_36 rfl rfl (by decide) (Ls2 := [(3, .int (pAborts S1 1)), (0, .ref (zA Z (6) (0) (0))), (1, .int (x)), (2, .int (nI (b)))]) rfl ?_
  refine j_aload_n X dX5_abortsWith_37 rfl rfl (q := 1) rfl ?_
  refine jg_top X 4 (by decide) lk_RX5_33 rfl rfl dX5_abortsWith_38 rfl ?_
  refine j_iload_n X dX5_abortsWith_41 rfl rfl (q := 3) rfl ?_
  refine j_callNv X (c_X2_stepOften l Z S1 h 1 (by decide) b hb (by subst eS1; exact hok)) (wm_mach (by decide) (by decide)) (wE_mach (by decide) 0 _) rfl nk_RX5_151 mi_X2_stepOften ms_X2_stepOften ini_RX2 mc_X2_stepOften md_X2_stepOften ⟨Nat.le_of_ble_eq_true rfl, Nat.le_of_ble_eq_true rfl⟩ ⟨Nat.le_of_ble_eq_true rfl, Nat.le_of_ble_eq_true rfl⟩ rfl (Nat.le_of_ble_eq_true rfl) (as := [.int (nI (b))]) (rest := []) rfl dX5_abortsWith_42 rfl ?_
  refine j_name (fun S2 eS2 => ?_)
  refine j_aload_n X dX5_abortsWith_45 rfl rfl (q := 1) rfl ?_
  refine jg_top X 4 (by decide) lk_RX5_33 rfl rfl dX5_abortsWith_46 rfl ?_
  refine j_callNi X (c_X2_abortsSoFar l Z S2 h 1 (by decide) ) (wm_mach (by decide) (by decide)) (wE_mach (by decide) 0 _) rfl nk_RX5_219 mi_X2_abortsSoFar ms_X2_abortsSoFar ini_RX2 mc_X2_abortsSoFar md_X2_abortsSoFar ⟨Nat.le_of_ble_eq_true rfl, Nat.le_of_ble_eq_true rfl⟩ ⟨Nat.le_of_ble_eq_true rfl, Nat.le_of_ble_eq_true rfl⟩ rfl (Nat.le_of_ble_eq_true rfl) (as := []) (rest := []) rfl dX5_abortsWith_49 rfl ?_
  refine j_iload_n X dX5_abortsWith_52 rfl rfl (q := 0) rfl ?_
  refine j_isub X dX5_abortsWith_53 rfl ?_
  exact j_ret (by subst eS1; subst eS2; first | with_reducible rfl | (simp [pAbW]; done) | (simp_all [pAbW]; done) | rfl) (by subst eS1; subst eS2; first | with_reducible rfl | (simp [pAbW]; done) | (simp_all [pAbW]; done) | rfl) rfl (K _ _ dX5_abortsWith_54)
set_option maxRecDepth 100000 in
set_option maxHeartbeats 400000 in
theorem L_pbp (l : Launch) (Z : wZ) (h : Hl)  {p : Program} {e : Env} {s : State} {mi : MethodId} {args : Array Value} {below : List Frame} {meth : Method} {c : Code} {A0 : Nat → Prop} {Q : State → Prop} (X : JX p s mi args meth c cX5_bestPolicy 5 yX5_bestPolicy.cls Z A0) : ∀ (n k : Nat) (S : St) (b1 : Int32) (b2 : Int32), k + n = 3 → (∀ i, i < n → okT (lp pBesF i k (S, b1, b2)).1 (nI (k + i))) → J p l e { frames := 6, cells := 0, slots := 0, locals := 142 } s mi args below meth c 5 Z A0 0 0 Q ((lp (pBesF) n k (S, b1, b2)).1) h [(1, .int ((lp (pBesF) n k (S, b1, b2)).2.1))] 53 [] → J p l e { frames := 6, cells := 0, slots := 0, locals := 142 } s mi args below meth c 5 Z A0 0 0 Q S h [(3, .int (nI (k))), (0, .ref (zA Z (6) (0) (0))), (1, .int (b1)), (2, .int (b2))] 6 [] := by
  intro n
  induction n with
  | zero =>
    intro k S b1 b2 hkn hI hk
    have hkN : 3 = k := by omega
    subst hkN
    refine j_iload_n X dX5_bestPolicy_6 rfl rfl (q := 0) rfl ?_
    refine j_iconst X dX5_bestPolicy_7 rfl (v := 3) (by decide) ?_
    refine j_icmp_ge_t X (tgt := 53) dX5_bestPolicy_8 (by decide) (nI_le (Nat.le_refl _) (by decide)) ?_
    refine j_sub [2] (Ls2 := [(1, .int (b1))]) rfl ?_
    exact hk
  | succ n ih =>
    intro k S b1 b2 hkn hI hk
    have hlt : k < 3 := by omega
    refine j_iload_n X dX5_bestPolicy_6 rfl rfl (q := 0) rfl ?_
    refine j_iconst X dX5_bestPolicy_7 rfl (v := 3) (by decide) ?_
    refine j_icmp_ge_f X dX5_bestPolicy_8 rfl (tgt := 53) (by decide) (nI_ge hlt (by decide)) ?_
    refine j_aload_n X dX5_bestPolicy_11 rfl rfl (q := 1) rfl ?_
    refine j_iload_n X dX5_bestPolicy_12 rfl rfl (q := 0) rfl ?_
    refine j_callv X (c_X5_startTrial l Z S h (nI (k)) (hI 0 (by omega)).1) (wm_top (by decide)) ((fun _ => rfl) _) rfl lk_RX5_213 mi_X5_startTrial ms_X5_startTrial ini_RX5 mc_X5_startTrial md_X5_startTrial ⟨Nat.le_of_ble_eq_true rfl, Nat.le_of_ble_eq_true rfl⟩ ⟨Nat.le_of_ble_eq_true rfl, Nat.le_of_ble_eq_true rfl⟩ rfl (Nat.le_of_ble_eq_true rfl) (as := [.int (nI (k))]) (rest := []) rfl dX5_bestPolicy_13 rfl ?_
    refine j_name (fun S1 eS1 => ?_)
    refine j_aload_n X dX5_bestPolicy_16 rfl rfl (q := 1) rfl ?_
    refine jg_top X 4 (by decide) lk_RX5_33 rfl rfl dX5_bestPolicy_17 rfl ?_
    refine j_callNi X (c_X2_stepsUntilFinished l Z S1 h 1 (by decide) (by subst eS1; exact (hI 0 (by omega)).2)) (wm_mach (by decide) (by decide)) (wE_mach (by decide) 0 _) rfl nk_RX5_216 mi_X2_stepsUntilFinished ms_X2_stepsUntilFinished ini_RX2 mc_X2_stepsUntilFinished md_X2_stepsUntilFinished ⟨Nat.le_of_ble_eq_true rfl, Nat.le_of_ble_eq_true rfl⟩ ⟨Nat.le_of_ble_eq_true rfl, Nat.le_of_ble_eq_true rfl⟩ rfl (Nat.le_of_ble_eq_true rfl) (as := []) (rest := []) rfl dX5_bestPolicy_20 rfl ?_
    refine j_name (fun S2 eS2 => ?_)
    refine j_istore X dX5_bestPolicy_23 rfl (by decide) (Ls2 := [(4, .int ((pUnt S1 1).1)), (3, .int (nI (k))), (0, .ref (zA Z (6) (0) (0))), (1, .int (b1)), (2, .int (b2))]) rfl ?_
    refine j_iload X dX5_bestPolicy_25 rfl (q := 0) rfl ?_
    refine j_iconst X dX5_bestPolicy_27 rfl (v := -1) (by decide) ?_
    refine j_icmp_eq X dX5_bestPolicy_28 rfl (tgt := 47) (by decide) (fun c_28 => ?_) (fun c_28 => ?_)
    · refine j_iinc X dX5_bestPolicy_47 rfl (q := 1) rfl (v := (nI (k + 1))) (nI_1 _) (by decide) (Ls2 := [(3, .int (nI (k + 1))), (4, .int ((pUnt S1 1).1)), (0, .ref (zA Z (6) (0) (0))), (1, .int (b1)), (2, .int (b2))]) rfl ?_
      refine j_goto X (tgt := 6) dX5_bestPolicy_50 (by decide) ?_
      refine j_sub [0, 2, 3, 4] (Ls2 := [(3, .int (nI (k + 1))), (0, .ref (zA Z (6) (0) (0))), (1, .int (b1)), (2, .int (b2))]) rfl ?_
      have eB : (pBesF) k (S, b1, b2) = (S2, (b1), (b2)) := by subst eS1; subst eS2; first | with_reducible rfl | (simp [pBesF, pFoL, c_28]; done) | (simp_all [pBesF, pFoL]; done) | rfl
      have eL : lp (pBesF) (n + 1) k (S, b1, b2) = lp (pBesF) n (k + 1) (S2, (b1), (b2)) := congrArg (lp (pBesF) n (k + 1)) eB
      rw [eL] at hk
      exact ih (k + 1) S2 ((b1)) ((b2)) (by omega) (by subst eS1; subst eS2; intro i hi; have h2 := hI (i + 1) (by omega); rw [lp_s eB, show k + (i + 1) = k + 1 + i by omega] at h2; exact h2) hk
    · refine j_iload_n X dX5_bestPolicy_31 rfl rfl (q := 3) rfl ?_
      refine j_iconst X dX5_bestPolicy_32 rfl (v := -1) (by decide) ?_
      refine j_icmp_eq X dX5_bestPolicy_33 rfl (tgt := 42) (by decide) (fun c_33 => ?_) (fun c_33 => ?_)
      · refine j_iload_n X dX5_bestPolicy_42 rfl rfl (q := 1) rfl ?_
        refine j_istore_n X dX5_bestPolicy_43 rfl rfl (by decide) (Ls2 := [(1, .int (nI (k))), (4, .int ((pUnt S1 1).1)), (3, .int (nI (k))), (0, .ref (zA Z (6) (0) (0))), (2, .int (b2))]) rfl ?_
        refine j_iload X dX5_bestPolicy_44 rfl (q := 1) rfl ?_
        refine j_istore_n X dX5_bestPolicy_46 rfl rfl (by decide) (Ls2 := [(2, .int ((pUnt S1 1).1)), (1, .int (nI (k))), (4, .int ((pUnt S1 1).1)), (3, .int (nI (k))), (0, .ref (zA Z (6) (0) (0)))]) rfl ?_
        refine j_iinc X dX5_bestPolicy_47 rfl (q := 3) rfl (v := (nI (k + 1))) (nI_1 _) (by decide) (Ls2 := [(3, .int (nI (k + 1))), (2, .int ((pUnt S1 1).1)), (1, .int (nI (k))), (4, .int ((pUnt S1 1).1)), (0, .ref (zA Z (6) (0) (0)))]) rfl ?_
        refine j_goto X (tgt := 6) dX5_bestPolicy_50 (by decide) ?_
        refine j_sub [0, 4, 2, 1] (Ls2 := [(3, .int (nI (k + 1))), (0, .ref (zA Z (6) (0) (0))), (1, .int (nI (k))), (2, .int ((pUnt S1 1).1))]) rfl ?_
        have eB : (pBesF) k (S, b1, b2) = (S2, (nI (k)), ((pUnt S1 1).1)) := by subst eS1; subst eS2; first | with_reducible rfl | (simp [pBesF, pFoL, c_28, c_33]; done) | (simp_all [pBesF, pFoL]; done) | rfl
        have eL : lp (pBesF) (n + 1) k (S, b1, b2) = lp (pBesF) n (k + 1) (S2, (nI (k)), ((pUnt S1 1).1)) := congrArg (lp (pBesF) n (k + 1)) eB
        rw [eL] at hk
        exact ih (k + 1) S2 ((nI (k))) (((pUnt S1 1).1)) (by omega) (by subst eS1; subst eS2; intro i hi; have h2 := hI (i + 1) (by omega); rw [lp_s eB, show k + (i + 1) = k + 1 + i by omega] at h2; exact h2) hk
      · refine j_iload X dX5_bestPolicy_36 rfl (q := 0) rfl ?_
        refine j_iload_n X dX5_bestPolicy_38 rfl rfl (q := 4) rfl ?_
        refine j_icmp_ge X dX5_bestPolicy_39 rfl (tgt := 47) (by decide) (fun c_39 => ?_) (fun c_39 => ?_)
        · refine j_iinc X dX5_bestPolicy_47 rfl (q := 1) rfl (v := (nI (k + 1))) (nI_1 _) (by decide) (Ls2 := [(3, .int (nI (k + 1))), (4, .int ((pUnt S1 1).1)), (0, .ref (zA Z (6) (0) (0))), (1, .int (b1)), (2, .int (b2))]) rfl ?_
          refine j_goto X (tgt := 6) dX5_bestPolicy_50 (by decide) ?_
          refine j_sub [0, 2, 3, 4] (Ls2 := [(3, .int (nI (k + 1))), (0, .ref (zA Z (6) (0) (0))), (1, .int (b1)), (2, .int (b2))]) rfl ?_
          have eB : (pBesF) k (S, b1, b2) = (S2, (b1), (b2)) := by subst eS1; subst eS2; first | with_reducible rfl | (simp [pBesF, pFoL, c_28, c_33, c_39]; done) | (simp_all [pBesF, pFoL]; done) | rfl
          have eL : lp (pBesF) (n + 1) k (S, b1, b2) = lp (pBesF) n (k + 1) (S2, (b1), (b2)) := congrArg (lp (pBesF) n (k + 1)) eB
          rw [eL] at hk
          exact ih (k + 1) S2 ((b1)) ((b2)) (by omega) (by subst eS1; subst eS2; intro i hi; have h2 := hI (i + 1) (by omega); rw [lp_s eB, show k + (i + 1) = k + 1 + i by omega] at h2; exact h2) hk
        · refine j_iload_n X dX5_bestPolicy_42 rfl rfl (q := 1) rfl ?_
          refine j_istore_n X dX5_bestPolicy_43 rfl rfl (by decide) (Ls2 := [(1, .int (nI (k))), (4, .int ((pUnt S1 1).1)), (3, .int (nI (k))), (0, .ref (zA Z (6) (0) (0))), (2, .int (b2))]) rfl ?_
          refine j_iload X dX5_bestPolicy_44 rfl (q := 1) rfl ?_
          refine j_istore_n X dX5_bestPolicy_46 rfl rfl (by decide) (Ls2 := [(2, .int ((pUnt S1 1).1)), (1, .int (nI (k))), (4, .int ((pUnt S1 1).1)), (3, .int (nI (k))), (0, .ref (zA Z (6) (0) (0)))]) rfl ?_
          refine j_iinc X dX5_bestPolicy_47 rfl (q := 3) rfl (v := (nI (k + 1))) (nI_1 _) (by decide) (Ls2 := [(3, .int (nI (k + 1))), (2, .int ((pUnt S1 1).1)), (1, .int (nI (k))), (4, .int ((pUnt S1 1).1)), (0, .ref (zA Z (6) (0) (0)))]) rfl ?_
          refine j_goto X (tgt := 6) dX5_bestPolicy_50 (by decide) ?_
          refine j_sub [0, 4, 2, 1] (Ls2 := [(3, .int (nI (k + 1))), (0, .ref (zA Z (6) (0) (0))), (1, .int (nI (k))), (2, .int ((pUnt S1 1).1))]) rfl ?_
          have eB : (pBesF) k (S, b1, b2) = (S2, (nI (k)), ((pUnt S1 1).1)) := by subst eS1; subst eS2; first | with_reducible rfl | (simp [pBesF, pFoL, c_28, c_33, c_39]; done) | (simp_all [pBesF, pFoL]; done) | rfl
          have eL : lp (pBesF) (n + 1) k (S, b1, b2) = lp (pBesF) n (k + 1) (S2, (nI (k)), ((pUnt S1 1).1)) := congrArg (lp (pBesF) n (k + 1)) eB
          rw [eL] at hk
          exact ih (k + 1) S2 ((nI (k))) (((pUnt S1 1).1)) (by omega) (by subst eS1; subst eS2; intro i hi; have h2 := hI (i + 1) (by omega); rw [lp_s eB, show k + (i + 1) = k + 1 + i by omega] at h2; exact h2) hk
set_option maxRecDepth 100000 in
set_option maxHeartbeats 400000 in
theorem c_X5_bestPolicy (l : Launch) (Z : wZ) (S : St) (h : Hl) (hok : ∀ i, i < 3 → okT (lp pBesF i 0 (S, -1, 0)).1 (nI i)) : Ci l yX5_bestPolicy cX5_bestPolicy 5 .int 6 142 Z [.ref (zA Z (6) (0) (0))] S h ((pBest S).2.1) ((pBest S).1) (h) := by
  refine Ci.of rfl rfl (Nat.le_of_ble_eq_true rfl) (fun p e s mi args below meth c A0 Q X K => ?_)
  refine j_at rfl rfl (Ls3 := [(0, .ref (zA Z (6) (0) (0)))]) rfl rfl ?_
  refine j_iconst X dX5_bestPolicy_0 rfl (v := -1) (by decide) ?_
  refine j_istore_n X dX5_bestPolicy_1 rfl rfl (by decide) (Ls2 := [(1, .int (-1)), (0, .ref (zA Z (6) (0) (0)))]) rfl ?_
  refine j_iconst X dX5_bestPolicy_2 rfl (v := 0) (by decide) ?_
  refine j_istore_n X dX5_bestPolicy_3 rfl rfl (by decide) (Ls2 := [(2, .int (0)), (1, .int (-1)), (0, .ref (zA Z (6) (0) (0)))]) rfl ?_
  refine j_iconst X dX5_bestPolicy_4 rfl (v := 0) (by decide) ?_
  refine j_istore_n X dX5_bestPolicy_5 rfl rfl (by decide) (Ls2 := [(3, .int (0)), (2, .int (0)), (1, .int (-1)), (0, .ref (zA Z (6) (0) (0)))]) rfl ?_
  refine j_sub [0, 3, 2, 1] (Ls2 := [(3, .int (0)), (0, .ref (zA Z (6) (0) (0))), (1, .int (-1)), (2, .int (0))]) rfl ?_
  refine L_pbp l Z h  X 3 0 S ((-1)) ((0)) (by omega) (by intro i hi; have := hok i hi; rw [Nat.zero_add]; exact this) ?_
  refine j_name (fun S1 eS1 => ?_)
  refine j_iload_n X dX5_bestPolicy_53 rfl rfl (q := 0) rfl ?_
  have eB : lp (pBesF) 3 0 (S, -1, 0) = pBest S := by rw [pBest]
  exact j_ret (by rw [eB]) (by rw [eS1, eB]) rfl (K _ _ dX5_bestPolicy_54)

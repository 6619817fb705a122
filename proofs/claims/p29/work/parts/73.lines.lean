/-! the law's method lines: what it counts of a line, of the cores -/
def lnF (S : St) (l k : Nat) (q : Int32 × Int32 × Int32 × Int32 × Int32 × Int32) : Int32 × Int32 × Int32 × Int32 × Int32 × Int32 :=
  (q.1 + bI (decide (S 0 k 1 l = 2)), q.2.1 + bI (decide (S 0 k 1 l = 1)), q.2.2.1 + bI (rHas (S 0 k 0 10) (nI l)), q.2.2.2.1 + bI (rHas (S 0 k 0 9) (nI l) && !rHas (S 0 k 0 10) (nI l)), (if (decide (S 0 k 1 l = 2) && !rHas (S 0 k 0 10) (nI l)) = true then pCached S k l else q.2.2.2.2.1), bI (!decide (q.2.2.2.2.2 = 0) && ((!decide (S 0 k 1 l = 1) || decide (pCached S k l = S 0 4 2 l)) && ((!decide (S 0 k 1 l = 0) || decide (pCached S k l = 0)) && (!rHas (S 0 k 0 10) (nI l) || decide (S 0 k 1 l = 2))))))
abbrev lnQ (S : St) (n l : Nat) : Int32 × Int32 × Int32 × Int32 × Int32 × Int32 := lp (lnF S l) n 0 (0, 0, 0, 0, S 0 4 2 l, 1)
def lnC (S : St) (n l : Nat) : Prop := ¬ (lnQ S n l).2.2.2.2.2 = 0 ∧ ¬ 1 < (lnQ S n l).1 ∧ ((lnQ S n l).1 = 1 → ¬ 0 < (lnQ S n l).2.1) ∧ ¬ 1 < (lnQ S n l).2.2.1 ∧ ((lnQ S n l).2.2.1 = 1 → ¬ 0 < (lnQ S n l).2.2.2.1) ∧ pCom S 0 l = (lnQ S n l).2.2.2.2.1
def coF (S : St) (k : Nat) (q : Int32 × Int32 × Int32) : Int32 × Int32 × Int32 := (q.1 + S 0 k 0 14, q.2.1 + S 0 k 0 13, q.2.2 + bI (decide (S 0 k 0 3 = S 0 k 3 2)))
abbrev coQ (S : St) (n : Nat) : Int32 × Int32 × Int32 := lp (coF S) n 0 (0, 0, 0)
def coC (S : St) (k : Nat) : Prop := ((!decide (S 0 k 0 5 < 0)) = false → S 0 k 0 10 + S 0 k 0 9 = 0) ∧ kz 8 (S 0 k 0 10) = true ∧ ¬ pMFact S 0 2 < kern 8 (S 0 k 0 10) 0 ∧ ¬ pMFact S 0 4 ≤ S 0 k 0 5 ∧ S 0 k 0 3 ≤ S 0 k 3 2
set_option maxRecDepth 100000 in
set_option maxHeartbeats 4000000 in
theorem L_lnI (l : Launch) (Z : wZ) (h : Hl) (S : St) (l1 : Nat) (hl1 : l1 < 8) (nn : Nat) (hn : S 0 4 0 4 = nI nn) (hn4 : nn ≤ 4) {p : Program} {e : Env} {s : State} {mi : MethodId} {args : Array Value} {below : List Frame} {meth : Method} {c : Code} {A0 : Nat → Prop} {Q : State → Prop} (X : JX p s mi args meth c cL_lines 12 RL Z A0) (hSt : hStr s) (hZ : hZq A0 s s.heap) : ∀ (n k : Nat) (b1 : Int32) (b2 : Int32) (b3 : Int32) (b4 : Int32) (b5 : Int32) (b6 : Int32), k + n = nn → J p l e { frames := 6, cells := 2, slots := 16, locals := 137 } s mi args below meth c 12 Z A0 0 0 Q (S) h [(0, .ref (zA Z (6) (0) (0))), (1, .int (nI (nn))), (2, .int (nI (l1))), (3, .int ((lp (lnF S l1) n k (b1, b2, b3, b4, b5, b6)).1)), (4, .int ((lp (lnF S l1) n k (b1, b2, b3, b4, b5, b6)).2.1)), (5, .int ((lp (lnF S l1) n k (b1, b2, b3, b4, b5, b6)).2.2.1)), (6, .int ((lp (lnF S l1) n k (b1, b2, b3, b4, b5, b6)).2.2.2.1)), (7, .int ((lp (lnF S l1) n k (b1, b2, b3, b4, b5, b6)).2.2.2.2.1)), (8, .int ((lp (lnF S l1) n k (b1, b2, b3, b4, b5, b6)).2.2.2.2.2))] 242 [] → J p l e { frames := 6, cells := 2, slots := 16, locals := 137 } s mi args below meth c 12 Z A0 0 0 Q S h [(9, .int (nI (k))), (0, .ref (zA Z (6) (0) (0))), (1, .int (nI (nn))), (2, .int (nI (l1))), (3, .int (b1)), (4, .int (b2)), (5, .int (b3)), (6, .int (b4)), (7, .int (b5)), (8, .int (b6))] 39 [] := by
  intro n
  induction n with
  | zero =>
    intro k b1 b2 b3 b4 b5 b6 hkn hk
    have hkN : nn = k := by omega
    subst hkN
    refine j_iload X dL_lines_39 rfl (q := 0) rfl ?_
    refine j_iload_n X dL_lines_41 rfl rfl (q := 2) rfl ?_
    refine j_icmp_ge_t X (tgt := 242) dL_lines_42 (by decide) (nI_le (Nat.le_refl _) (by omega)) ?_
    refine j_sub [1, 2, 3, 4, 5, 6, 7, 8, 9] (Ls2 := [(0, .ref (zA Z (6) (0) (0))), (1, .int (nI (nn))), (2, .int (nI (l1))), (3, .int (b1)), (4, .int (b2)), (5, .int (b3)), (6, .int (b4)), (7, .int (b5)), (8, .int (b6))]) rfl ?_
    exact hk
  | succ n ih =>
    intro k b1 b2 b3 b4 b5 b6 hkn hk
    have hlt : k < nn := by omega
    refine j_iload X dL_lines_39 rfl (q := 0) rfl ?_
    refine j_iload_n X dL_lines_41 rfl rfl (q := 2) rfl ?_
    refine j_icmp_ge_f X dL_lines_42 rfl (tgt := 242) (by decide) (nI_ge hlt (by omega)) ?_
    refine j_aload_n X dL_lines_45 rfl rfl (q := 1) rfl ?_
    refine j_iload X dL_lines_46 rfl (q := 0) rfl ?_
    refine j_iload_n X dL_lines_48 rfl rfl (q := 3) rfl ?_
    refine j_callQW X hSt hZ (w_state l Z S S h (nI (k)) (nI (l1)) _ (c_X5_state l Z S h k (by omega) (pHasC_n hn hn4 hlt) l1 hl1)) lk_RL_102 mt_L_state ini_RL mc_L_state md_L_state ⟨Nat.le_of_ble_eq_true rfl, Nat.le_of_ble_eq_true rfl⟩ ⟨Nat.le_of_ble_eq_true rfl, Nat.le_of_ble_eq_true rfl⟩ rfl (Nat.le_of_ble_eq_true rfl) (as := [.ref (zA Z (6) (0) (0)), .int (nI (k)), .int (nI (l1))]) (rest := []) rfl dL_lines_49 rfl ?_
    refine j_istore X dL_lines_52 rfl (by decide) (Ls2 := [(10, .int (S 0 k 1 l1)), (9, .int (nI (k))), (0, .ref (zA Z (6) (0) (0))), (1, .int (nI (nn))), (2, .int (nI (l1))), (3, .int (b1)), (4, .int (b2)), (5, .int (b3)), (6, .int (b4)), (7, .int (b5)), (8, .int (b6))]) rfl ?_
    refine (show (J p l e { frames := 6, cells := 2, slots := 16, locals := 137 } s mi args below meth c 12 Z A0 0 0 Q S h [(11, .int (bI (rHas (S 0 k 0 10) (nI l1)))), (10, .int (S 0 k 1 l1)), (9, .int (nI (k))), (0, .ref (zA Z (6) (0) (0))), (1, .int (nI (nn))), (2, .int (nI (l1))), (3, .int (b1)), (4, .int (b2)), (5, .int (b3)), (6, .int (b4)), (7, .int (b5)), (8, .int (b6))] 76 []) → _ from fun kcut => ?_) ?_
    · refine j_aload_n X dL_lines_54 rfl rfl (q := 2) rfl ?_
      refine j_iload X dL_lines_55 rfl (q := 1) rfl ?_
      refine j_iconst X dL_lines_57 rfl (v := 1) (by decide) ?_
      refine j_callQW X hSt hZ (w_set l Z S S h (nI (k)) true _ (c_X5_set l Z S h k (by omega) (pHasC_n hn hn4 hlt) true)) lk_RL_105 mt_L_set ini_RL mc_L_set md_L_set ⟨Nat.le_of_ble_eq_true rfl, Nat.le_of_ble_eq_true rfl⟩ ⟨Nat.le_of_ble_eq_true rfl, Nat.le_of_ble_eq_true rfl⟩ rfl (Nat.le_of_ble_eq_true rfl) (as := [.ref (zA Z (6) (0) (0)), .int (nI (k)), .int (1)]) (rest := []) rfl dL_lines_58 rfl ?_
      refine j_topeq (y := (S 0 k 0 10)) (if_pos rfl) ?_
      refine j_iload_n X dL_lines_61 rfl rfl (q := 4) rfl ?_
      refine j_ishr X dL_lines_62 rfl ?_
      refine j_iconst X dL_lines_63 rfl (v := 1) (by decide) ?_
      refine j_iand X dL_lines_64 rfl ?_
      refine j_iconst X dL_lines_65 rfl (v := 1) (by decide) ?_
      refine j_icmp_ne X dL_lines_66 rfl (tgt := 73) (by decide) (fun c_66 => ?_) (fun c_66 => ?_)
      · refine j_iconst X dL_lines_73 rfl (v := 0) (by decide) ?_
        refine j_istore X dL_lines_74 rfl (by decide) (Ls2 := [(11, .int (0)), (10, .int (S 0 k 1 l1)), (9, .int (nI (k))), (0, .ref (zA Z (6) (0) (0))), (1, .int (nI (nn))), (2, .int (nI (l1))), (3, .int (b1)), (4, .int (b2)), (5, .int (b3)), (6, .int (b4)), (7, .int (b5)), (8, .int (b6))]) rfl ?_
        rw [show (bI (rHas (S 0 k 0 10) (nI l1))) = (0) by first | (simp [bI, rHas_f c_66]; done) | (exfalso; simp_all; done)] at kcut
        exact kcut
      · refine j_iconst X dL_lines_69 rfl (v := 1) (by decide) ?_
        refine j_goto X (tgt := 74) dL_lines_70 (by decide) ?_
        refine j_istore X dL_lines_74 rfl (by decide) (Ls2 := [(11, .int (1)), (10, .int (S 0 k 1 l1)), (9, .int (nI (k))), (0, .ref (zA Z (6) (0) (0))), (1, .int (nI (nn))), (2, .int (nI (l1))), (3, .int (b1)), (4, .int (b2)), (5, .int (b3)), (6, .int (b4)), (7, .int (b5)), (8, .int (b6))]) rfl ?_
        rw [show (bI (rHas (S 0 k 0 10) (nI l1))) = (1) by first | (simp [bI, rHas_t c_66]; done) | (exfalso; simp_all; done)] at kcut
        exact kcut
    refine (show (J p l e { frames := 6, cells := 2, slots := 16, locals := 137 } s mi args below meth c 12 Z A0 0 0 Q S h [(3, .int ((b1) + bI (decide (S 0 k 1 l1 = 2)))), (11, .int (bI (rHas (S 0 k 0 10) (nI l1)))), (10, .int (S 0 k 1 l1)), (9, .int (nI (k))), (0, .ref (zA Z (6) (0) (0))), (1, .int (nI (nn))), (2, .int (nI (l1))), (4, .int (b2)), (5, .int (b3)), (6, .int (b4)), (7, .int (b5)), (8, .int (b6))] 90 []) → _ from fun kcut => ?_) ?_
    · refine j_iload_n X dL_lines_76 rfl rfl (q := 6) rfl ?_
      refine j_iload X dL_lines_77 rfl (q := 1) rfl ?_
      refine j_iconst X dL_lines_79 rfl (v := 2) (by decide) ?_
      refine j_icmp_ne X dL_lines_80 rfl (tgt := 87) (by decide) (fun c_80 => ?_) (fun c_80 => ?_)
      · refine j_iconst X dL_lines_87 rfl (v := 0) (by decide) ?_
        refine j_iadd X dL_lines_88 rfl ?_
        refine j_istore_n X dL_lines_89 rfl rfl (by decide) (Ls2 := [(3, .int ((b1) + (0))), (11, .int (bI (rHas (S 0 k 0 10) (nI l1)))), (10, .int (S 0 k 1 l1)), (9, .int (nI (k))), (0, .ref (zA Z (6) (0) (0))), (1, .int (nI (nn))), (2, .int (nI (l1))), (4, .int (b2)), (5, .int (b3)), (6, .int (b4)), (7, .int (b5)), (8, .int (b6))]) rfl ?_
        rw [show ((b1) + bI (decide (S 0 k 1 l1 = 2))) = ((b1) + (0)) by first | (simp [bI, c_80]; done) | (exfalso; simp_all; done)] at kcut
        exact kcut
      · refine j_iconst X dL_lines_83 rfl (v := 1) (by decide) ?_
        refine j_goto X (tgt := 88) dL_lines_84 (by decide) ?_
        refine j_iadd X dL_lines_88 rfl ?_
        refine j_istore_n X dL_lines_89 rfl rfl (by decide) (Ls2 := [(3, .int ((b1) + (1))), (11, .int (bI (rHas (S 0 k 0 10) (nI l1)))), (10, .int (S 0 k 1 l1)), (9, .int (nI (k))), (0, .ref (zA Z (6) (0) (0))), (1, .int (nI (nn))), (2, .int (nI (l1))), (4, .int (b2)), (5, .int (b3)), (6, .int (b4)), (7, .int (b5)), (8, .int (b6))]) rfl ?_
        rw [show ((b1) + bI (decide (S 0 k 1 l1 = 2))) = ((b1) + (1)) by first | (simp [bI, c_80]; done) | (exfalso; simp_all; done)] at kcut
        exact kcut
    refine (show (J p l e { frames := 6, cells := 2, slots := 16, locals := 137 } s mi args below meth c 12 Z A0 0 0 Q S h [(4, .int ((b2) + bI (decide (S 0 k 1 l1 = 1)))), (3, .int ((b1) + bI (decide (S 0 k 1 l1 = 2)))), (11, .int (bI (rHas (S 0 k 0 10) (nI l1)))), (10, .int (S 0 k 1 l1)), (9, .int (nI (k))), (0, .ref (zA Z (6) (0) (0))), (1, .int (nI (nn))), (2, .int (nI (l1))), (5, .int (b3)), (6, .int (b4)), (7, .int (b5)), (8, .int (b6))] 106 []) → _ from fun kcut => ?_) ?_
    · refine j_iload X dL_lines_90 rfl (q := 7) rfl ?_
      refine j_iload X dL_lines_92 rfl (q := 2) rfl ?_
      refine j_iconst X dL_lines_94 rfl (v := 1) (by decide) ?_
      refine j_icmp_ne X dL_lines_95 rfl (tgt := 102) (by decide) (fun c_95 => ?_) (fun c_95 => ?_)
      · refine j_iconst X dL_lines_102 rfl (v := 0) (by decide) ?_
        refine j_iadd X dL_lines_103 rfl ?_
        refine j_istore X dL_lines_104 rfl (by decide) (Ls2 := [(4, .int ((b2) + (0))), (3, .int ((b1) + bI (decide (S 0 k 1 l1 = 2)))), (11, .int (bI (rHas (S 0 k 0 10) (nI l1)))), (10, .int (S 0 k 1 l1)), (9, .int (nI (k))), (0, .ref (zA Z (6) (0) (0))), (1, .int (nI (nn))), (2, .int (nI (l1))), (5, .int (b3)), (6, .int (b4)), (7, .int (b5)), (8, .int (b6))]) rfl ?_
        rw [show ((b2) + bI (decide (S 0 k 1 l1 = 1))) = ((b2) + (0)) by first | (simp [bI, c_95]; done) | (exfalso; simp_all; done)] at kcut
        exact kcut
      · refine j_iconst X dL_lines_98 rfl (v := 1) (by decide) ?_
        refine j_goto X (tgt := 103) dL_lines_99 (by decide) ?_
        refine j_iadd X dL_lines_103 rfl ?_
        refine j_istore X dL_lines_104 rfl (by decide) (Ls2 := [(4, .int ((b2) + (1))), (3, .int ((b1) + bI (decide (S 0 k 1 l1 = 2)))), (11, .int (bI (rHas (S 0 k 0 10) (nI l1)))), (10, .int (S 0 k 1 l1)), (9, .int (nI (k))), (0, .ref (zA Z (6) (0) (0))), (1, .int (nI (nn))), (2, .int (nI (l1))), (5, .int (b3)), (6, .int (b4)), (7, .int (b5)), (8, .int (b6))]) rfl ?_
        rw [show ((b2) + bI (decide (S 0 k 1 l1 = 1))) = ((b2) + (1)) by first | (simp [bI, c_95]; done) | (exfalso; simp_all; done)] at kcut
        exact kcut
    refine (show (J p l e { frames := 6, cells := 2, slots := 16, locals := 137 } s mi args below meth c 12 Z A0 0 0 Q S h [(5, .int ((b3) + bI (rHas (S 0 k 0 10) (nI l1)))), (4, .int ((b2) + bI (decide (S 0 k 1 l1 = 1)))), (3, .int ((b1) + bI (decide (S 0 k 1 l1 = 2)))), (11, .int (bI (rHas (S 0 k 0 10) (nI l1)))), (10, .int (S 0 k 1 l1)), (9, .int (nI (k))), (0, .ref (zA Z (6) (0) (0))), (1, .int (nI (nn))), (2, .int (nI (l1))), (6, .int (b4)), (7, .int (b5)), (8, .int (b6))] 121 []) → _ from fun kcut => ?_) ?_
    · refine j_iload X dL_lines_106 rfl (q := 8) rfl ?_
      refine j_iload X dL_lines_108 rfl (q := 2) rfl ?_
      refine j_ifb_eq X dL_lines_110 rfl (tgt := 117) (by decide) (fun c_110 => ?_) (fun c_110 => ?_)
      · refine j_iconst X dL_lines_117 rfl (v := 0) (by decide) ?_
        refine j_iadd X dL_lines_118 rfl ?_
        refine j_istore X dL_lines_119 rfl (by decide) (Ls2 := [(5, .int ((b3) + (0))), (4, .int ((b2) + bI (decide (S 0 k 1 l1 = 1)))), (3, .int ((b1) + bI (decide (S 0 k 1 l1 = 2)))), (11, .int (bI (rHas (S 0 k 0 10) (nI l1)))), (10, .int (S 0 k 1 l1)), (9, .int (nI (k))), (0, .ref (zA Z (6) (0) (0))), (1, .int (nI (nn))), (2, .int (nI (l1))), (6, .int (b4)), (7, .int (b5)), (8, .int (b6))]) rfl ?_
        rw [show ((b3) + bI (rHas (S 0 k 0 10) (nI l1))) = ((b3) + (0)) by first | (simp [bI, c_110]; done) | (exfalso; simp_all; done)] at kcut
        exact kcut
      · refine j_iconst X dL_lines_113 rfl (v := 1) (by decide) ?_
        refine j_goto X (tgt := 118) dL_lines_114 (by decide) ?_
        refine j_iadd X dL_lines_118 rfl ?_
        refine j_istore X dL_lines_119 rfl (by decide) (Ls2 := [(5, .int ((b3) + (1))), (4, .int ((b2) + bI (decide (S 0 k 1 l1 = 1)))), (3, .int ((b1) + bI (decide (S 0 k 1 l1 = 2)))), (11, .int (bI (rHas (S 0 k 0 10) (nI l1)))), (10, .int (S 0 k 1 l1)), (9, .int (nI (k))), (0, .ref (zA Z (6) (0) (0))), (1, .int (nI (nn))), (2, .int (nI (l1))), (6, .int (b4)), (7, .int (b5)), (8, .int (b6))]) rfl ?_
        rw [show ((b3) + bI (rHas (S 0 k 0 10) (nI l1))) = ((b3) + (1)) by first | (simp [bI, c_110]; done) | (exfalso; simp_all; done)] at kcut
        exact kcut
    refine (show (J p l e { frames := 6, cells := 2, slots := 16, locals := 137 } s mi args below meth c 12 Z A0 0 0 Q S h [(6, .int ((b4) + bI (rHas (S 0 k 0 9) (nI l1) && !rHas (S 0 k 0 10) (nI l1)))), (5, .int ((b3) + bI (rHas (S 0 k 0 10) (nI l1)))), (4, .int ((b2) + bI (decide (S 0 k 1 l1 = 1)))), (3, .int ((b1) + bI (decide (S 0 k 1 l1 = 2)))), (11, .int (bI (rHas (S 0 k 0 10) (nI l1)))), (10, .int (S 0 k 1 l1)), (9, .int (nI (k))), (0, .ref (zA Z (6) (0) (0))), (1, .int (nI (nn))), (2, .int (nI (l1))), (7, .int (b5)), (8, .int (b6))] 151 []) → _ from fun kcut => ?_) ?_
    · refine j_iload X dL_lines_121 rfl (q := 9) rfl ?_
      refine j_aload_n X dL_lines_123 rfl rfl (q := 6) rfl ?_
      refine j_iload X dL_lines_124 rfl (q := 5) rfl ?_
      refine j_iconst X dL_lines_126 rfl (v := 0) (by decide) ?_
      refine j_callQW X hSt hZ (w_set l Z S S h (nI (k)) false _ (c_X5_set l Z S h k (by omega) (pHasC_n hn hn4 hlt) false)) lk_RL_105 mt_L_set ini_RL mc_L_set md_L_set ⟨Nat.le_of_ble_eq_true rfl, Nat.le_of_ble_eq_true rfl⟩ ⟨Nat.le_of_ble_eq_true rfl, Nat.le_of_ble_eq_true rfl⟩ rfl (Nat.le_of_ble_eq_true rfl) (as := [.ref (zA Z (6) (0) (0)), .int (nI (k)), .int (0)]) (rest := [.int (b4)]) rfl dL_lines_127 rfl ?_
      refine j_topeq (y := (S 0 k 0 9)) (if_neg Bool.false_ne_true) ?_
      refine j_iload_n X dL_lines_130 rfl rfl (q := 8) rfl ?_
      refine j_ishr X dL_lines_131 rfl ?_
      refine j_iconst X dL_lines_132 rfl (v := 1) (by decide) ?_
      refine j_iand X dL_lines_133 rfl ?_
      refine j_iconst X dL_lines_134 rfl (v := 1) (by decide) ?_
      refine j_icmp_ne X dL_lines_135 rfl (tgt := 147) (by decide) (fun c_135 => ?_) (fun c_135 => ?_)
      · refine j_iconst X dL_lines_147 rfl (v := 0) (by decide) ?_
        refine j_iadd X dL_lines_148 rfl ?_
        refine j_istore X dL_lines_149 rfl (by decide) (Ls2 := [(6, .int ((b4) + (0))), (5, .int ((b3) + bI (rHas (S 0 k 0 10) (nI l1)))), (4, .int ((b2) + bI (decide (S 0 k 1 l1 = 1)))), (3, .int ((b1) + bI (decide (S 0 k 1 l1 = 2)))), (11, .int (bI (rHas (S 0 k 0 10) (nI l1)))), (10, .int (S 0 k 1 l1)), (9, .int (nI (k))), (0, .ref (zA Z (6) (0) (0))), (1, .int (nI (nn))), (2, .int (nI (l1))), (7, .int (b5)), (8, .int (b6))]) rfl ?_
        rw [show ((b4) + bI (rHas (S 0 k 0 9) (nI l1) && !rHas (S 0 k 0 10) (nI l1))) = ((b4) + (0)) by first | (simp [bI, rHas_f c_135]; done) | (exfalso; simp_all; done)] at kcut
        exact kcut
      · refine j_iload X dL_lines_138 rfl (q := 3) rfl ?_
        refine j_ifb_ne X dL_lines_140 rfl (tgt := 147) (by decide) (fun c_140 => ?_) (fun c_140 => ?_)
        · refine j_iconst X dL_lines_147 rfl (v := 0) (by decide) ?_
          refine j_iadd X dL_lines_148 rfl ?_
          refine j_istore X dL_lines_149 rfl (by decide) (Ls2 := [(6, .int ((b4) + (0))), (5, .int ((b3) + bI (rHas (S 0 k 0 10) (nI l1)))), (4, .int ((b2) + bI (decide (S 0 k 1 l1 = 1)))), (3, .int ((b1) + bI (decide (S 0 k 1 l1 = 2)))), (11, .int (bI (rHas (S 0 k 0 10) (nI l1)))), (10, .int (S 0 k 1 l1)), (9, .int (nI (k))), (0, .ref (zA Z (6) (0) (0))), (1, .int (nI (nn))), (2, .int (nI (l1))), (7, .int (b5)), (8, .int (b6))]) rfl ?_
          rw [show ((b4) + bI (rHas (S 0 k 0 9) (nI l1) && !rHas (S 0 k 0 10) (nI l1))) = ((b4) + (0)) by first | (simp [bI, rHas_t c_135, c_140]; done) | (exfalso; simp_all; done)] at kcut
          exact kcut
        · refine j_iconst X dL_lines_143 rfl (v := 1) (by decide) ?_
          refine j_goto X (tgt := 148) dL_lines_144 (by decide) ?_
          refine j_iadd X dL_lines_148 rfl ?_
          refine j_istore X dL_lines_149 rfl (by decide) (Ls2 := [(6, .int ((b4) + (1))), (5, .int ((b3) + bI (rHas (S 0 k 0 10) (nI l1)))), (4, .int ((b2) + bI (decide (S 0 k 1 l1 = 1)))), (3, .int ((b1) + bI (decide (S 0 k 1 l1 = 2)))), (11, .int (bI (rHas (S 0 k 0 10) (nI l1)))), (10, .int (S 0 k 1 l1)), (9, .int (nI (k))), (0, .ref (zA Z (6) (0) (0))), (1, .int (nI (nn))), (2, .int (nI (l1))), (7, .int (b5)), (8, .int (b6))]) rfl ?_
          rw [show ((b4) + bI (rHas (S 0 k 0 9) (nI l1) && !rHas (S 0 k 0 10) (nI l1))) = ((b4) + (1)) by first | (simp [bI, rHas_t c_135, c_140]; done) | (exfalso; simp_all; done)] at kcut
          exact kcut
    refine (show (J p l e { frames := 6, cells := 2, slots := 16, locals := 137 } s mi args below meth c 12 Z A0 0 0 Q S h [(8, .int (bI (!decide ((b6) = 0) && ((!decide (S 0 k 1 l1 = 1) || decide (pCached S k l1 = S 0 4 2 l1)) && ((!decide (S 0 k 1 l1 = 0) || decide (pCached S k l1 = 0)) && (!rHas (S 0 k 0 10) (nI l1) || decide (S 0 k 1 l1 = 2))))))), (6, .int ((b4) + bI (rHas (S 0 k 0 9) (nI l1) && !rHas (S 0 k 0 10) (nI l1)))), (5, .int ((b3) + bI (rHas (S 0 k 0 10) (nI l1)))), (4, .int ((b2) + bI (decide (S 0 k 1 l1 = 1)))), (3, .int ((b1) + bI (decide (S 0 k 1 l1 = 2)))), (11, .int (bI (rHas (S 0 k 0 10) (nI l1)))), (10, .int (S 0 k 1 l1)), (9, .int (nI (k))), (0, .ref (zA Z (6) (0) (0))), (1, .int (nI (nn))), (2, .int (nI (l1))), (7, .int (b5))] 211 []) → _ from fun kcut => ?_) ?_
    · refine j_iload X dL_lines_151 rfl (q := 11) rfl ?_
      refine j_if_eq X dL_lines_153 rfl (tgt := 208) (by decide) (fun c_153 => ?_) (fun c_153 => ?_)
      · refine j_iconst X dL_lines_208 rfl (v := 0) (by decide) ?_
        refine j_istore X dL_lines_209 rfl (by decide) (Ls2 := [(8, .int (0)), (6, .int ((b4) + bI (rHas (S 0 k 0 9) (nI l1) && !rHas (S 0 k 0 10) (nI l1)))), (5, .int ((b3) + bI (rHas (S 0 k 0 10) (nI l1)))), (4, .int ((b2) + bI (decide (S 0 k 1 l1 = 1)))), (3, .int ((b1) + bI (decide (S 0 k 1 l1 = 2)))), (11, .int (bI (rHas (S 0 k 0 10) (nI l1)))), (10, .int (S 0 k 1 l1)), (9, .int (nI (k))), (0, .ref (zA Z (6) (0) (0))), (1, .int (nI (nn))), (2, .int (nI (l1))), (7, .int (b5))]) rfl ?_
        rw [show (bI (!decide ((b6) = 0) && ((!decide (S 0 k 1 l1 = 1) || decide (pCached S k l1 = S 0 4 2 l1)) && ((!decide (S 0 k 1 l1 = 0) || decide (pCached S k l1 = 0)) && (!rHas (S 0 k 0 10) (nI l1) || decide (S 0 k 1 l1 = 2)))))) = (0) by first | (simp [bI, c_153]; done) | (exfalso; simp_all; done)] at kcut
        exact kcut
      · refine j_iload X dL_lines_156 rfl (q := 5) rfl ?_
        refine j_iconst X dL_lines_158 rfl (v := 1) (by decide) ?_
        refine j_icmp_ne X dL_lines_159 rfl (tgt := 178) (by decide) (fun c_159 => ?_) (fun c_159 => ?_)
        · refine j_iload X dL_lines_178 rfl (q := 5) rfl ?_
          refine j_if_ne X dL_lines_180 rfl (tgt := 193) (by decide) (fun c_180 => ?_) (fun c_180 => ?_)
          · refine j_iload X dL_lines_193 rfl (q := 4) rfl ?_
            refine j_ifb_eq X dL_lines_195 rfl (tgt := 204) (by decide) (fun c_195 => ?_) (fun c_195 => ?_)
            · refine j_iconst X dL_lines_204 rfl (v := 1) (by decide) ?_
              refine j_goto X (tgt := 209) dL_lines_205 (by decide) ?_
              refine j_istore X dL_lines_209 rfl (by decide) (Ls2 := [(8, .int (1)), (6, .int ((b4) + bI (rHas (S 0 k 0 9) (nI l1) && !rHas (S 0 k 0 10) (nI l1)))), (5, .int ((b3) + bI (rHas (S 0 k 0 10) (nI l1)))), (4, .int ((b2) + bI (decide (S 0 k 1 l1 = 1)))), (3, .int ((b1) + bI (decide (S 0 k 1 l1 = 2)))), (11, .int (bI (rHas (S 0 k 0 10) (nI l1)))), (10, .int (S 0 k 1 l1)), (9, .int (nI (k))), (0, .ref (zA Z (6) (0) (0))), (1, .int (nI (nn))), (2, .int (nI (l1))), (7, .int (b5))]) rfl ?_
              rw [show (bI (!decide ((b6) = 0) && ((!decide (S 0 k 1 l1 = 1) || decide (pCached S k l1 = S 0 4 2 l1)) && ((!decide (S 0 k 1 l1 = 0) || decide (pCached S k l1 = 0)) && (!rHas (S 0 k 0 10) (nI l1) || decide (S 0 k 1 l1 = 2)))))) = (1) by first | (simp [bI, c_153, c_159, c_180, c_195]; done) | (exfalso; simp_all; done)] at kcut
              exact kcut
            · refine j_iload X dL_lines_198 rfl (q := 5) rfl ?_
              refine j_iconst X dL_lines_200 rfl (v := 2) (by decide) ?_
              refine j_icmp_ne X dL_lines_201 rfl (tgt := 208) (by decide) (fun c_201 => ?_) (fun c_201 => ?_)
              · refine j_iconst X dL_lines_208 rfl (v := 0) (by decide) ?_
                refine j_istore X dL_lines_209 rfl (by decide) (Ls2 := [(8, .int (0)), (6, .int ((b4) + bI (rHas (S 0 k 0 9) (nI l1) && !rHas (S 0 k 0 10) (nI l1)))), (5, .int ((b3) + bI (rHas (S 0 k 0 10) (nI l1)))), (4, .int ((b2) + bI (decide (S 0 k 1 l1 = 1)))), (3, .int ((b1) + bI (decide (S 0 k 1 l1 = 2)))), (11, .int (bI (rHas (S 0 k 0 10) (nI l1)))), (10, .int (S 0 k 1 l1)), (9, .int (nI (k))), (0, .ref (zA Z (6) (0) (0))), (1, .int (nI (nn))), (2, .int (nI (l1))), (7, .int (b5))]) rfl ?_
                rw [show (bI (!decide ((b6) = 0) && ((!decide (S 0 k 1 l1 = 1) || decide (pCached S k l1 = S 0 4 2 l1)) && ((!decide (S 0 k 1 l1 = 0) || decide (pCached S k l1 = 0)) && (!rHas (S 0 k 0 10) (nI l1) || decide (S 0 k 1 l1 = 2)))))) = (0) by first | (simp [bI, c_153, c_159, c_180, c_195, c_201]; done) | (exfalso; simp_all; done)] at kcut
                exact kcut
              · refine j_iconst X dL_lines_204 rfl (v := 1) (by decide) ?_
                refine j_goto X (tgt := 209) dL_lines_205 (by decide) ?_
                refine j_istore X dL_lines_209 rfl (by decide) (Ls2 := [(8, .int (1)), (6, .int ((b4) + bI (rHas (S 0 k 0 9) (nI l1) && !rHas (S 0 k 0 10) (nI l1)))), (5, .int ((b3) + bI (rHas (S 0 k 0 10) (nI l1)))), (4, .int ((b2) + bI (decide (S 0 k 1 l1 = 1)))), (3, .int ((b1) + bI (decide (S 0 k 1 l1 = 2)))), (11, .int (bI (rHas (S 0 k 0 10) (nI l1)))), (10, .int (S 0 k 1 l1)), (9, .int (nI (k))), (0, .ref (zA Z (6) (0) (0))), (1, .int (nI (nn))), (2, .int (nI (l1))), (7, .int (b5))]) rfl ?_
                rw [show (bI (!decide ((b6) = 0) && ((!decide (S 0 k 1 l1 = 1) || decide (pCached S k l1 = S 0 4 2 l1)) && ((!decide (S 0 k 1 l1 = 0) || decide (pCached S k l1 = 0)) && (!rHas (S 0 k 0 10) (nI l1) || decide (S 0 k 1 l1 = 2)))))) = (1) by first | (simp [bI, c_153, c_159, c_180, c_195, c_201]; done) | (exfalso; simp_all; done)] at kcut
                exact kcut
          · refine j_aload_n X dL_lines_183 rfl rfl (q := 7) rfl ?_
            refine j_iload X dL_lines_184 rfl (q := 6) rfl ?_
            refine j_iload_n X dL_lines_186 rfl rfl (q := 9) rfl ?_
            refine j_callQW X hSt hZ (w_cached l Z S S h (nI (k)) (nI (l1)) _ (c_X5_cached l Z S h k (by omega) (pHasC_n hn hn4 hlt) l1 hl1)) lk_RL_107 mt_L_cached ini_RL mc_L_cached md_L_cached ⟨Nat.le_of_ble_eq_true rfl, Nat.le_of_ble_eq_true rfl⟩ ⟨Nat.le_of_ble_eq_true rfl, Nat.le_of_ble_eq_true rfl⟩ rfl (Nat.le_of_ble_eq_true rfl) (as := [.ref (zA Z (6) (0) (0)), .int (nI (k)), .int (nI (l1))]) (rest := []) rfl dL_lines_187 rfl ?_
            refine j_if_ne X dL_lines_190 rfl (tgt := 208) (by decide) (fun c_190 => ?_) (fun c_190 => ?_)
            · refine j_iconst X dL_lines_208 rfl (v := 0) (by decide) ?_
              refine j_istore X dL_lines_209 rfl (by decide) (Ls2 := [(8, .int (0)), (6, .int ((b4) + bI (rHas (S 0 k 0 9) (nI l1) && !rHas (S 0 k 0 10) (nI l1)))), (5, .int ((b3) + bI (rHas (S 0 k 0 10) (nI l1)))), (4, .int ((b2) + bI (decide (S 0 k 1 l1 = 1)))), (3, .int ((b1) + bI (decide (S 0 k 1 l1 = 2)))), (11, .int (bI (rHas (S 0 k 0 10) (nI l1)))), (10, .int (S 0 k 1 l1)), (9, .int (nI (k))), (0, .ref (zA Z (6) (0) (0))), (1, .int (nI (nn))), (2, .int (nI (l1))), (7, .int (b5))]) rfl ?_
              rw [show (bI (!decide ((b6) = 0) && ((!decide (S 0 k 1 l1 = 1) || decide (pCached S k l1 = S 0 4 2 l1)) && ((!decide (S 0 k 1 l1 = 0) || decide (pCached S k l1 = 0)) && (!rHas (S 0 k 0 10) (nI l1) || decide (S 0 k 1 l1 = 2)))))) = (0) by first | (simp [bI, c_153, c_159, c_180, c_190]; done) | (exfalso; simp_all; done)] at kcut
              exact kcut
            · refine j_iload X dL_lines_193 rfl (q := 4) rfl ?_
              refine j_ifb_eq X dL_lines_195 rfl (tgt := 204) (by decide) (fun c_195_1 => ?_) (fun c_195_1 => ?_)
              · refine j_iconst X dL_lines_204 rfl (v := 1) (by decide) ?_
                refine j_goto X (tgt := 209) dL_lines_205 (by decide) ?_
                refine j_istore X dL_lines_209 rfl (by decide) (Ls2 := [(8, .int (1)), (6, .int ((b4) + bI (rHas (S 0 k 0 9) (nI l1) && !rHas (S 0 k 0 10) (nI l1)))), (5, .int ((b3) + bI (rHas (S 0 k 0 10) (nI l1)))), (4, .int ((b2) + bI (decide (S 0 k 1 l1 = 1)))), (3, .int ((b1) + bI (decide (S 0 k 1 l1 = 2)))), (11, .int (bI (rHas (S 0 k 0 10) (nI l1)))), (10, .int (S 0 k 1 l1)), (9, .int (nI (k))), (0, .ref (zA Z (6) (0) (0))), (1, .int (nI (nn))), (2, .int (nI (l1))), (7, .int (b5))]) rfl ?_
                rw [show (bI (!decide ((b6) = 0) && ((!decide (S 0 k 1 l1 = 1) || decide (pCached S k l1 = S 0 4 2 l1)) && ((!decide (S 0 k 1 l1 = 0) || decide (pCached S k l1 = 0)) && (!rHas (S 0 k 0 10) (nI l1) || decide (S 0 k 1 l1 = 2)))))) = (1) by first | (simp [bI, c_153, c_159, c_180, c_190, c_195_1]; done) | (exfalso; simp_all; done)] at kcut
                exact kcut
              · refine j_iload X dL_lines_198 rfl (q := 5) rfl ?_
                refine j_iconst X dL_lines_200 rfl (v := 2) (by decide) ?_
                refine j_icmp_ne X dL_lines_201 rfl (tgt := 208) (by decide) (fun c_201_2 => ?_) (fun c_201_2 => ?_)
                · refine j_iconst X dL_lines_208 rfl (v := 0) (by decide) ?_
                  refine j_istore X dL_lines_209 rfl (by decide) (Ls2 := [(8, .int (0)), (6, .int ((b4) + bI (rHas (S 0 k 0 9) (nI l1) && !rHas (S 0 k 0 10) (nI l1)))), (5, .int ((b3) + bI (rHas (S 0 k 0 10) (nI l1)))), (4, .int ((b2) + bI (decide (S 0 k 1 l1 = 1)))), (3, .int ((b1) + bI (decide (S 0 k 1 l1 = 2)))), (11, .int (bI (rHas (S 0 k 0 10) (nI l1)))), (10, .int (S 0 k 1 l1)), (9, .int (nI (k))), (0, .ref (zA Z (6) (0) (0))), (1, .int (nI (nn))), (2, .int (nI (l1))), (7, .int (b5))]) rfl ?_
                  rw [show (bI (!decide ((b6) = 0) && ((!decide (S 0 k 1 l1 = 1) || decide (pCached S k l1 = S 0 4 2 l1)) && ((!decide (S 0 k 1 l1 = 0) || decide (pCached S k l1 = 0)) && (!rHas (S 0 k 0 10) (nI l1) || decide (S 0 k 1 l1 = 2)))))) = (0) by first | (simp [bI, c_153, c_159, c_180, c_190, c_195_1, c_201_2]; done) | (exfalso; simp_all; done)] at kcut
                  exact kcut
                · refine j_iconst X dL_lines_204 rfl (v := 1) (by decide) ?_
                  refine j_goto X (tgt := 209) dL_lines_205 (by decide) ?_
                  refine j_istore X dL_lines_209 rfl (by decide) (Ls2 := [(8, .int (1)), (6, .int ((b4) + bI (rHas (S 0 k 0 9) (nI l1) && !rHas (S 0 k 0 10) (nI l1)))), (5, .int ((b3) + bI (rHas (S 0 k 0 10) (nI l1)))), (4, .int ((b2) + bI (decide (S 0 k 1 l1 = 1)))), (3, .int ((b1) + bI (decide (S 0 k 1 l1 = 2)))), (11, .int (bI (rHas (S 0 k 0 10) (nI l1)))), (10, .int (S 0 k 1 l1)), (9, .int (nI (k))), (0, .ref (zA Z (6) (0) (0))), (1, .int (nI (nn))), (2, .int (nI (l1))), (7, .int (b5))]) rfl ?_
                  rw [show (bI (!decide ((b6) = 0) && ((!decide (S 0 k 1 l1 = 1) || decide (pCached S k l1 = S 0 4 2 l1)) && ((!decide (S 0 k 1 l1 = 0) || decide (pCached S k l1 = 0)) && (!rHas (S 0 k 0 10) (nI l1) || decide (S 0 k 1 l1 = 2)))))) = (1) by first | (simp [bI, c_153, c_159, c_180, c_190, c_195_1, c_201_2]; done) | (exfalso; simp_all; done)] at kcut
                  exact kcut
        · refine j_aload_n X dL_lines_162 rfl rfl (q := 7) rfl ?_
          refine j_iload X dL_lines_163 rfl (q := 6) rfl ?_
          refine j_iload_n X dL_lines_165 rfl rfl (q := 9) rfl ?_
          refine j_callQW X hSt hZ (w_cached l Z S S h (nI (k)) (nI (l1)) _ (c_X5_cached l Z S h k (by omega) (pHasC_n hn hn4 hlt) l1 hl1)) lk_RL_107 mt_L_cached ini_RL mc_L_cached md_L_cached ⟨Nat.le_of_ble_eq_true rfl, Nat.le_of_ble_eq_true rfl⟩ ⟨Nat.le_of_ble_eq_true rfl, Nat.le_of_ble_eq_true rfl⟩ rfl (Nat.le_of_ble_eq_true rfl) (as := [.ref (zA Z (6) (0) (0)), .int (nI (k)), .int (nI (l1))]) (rest := []) rfl dL_lines_166 rfl ?_
          refine j_aload_n X dL_lines_169 rfl rfl (q := 7) rfl ?_
          refine j_iload_n X dL_lines_170 rfl rfl (q := 9) rfl ?_
          refine j_iconst X dL_lines_171 rfl (v := 0) (by decide) ?_
          refine j_callQW X hSt hZ (w_memory l Z S S h (nI (l1)) false _ (c_X5_memory l Z S h l1 hl1 false (ccn hn hn4))) lk_RL_99 mt_L_memory ini_RL mc_L_memory md_L_memory ⟨Nat.le_of_ble_eq_true rfl, Nat.le_of_ble_eq_true rfl⟩ ⟨Nat.le_of_ble_eq_true rfl, Nat.le_of_ble_eq_true rfl⟩ rfl (Nat.le_of_ble_eq_true rfl) (as := [.ref (zA Z (6) (0) (0)), .int (nI (l1)), .int (0)]) (rest := [.int (pCached S k l1)]) rfl dL_lines_172 rfl ?_
          refine j_topeq (y := (S 0 4 2 l1)) (if_neg Bool.false_ne_true) ?_
          refine j_icmp_ne X dL_lines_175 rfl (tgt := 208) (by decide) (fun c_175 => ?_) (fun c_175 => ?_)
          · refine j_iconst X dL_lines_208 rfl (v := 0) (by decide) ?_
            refine j_istore X dL_lines_209 rfl (by decide) (Ls2 := [(8, .int (0)), (6, .int ((b4) + bI (rHas (S 0 k 0 9) (nI l1) && !rHas (S 0 k 0 10) (nI l1)))), (5, .int ((b3) + bI (rHas (S 0 k 0 10) (nI l1)))), (4, .int ((b2) + bI (decide (S 0 k 1 l1 = 1)))), (3, .int ((b1) + bI (decide (S 0 k 1 l1 = 2)))), (11, .int (bI (rHas (S 0 k 0 10) (nI l1)))), (10, .int (S 0 k 1 l1)), (9, .int (nI (k))), (0, .ref (zA Z (6) (0) (0))), (1, .int (nI (nn))), (2, .int (nI (l1))), (7, .int (b5))]) rfl ?_
            rw [show (bI (!decide ((b6) = 0) && ((!decide (S 0 k 1 l1 = 1) || decide (pCached S k l1 = S 0 4 2 l1)) && ((!decide (S 0 k 1 l1 = 0) || decide (pCached S k l1 = 0)) && (!rHas (S 0 k 0 10) (nI l1) || decide (S 0 k 1 l1 = 2)))))) = (0) by first | (simp [bI, c_153, c_159, c_175]; done) | (exfalso; simp_all; done)] at kcut
            exact kcut
          · refine j_iload X dL_lines_178 rfl (q := 5) rfl ?_
            refine j_if_ne X dL_lines_180 rfl (tgt := 193) (by decide) (fun c_180_3 => ?_) (fun c_180_3 => ?_)
            · refine j_iload X dL_lines_193 rfl (q := 4) rfl ?_
              refine j_ifb_eq X dL_lines_195 rfl (tgt := 204) (by decide) (fun c_195_4 => ?_) (fun c_195_4 => ?_)
              · refine j_iconst X dL_lines_204 rfl (v := 1) (by decide) ?_
                refine j_goto X (tgt := 209) dL_lines_205 (by decide) ?_
                refine j_istore X dL_lines_209 rfl (by decide) (Ls2 := [(8, .int (1)), (6, .int ((b4) + bI (rHas (S 0 k 0 9) (nI l1) && !rHas (S 0 k 0 10) (nI l1)))), (5, .int ((b3) + bI (rHas (S 0 k 0 10) (nI l1)))), (4, .int ((b2) + bI (decide (S 0 k 1 l1 = 1)))), (3, .int ((b1) + bI (decide (S 0 k 1 l1 = 2)))), (11, .int (bI (rHas (S 0 k 0 10) (nI l1)))), (10, .int (S 0 k 1 l1)), (9, .int (nI (k))), (0, .ref (zA Z (6) (0) (0))), (1, .int (nI (nn))), (2, .int (nI (l1))), (7, .int (b5))]) rfl ?_
                rw [show (bI (!decide ((b6) = 0) && ((!decide (S 0 k 1 l1 = 1) || decide (pCached S k l1 = S 0 4 2 l1)) && ((!decide (S 0 k 1 l1 = 0) || decide (pCached S k l1 = 0)) && (!rHas (S 0 k 0 10) (nI l1) || decide (S 0 k 1 l1 = 2)))))) = (1) by first | (simp [bI, c_153, c_159, c_175, c_180_3, c_195_4]; done) | (exfalso; simp_all; done)] at kcut
                exact kcut
              · refine j_iload X dL_lines_198 rfl (q := 5) rfl ?_
                refine j_iconst X dL_lines_200 rfl (v := 2) (by decide) ?_
                refine j_icmp_ne X dL_lines_201 rfl (tgt := 208) (by decide) (fun c_201_5 => ?_) (fun c_201_5 => ?_)
                · refine j_iconst X dL_lines_208 rfl (v := 0) (by decide) ?_
                  refine j_istore X dL_lines_209 rfl (by decide) (Ls2 := [(8, .int (0)), (6, .int ((b4) + bI (rHas (S 0 k 0 9) (nI l1) && !rHas (S 0 k 0 10) (nI l1)))), (5, .int ((b3) + bI (rHas (S 0 k 0 10) (nI l1)))), (4, .int ((b2) + bI (decide (S 0 k 1 l1 = 1)))), (3, .int ((b1) + bI (decide (S 0 k 1 l1 = 2)))), (11, .int (bI (rHas (S 0 k 0 10) (nI l1)))), (10, .int (S 0 k 1 l1)), (9, .int (nI (k))), (0, .ref (zA Z (6) (0) (0))), (1, .int (nI (nn))), (2, .int (nI (l1))), (7, .int (b5))]) rfl ?_
                  rw [show (bI (!decide ((b6) = 0) && ((!decide (S 0 k 1 l1 = 1) || decide (pCached S k l1 = S 0 4 2 l1)) && ((!decide (S 0 k 1 l1 = 0) || decide (pCached S k l1 = 0)) && (!rHas (S 0 k 0 10) (nI l1) || decide (S 0 k 1 l1 = 2)))))) = (0) by first | (simp [bI, c_153, c_159, c_175, c_180_3, c_195_4, c_201_5]; done) | (exfalso; simp_all; done)] at kcut
                  exact kcut
                · refine j_iconst X dL_lines_204 rfl (v := 1) (by decide) ?_
                  refine j_goto X (tgt := 209) dL_lines_205 (by decide) ?_
                  refine j_istore X dL_lines_209 rfl (by decide) (Ls2 := [(8, .int (1)), (6, .int ((b4) + bI (rHas (S 0 k 0 9) (nI l1) && !rHas (S 0 k 0 10) (nI l1)))), (5, .int ((b3) + bI (rHas (S 0 k 0 10) (nI l1)))), (4, .int ((b2) + bI (decide (S 0 k 1 l1 = 1)))), (3, .int ((b1) + bI (decide (S 0 k 1 l1 = 2)))), (11, .int (bI (rHas (S 0 k 0 10) (nI l1)))), (10, .int (S 0 k 1 l1)), (9, .int (nI (k))), (0, .ref (zA Z (6) (0) (0))), (1, .int (nI (nn))), (2, .int (nI (l1))), (7, .int (b5))]) rfl ?_
                  rw [show (bI (!decide ((b6) = 0) && ((!decide (S 0 k 1 l1 = 1) || decide (pCached S k l1 = S 0 4 2 l1)) && ((!decide (S 0 k 1 l1 = 0) || decide (pCached S k l1 = 0)) && (!rHas (S 0 k 0 10) (nI l1) || decide (S 0 k 1 l1 = 2)))))) = (1) by first | (simp [bI, c_153, c_159, c_175, c_180_3, c_195_4, c_201_5]; done) | (exfalso; simp_all; done)] at kcut
                  exact kcut
            · refine j_aload_n X dL_lines_183 rfl rfl (q := 7) rfl ?_
              refine j_iload X dL_lines_184 rfl (q := 6) rfl ?_
              refine j_iload_n X dL_lines_186 rfl rfl (q := 9) rfl ?_
              refine j_callQW X hSt hZ (w_cached l Z S S h (nI (k)) (nI (l1)) _ (c_X5_cached l Z S h k (by omega) (pHasC_n hn hn4 hlt) l1 hl1)) lk_RL_107 mt_L_cached ini_RL mc_L_cached md_L_cached ⟨Nat.le_of_ble_eq_true rfl, Nat.le_of_ble_eq_true rfl⟩ ⟨Nat.le_of_ble_eq_true rfl, Nat.le_of_ble_eq_true rfl⟩ rfl (Nat.le_of_ble_eq_true rfl) (as := [.ref (zA Z (6) (0) (0)), .int (nI (k)), .int (nI (l1))]) (rest := []) rfl dL_lines_187 rfl ?_
              refine j_if_ne X dL_lines_190 rfl (tgt := 208) (by decide) (fun c_190_6 => ?_) (fun c_190_6 => ?_)
              · refine j_iconst X dL_lines_208 rfl (v := 0) (by decide) ?_
                refine j_istore X dL_lines_209 rfl (by decide) (Ls2 := [(8, .int (0)), (6, .int ((b4) + bI (rHas (S 0 k 0 9) (nI l1) && !rHas (S 0 k 0 10) (nI l1)))), (5, .int ((b3) + bI (rHas (S 0 k 0 10) (nI l1)))), (4, .int ((b2) + bI (decide (S 0 k 1 l1 = 1)))), (3, .int ((b1) + bI (decide (S 0 k 1 l1 = 2)))), (11, .int (bI (rHas (S 0 k 0 10) (nI l1)))), (10, .int (S 0 k 1 l1)), (9, .int (nI (k))), (0, .ref (zA Z (6) (0) (0))), (1, .int (nI (nn))), (2, .int (nI (l1))), (7, .int (b5))]) rfl ?_
                rw [show (bI (!decide ((b6) = 0) && ((!decide (S 0 k 1 l1 = 1) || decide (pCached S k l1 = S 0 4 2 l1)) && ((!decide (S 0 k 1 l1 = 0) || decide (pCached S k l1 = 0)) && (!rHas (S 0 k 0 10) (nI l1) || decide (S 0 k 1 l1 = 2)))))) = (0) by first | (simp [bI, c_153, c_159, c_175, c_180_3, c_190_6]; done) | (exfalso; simp_all; done)] at kcut
                exact kcut
              · refine j_iload X dL_lines_193 rfl (q := 4) rfl ?_
                refine j_ifb_eq X dL_lines_195 rfl (tgt := 204) (by decide) (fun c_195_7 => ?_) (fun c_195_7 => ?_)
                · refine j_iconst X dL_lines_204 rfl (v := 1) (by decide) ?_
                  refine j_goto X (tgt := 209) dL_lines_205 (by decide) ?_
                  refine j_istore X dL_lines_209 rfl (by decide) (Ls2 := [(8, .int (1)), (6, .int ((b4) + bI (rHas (S 0 k 0 9) (nI l1) && !rHas (S 0 k 0 10) (nI l1)))), (5, .int ((b3) + bI (rHas (S 0 k 0 10) (nI l1)))), (4, .int ((b2) + bI (decide (S 0 k 1 l1 = 1)))), (3, .int ((b1) + bI (decide (S 0 k 1 l1 = 2)))), (11, .int (bI (rHas (S 0 k 0 10) (nI l1)))), (10, .int (S 0 k 1 l1)), (9, .int (nI (k))), (0, .ref (zA Z (6) (0) (0))), (1, .int (nI (nn))), (2, .int (nI (l1))), (7, .int (b5))]) rfl ?_
                  rw [show (bI (!decide ((b6) = 0) && ((!decide (S 0 k 1 l1 = 1) || decide (pCached S k l1 = S 0 4 2 l1)) && ((!decide (S 0 k 1 l1 = 0) || decide (pCached S k l1 = 0)) && (!rHas (S 0 k 0 10) (nI l1) || decide (S 0 k 1 l1 = 2)))))) = (1) by first | (simp [bI, c_153, c_159, c_175, c_180_3, c_190_6, c_195_7]; done) | (exfalso; simp_all; done)] at kcut
                  exact kcut
                · refine j_iload X dL_lines_198 rfl (q := 5) rfl ?_
                  refine j_iconst X dL_lines_200 rfl (v := 2) (by decide) ?_
                  refine j_icmp_ne X dL_lines_201 rfl (tgt := 208) (by decide) (fun c_201_8 => ?_) (fun c_201_8 => ?_)
                  · refine j_iconst X dL_lines_208 rfl (v := 0) (by decide) ?_
                    refine j_istore X dL_lines_209 rfl (by decide) (Ls2 := [(8, .int (0)), (6, .int ((b4) + bI (rHas (S 0 k 0 9) (nI l1) && !rHas (S 0 k 0 10) (nI l1)))), (5, .int ((b3) + bI (rHas (S 0 k 0 10) (nI l1)))), (4, .int ((b2) + bI (decide (S 0 k 1 l1 = 1)))), (3, .int ((b1) + bI (decide (S 0 k 1 l1 = 2)))), (11, .int (bI (rHas (S 0 k 0 10) (nI l1)))), (10, .int (S 0 k 1 l1)), (9, .int (nI (k))), (0, .ref (zA Z (6) (0) (0))), (1, .int (nI (nn))), (2, .int (nI (l1))), (7, .int (b5))]) rfl ?_
                    rw [show (bI (!decide ((b6) = 0) && ((!decide (S 0 k 1 l1 = 1) || decide (pCached S k l1 = S 0 4 2 l1)) && ((!decide (S 0 k 1 l1 = 0) || decide (pCached S k l1 = 0)) && (!rHas (S 0 k 0 10) (nI l1) || decide (S 0 k 1 l1 = 2)))))) = (0) by first | (simp [bI, c_153, c_159, c_175, c_180_3, c_190_6, c_195_7, c_201_8]; done) | (exfalso; simp_all; done)] at kcut
                    exact kcut
                  · refine j_iconst X dL_lines_204 rfl (v := 1) (by decide) ?_
                    refine j_goto X (tgt := 209) dL_lines_205 (by decide) ?_
                    refine j_istore X dL_lines_209 rfl (by decide) (Ls2 := [(8, .int (1)), (6, .int ((b4) + bI (rHas (S 0 k 0 9) (nI l1) && !rHas (S 0 k 0 10) (nI l1)))), (5, .int ((b3) + bI (rHas (S 0 k 0 10) (nI l1)))), (4, .int ((b2) + bI (decide (S 0 k 1 l1 = 1)))), (3, .int ((b1) + bI (decide (S 0 k 1 l1 = 2)))), (11, .int (bI (rHas (S 0 k 0 10) (nI l1)))), (10, .int (S 0 k 1 l1)), (9, .int (nI (k))), (0, .ref (zA Z (6) (0) (0))), (1, .int (nI (nn))), (2, .int (nI (l1))), (7, .int (b5))]) rfl ?_
                    rw [show (bI (!decide ((b6) = 0) && ((!decide (S 0 k 1 l1 = 1) || decide (pCached S k l1 = S 0 4 2 l1)) && ((!decide (S 0 k 1 l1 = 0) || decide (pCached S k l1 = 0)) && (!rHas (S 0 k 0 10) (nI l1) || decide (S 0 k 1 l1 = 2)))))) = (1) by first | (simp [bI, c_153, c_159, c_175, c_180_3, c_190_6, c_195_7, c_201_8]; done) | (exfalso; simp_all; done)] at kcut
                    exact kcut
    refine (show (J p l e { frames := 6, cells := 2, slots := 16, locals := 137 } s mi args below meth c 12 Z A0 0 0 Q S h [(7, .int (if (decide (S 0 k 1 l1 = 2) && !rHas (S 0 k 0 10) (nI l1)) = true then pCached S k l1 else (b5))), (8, .int (bI (!decide ((b6) = 0) && ((!decide (S 0 k 1 l1 = 1) || decide (pCached S k l1 = S 0 4 2 l1)) && ((!decide (S 0 k 1 l1 = 0) || decide (pCached S k l1 = 0)) && (!rHas (S 0 k 0 10) (nI l1) || decide (S 0 k 1 l1 = 2))))))), (6, .int ((b4) + bI (rHas (S 0 k 0 9) (nI l1) && !rHas (S 0 k 0 10) (nI l1)))), (5, .int ((b3) + bI (rHas (S 0 k 0 10) (nI l1)))), (4, .int ((b2) + bI (decide (S 0 k 1 l1 = 1)))), (3, .int ((b1) + bI (decide (S 0 k 1 l1 = 2)))), (11, .int (bI (rHas (S 0 k 0 10) (nI l1)))), (10, .int (S 0 k 1 l1)), (9, .int (nI (k))), (0, .ref (zA Z (6) (0) (0))), (1, .int (nI (nn))), (2, .int (nI (l1)))] 236 []) → _ from fun kcut => ?_) ?_
    · refine j_iload X dL_lines_211 rfl (q := 6) rfl ?_
      refine j_iconst X dL_lines_213 rfl (v := 2) (by decide) ?_
      refine j_icmp_ne X dL_lines_214 rfl (tgt := 232) (by decide) (fun c_214 => ?_) (fun c_214 => ?_)
      · refine j_iload X dL_lines_232 rfl (q := 11) rfl ?_
        refine j_istore X dL_lines_234 rfl (by decide) (Ls2 := [(7, .int (b5)), (8, .int (bI (!decide ((b6) = 0) && ((!decide (S 0 k 1 l1 = 1) || decide (pCached S k l1 = S 0 4 2 l1)) && ((!decide (S 0 k 1 l1 = 0) || decide (pCached S k l1 = 0)) && (!rHas (S 0 k 0 10) (nI l1) || decide (S 0 k 1 l1 = 2))))))), (6, .int ((b4) + bI (rHas (S 0 k 0 9) (nI l1) && !rHas (S 0 k 0 10) (nI l1)))), (5, .int ((b3) + bI (rHas (S 0 k 0 10) (nI l1)))), (4, .int ((b2) + bI (decide (S 0 k 1 l1 = 1)))), (3, .int ((b1) + bI (decide (S 0 k 1 l1 = 2)))), (11, .int (bI (rHas (S 0 k 0 10) (nI l1)))), (10, .int (S 0 k 1 l1)), (9, .int (nI (k))), (0, .ref (zA Z (6) (0) (0))), (1, .int (nI (nn))), (2, .int (nI (l1)))]) rfl ?_
        rw [show (if (decide (S 0 k 1 l1 = 2) && !rHas (S 0 k 0 10) (nI l1)) = true then pCached S k l1 else (b5)) = (b5) by first | (simp [bI, c_214]; done) | (exfalso; simp_all; done)] at kcut
        exact kcut
      · refine j_iload X dL_lines_217 rfl (q := 5) rfl ?_
        refine j_ifb_ne X dL_lines_219 rfl (tgt := 232) (by decide) (fun c_219 => ?_) (fun c_219 => ?_)
        · refine j_iload X dL_lines_232 rfl (q := 11) rfl ?_
          refine j_istore X dL_lines_234 rfl (by decide) (Ls2 := [(7, .int (b5)), (8, .int (bI (!decide ((b6) = 0) && ((!decide (S 0 k 1 l1 = 1) || decide (pCached S k l1 = S 0 4 2 l1)) && ((!decide (S 0 k 1 l1 = 0) || decide (pCached S k l1 = 0)) && (!rHas (S 0 k 0 10) (nI l1) || decide (S 0 k 1 l1 = 2))))))), (6, .int ((b4) + bI (rHas (S 0 k 0 9) (nI l1) && !rHas (S 0 k 0 10) (nI l1)))), (5, .int ((b3) + bI (rHas (S 0 k 0 10) (nI l1)))), (4, .int ((b2) + bI (decide (S 0 k 1 l1 = 1)))), (3, .int ((b1) + bI (decide (S 0 k 1 l1 = 2)))), (11, .int (bI (rHas (S 0 k 0 10) (nI l1)))), (10, .int (S 0 k 1 l1)), (9, .int (nI (k))), (0, .ref (zA Z (6) (0) (0))), (1, .int (nI (nn))), (2, .int (nI (l1)))]) rfl ?_
          rw [show (if (decide (S 0 k 1 l1 = 2) && !rHas (S 0 k 0 10) (nI l1)) = true then pCached S k l1 else (b5)) = (b5) by first | (simp [bI, c_214, c_219]; done) | (exfalso; simp_all; done)] at kcut
          exact kcut
        · refine j_aload_n X dL_lines_222 rfl rfl (q := 8) rfl ?_
          refine j_iload X dL_lines_223 rfl (q := 7) rfl ?_
          refine j_iload_n X dL_lines_225 rfl rfl (q := 10) rfl ?_
          refine j_callQW X hSt hZ (w_cached l Z S S h (nI (k)) (nI (l1)) _ (c_X5_cached l Z S h k (by omega) (pHasC_n hn hn4 hlt) l1 hl1)) lk_RL_107 mt_L_cached ini_RL mc_L_cached md_L_cached ⟨Nat.le_of_ble_eq_true rfl, Nat.le_of_ble_eq_true rfl⟩ ⟨Nat.le_of_ble_eq_true rfl, Nat.le_of_ble_eq_true rfl⟩ rfl (Nat.le_of_ble_eq_true rfl) (as := [.ref (zA Z (6) (0) (0)), .int (nI (k)), .int (nI (l1))]) (rest := []) rfl dL_lines_226 rfl ?_
          refine j_goto X (tgt := 234) dL_lines_229 (by decide) ?_
          refine j_istore X dL_lines_234 rfl (by decide) (Ls2 := [(7, .int (pCached S k l1)), (8, .int (bI (!decide ((b6) = 0) && ((!decide (S 0 k 1 l1 = 1) || decide (pCached S k l1 = S 0 4 2 l1)) && ((!decide (S 0 k 1 l1 = 0) || decide (pCached S k l1 = 0)) && (!rHas (S 0 k 0 10) (nI l1) || decide (S 0 k 1 l1 = 2))))))), (6, .int ((b4) + bI (rHas (S 0 k 0 9) (nI l1) && !rHas (S 0 k 0 10) (nI l1)))), (5, .int ((b3) + bI (rHas (S 0 k 0 10) (nI l1)))), (4, .int ((b2) + bI (decide (S 0 k 1 l1 = 1)))), (3, .int ((b1) + bI (decide (S 0 k 1 l1 = 2)))), (11, .int (bI (rHas (S 0 k 0 10) (nI l1)))), (10, .int (S 0 k 1 l1)), (9, .int (nI (k))), (0, .ref (zA Z (6) (0) (0))), (1, .int (nI (nn))), (2, .int (nI (l1)))]) rfl ?_
          rw [show (if (decide (S 0 k 1 l1 = 2) && !rHas (S 0 k 0 10) (nI l1)) = true then pCached S k l1 else (b5)) = (pCached S k l1) by first | (simp [bI, c_214, c_219]; done) | (exfalso; simp_all; done)] at kcut
          exact kcut
    refine j_iinc X dL_lines_236 rfl (q := 8) rfl (v := (nI (k + 1))) (nI_1 _) (by decide) (Ls2 := [(9, .int (nI (k + 1))), (7, .int (if (decide (S 0 k 1 l1 = 2) && !rHas (S 0 k 0 10) (nI l1)) = true then pCached S k l1 else (b5))), (8, .int (bI (!decide ((b6) = 0) && ((!decide (S 0 k 1 l1 = 1) || decide (pCached S k l1 = S 0 4 2 l1)) && ((!decide (S 0 k 1 l1 = 0) || decide (pCached S k l1 = 0)) && (!rHas (S 0 k 0 10) (nI l1) || decide (S 0 k 1 l1 = 2))))))), (6, .int ((b4) + bI (rHas (S 0 k 0 9) (nI l1) && !rHas (S 0 k 0 10) (nI l1)))), (5, .int ((b3) + bI (rHas (S 0 k 0 10) (nI l1)))), (4, .int ((b2) + bI (decide (S 0 k 1 l1 = 1)))), (3, .int ((b1) + bI (decide (S 0 k 1 l1 = 2)))), (11, .int (bI (rHas (S 0 k 0 10) (nI l1)))), (10, .int (S 0 k 1 l1)), (0, .ref (zA Z (6) (0) (0))), (1, .int (nI (nn))), (2, .int (nI (l1)))]) rfl ?_
    refine j_goto X (tgt := 39) dL_lines_239 (by decide) ?_
    refine j_sub [0, 9, 10, 11, 6, 5, 4, 3, 1, 2] (Ls2 := [(9, .int (nI (k + 1))), (0, .ref (zA Z (6) (0) (0))), (1, .int (nI (nn))), (2, .int (nI (l1))), (3, .int ((b1) + bI (decide (S 0 k 1 l1 = 2)))), (4, .int ((b2) + bI (decide (S 0 k 1 l1 = 1)))), (5, .int ((b3) + bI (rHas (S 0 k 0 10) (nI l1)))), (6, .int ((b4) + bI (rHas (S 0 k 0 9) (nI l1) && !rHas (S 0 k 0 10) (nI l1)))), (7, .int (if (decide (S 0 k 1 l1 = 2) && !rHas (S 0 k 0 10) (nI l1)) = true then pCached S k l1 else (b5))), (8, .int (bI (!decide ((b6) = 0) && ((!decide (S 0 k 1 l1 = 1) || decide (pCached S k l1 = S 0 4 2 l1)) && ((!decide (S 0 k 1 l1 = 0) || decide (pCached S k l1 = 0)) && (!rHas (S 0 k 0 10) (nI l1) || decide (S 0 k 1 l1 = 2)))))))]) rfl ?_
    have eB : (lnF S l1) k (b1, b2, b3, b4, b5, b6) = (((b1) + bI (decide (S 0 k 1 l1 = 2))), ((b2) + bI (decide (S 0 k 1 l1 = 1))), ((b3) + bI (rHas (S 0 k 0 10) (nI l1))), ((b4) + bI (rHas (S 0 k 0 9) (nI l1) && !rHas (S 0 k 0 10) (nI l1))), (if (decide (S 0 k 1 l1 = 2) && !rHas (S 0 k 0 10) (nI l1)) = true then pCached S k l1 else (b5)), (bI (!decide ((b6) = 0) && ((!decide (S 0 k 1 l1 = 1) || decide (pCached S k l1 = S 0 4 2 l1)) && ((!decide (S 0 k 1 l1 = 0) || decide (pCached S k l1 = 0)) && (!rHas (S 0 k 0 10) (nI l1) || decide (S 0 k 1 l1 = 2))))))) := by first | with_reducible rfl | (simp [lnF]; done) | (simp_all [lnF]; done) | rfl
    have eL : lp (lnF S l1) (n + 1) k (b1, b2, b3, b4, b5, b6) = lp (lnF S l1) n (k + 1) (((b1) + bI (decide (S 0 k 1 l1 = 2))), ((b2) + bI (decide (S 0 k 1 l1 = 1))), ((b3) + bI (rHas (S 0 k 0 10) (nI l1))), ((b4) + bI (rHas (S 0 k 0 9) (nI l1) && !rHas (S 0 k 0 10) (nI l1))), (if (decide (S 0 k 1 l1 = 2) && !rHas (S 0 k 0 10) (nI l1)) = true then pCached S k l1 else (b5)), (bI (!decide ((b6) = 0) && ((!decide (S 0 k 1 l1 = 1) || decide (pCached S k l1 = S 0 4 2 l1)) && ((!decide (S 0 k 1 l1 = 0) || decide (pCached S k l1 = 0)) && (!rHas (S 0 k 0 10) (nI l1) || decide (S 0 k 1 l1 = 2))))))) := congrArg (lp (lnF S l1) n (k + 1)) eB
    rw [eL] at hk
    exact ih (k + 1) (((b1) + bI (decide (S 0 k 1 l1 = 2)))) (((b2) + bI (decide (S 0 k 1 l1 = 1)))) (((b3) + bI (rHas (S 0 k 0 10) (nI l1)))) (((b4) + bI (rHas (S 0 k 0 9) (nI l1) && !rHas (S 0 k 0 10) (nI l1)))) ((if (decide (S 0 k 1 l1 = 2) && !rHas (S 0 k 0 10) (nI l1)) = true then pCached S k l1 else (b5))) ((bI (!decide ((b6) = 0) && ((!decide (S 0 k 1 l1 = 1) || decide (pCached S k l1 = S 0 4 2 l1)) && ((!decide (S 0 k 1 l1 = 0) || decide (pCached S k l1 = 0)) && (!rHas (S 0 k 0 10) (nI l1) || decide (S 0 k 1 l1 = 2))))))) (by omega) hk
set_option maxRecDepth 100000 in
set_option maxHeartbeats 4000000 in
theorem L_lnO (l : Launch) (Z : wZ) (h : Hl) (S : St) (nn : Nat) (hn : S 0 4 0 4 = nI nn) (hn4 : nn ≤ 4) (hOK : ∀ k, k < 8 → lnC S nn k) {p : Program} {e : Env} {s : State} {mi : MethodId} {args : Array Value} {below : List Frame} {meth : Method} {c : Code} {A0 : Nat → Prop} {Q : State → Prop} (X : JX p s mi args meth c cL_lines 12 RL Z A0) (hSt : hStr s) (hZ : hZq A0 s s.heap) : ∀ (n k : Nat), k + n = 8 → J p l e { frames := 6, cells := 2, slots := 16, locals := 137 } s mi args below meth c 12 Z A0 0 0 Q S h [(0, .ref (zA Z (6) (0) (0))), (1, .int (nI (nn)))] 298 [] → J p l e { frames := 6, cells := 2, slots := 16, locals := 137 } s mi args below meth c 12 Z A0 0 0 Q S h [(2, .int (nI (k))), (0, .ref (zA Z (6) (0) (0))), (1, .int (nI (nn)))] 8 [] := by
  intro n
  induction n with
  | zero =>
    intro k hkn hk
    have hkN : 8 = k := by omega
    subst hkN
    refine j_iload_n X dL_lines_8 rfl rfl (q := 0) rfl ?_
    refine j_bipush X dL_lines_9 rfl (v := 8) (by decide) ?_
    refine j_icmp_ge_t X (tgt := 298) dL_lines_11 (by decide) (nI_le (Nat.le_refl _) (by decide)) ?_
    refine j_sub [1, 2] (Ls2 := [(0, .ref (zA Z (6) (0) (0))), (1, .int (nI (nn)))]) rfl ?_
    exact hk
  | succ n ih =>
    intro k hkn hk
    have hlt : k < 8 := by omega
    refine j_iload_n X dL_lines_8 rfl rfl (q := 0) rfl ?_
    refine j_bipush X dL_lines_9 rfl (v := 8) (by decide) ?_
    refine j_icmp_ge_f X dL_lines_11 rfl (tgt := 298) (by decide) (nI_ge hlt (by decide)) ?_
    refine j_iconst X dL_lines_14 rfl (v := 0) (by decide) ?_
    refine j_istore_n X dL_lines_15 rfl rfl (by decide) (Ls2 := [(3, .int (0)), (2, .int (nI (k))), (0, .ref (zA Z (6) (0) (0))), (1, .int (nI (nn)))]) rfl ?_
    refine j_iconst X dL_lines_16 rfl (v := 0) (by decide) ?_
    refine j_istore X dL_lines_17 rfl (by decide) (Ls2 := [(4, .int (0)), (3, .int (0)), (2, .int (nI (k))), (0, .ref (zA Z (6) (0) (0))), (1, .int (nI (nn)))]) rfl ?_
    refine j_iconst X dL_lines_19 rfl (v := 0) (by decide) ?_
    refine j_istore X dL_lines_20 rfl (by decide) (Ls2 := [(5, .int (0)), (4, .int (0)), (3, .int (0)), (2, .int (nI (k))), (0, .ref (zA Z (6) (0) (0))), (1, .int (nI (nn)))]) rfl ?_
    refine j_iconst X dL_lines_22 rfl (v := 0) (by decide) ?_
    refine j_istore X dL_lines_23 rfl (by decide) (Ls2 := [(6, .int (0)), (5, .int (0)), (4, .int (0)), (3, .int (0)), (2, .int (nI (k))), (0, .ref (zA Z (6) (0) (0))), (1, .int (nI (nn)))]) rfl ?_
    refine j_aload_n X dL_lines_25 rfl rfl (q := 5) rfl ?_
    refine j_iload_n X dL_lines_26 rfl rfl (q := 4) rfl ?_
    refine j_iconst X dL_lines_27 rfl (v := 0) (by decide) ?_
    refine j_callQW X hSt hZ (w_memory l Z S S h (nI (k)) false _ (c_X5_memory l Z S h k hlt false (ccn hn hn4))) lk_RL_99 mt_L_memory ini_RL mc_L_memory md_L_memory ⟨Nat.le_of_ble_eq_true rfl, Nat.le_of_ble_eq_true rfl⟩ ⟨Nat.le_of_ble_eq_true rfl, Nat.le_of_ble_eq_true rfl⟩ rfl (Nat.le_of_ble_eq_true rfl) (as := [.ref (zA Z (6) (0) (0)), .int (nI (k)), .int (0)]) (rest := []) rfl dL_lines_28 rfl ?_
    refine j_topeq (y := (S 0 4 2 k)) (if_neg Bool.false_ne_true) ?_
    refine j_istore X dL_lines_31 rfl (by decide) (Ls2 := [(7, .int (S 0 4 2 k)), (6, .int (0)), (5, .int (0)), (4, .int (0)), (3, .int (0)), (2, .int (nI (k))), (0, .ref (zA Z (6) (0) (0))), (1, .int (nI (nn)))]) rfl ?_
    refine j_iconst X dL_lines_33 rfl (v := 1) (by decide) ?_
    refine j_istore X dL_lines_34 rfl (by decide) (Ls2 := [(8, .int (1)), (7, .int (S 0 4 2 k)), (6, .int (0)), (5, .int (0)), (4, .int (0)), (3, .int (0)), (2, .int (nI (k))), (0, .ref (zA Z (6) (0) (0))), (1, .int (nI (nn)))]) rfl ?_
    refine j_iconst X dL_lines_36 rfl (v := 0) (by decide) ?_
    refine j_istore X dL_lines_37 rfl (by decide) (Ls2 := [(9, .int (0)), (8, .int (1)), (7, .int (S 0 4 2 k)), (6, .int (0)), (5, .int (0)), (4, .int (0)), (3, .int (0)), (2, .int (nI (k))), (0, .ref (zA Z (6) (0) (0))), (1, .int (nI (nn)))]) rfl ?_
    refine j_sub [0, 8, 9, 7, 6, 5, 4, 3, 2, 1] (Ls2 := [(9, .int (0)), (0, .ref (zA Z (6) (0) (0))), (1, .int (nI (nn))), (2, .int (nI (k))), (3, .int (0)), (4, .int (0)), (5, .int (0)), (6, .int (0)), (7, .int (S 0 4 2 k)), (8, .int (1))]) rfl ?_
    refine L_lnI l Z h S k (by omega) nn hn hn4 X hSt hZ nn 0 ((0)) ((0)) ((0)) ((0)) ((S 0 4 2 k)) ((1)) (by omega) ?_
    refine j_iload X dL_lines_242 rfl (q := 8) rfl ?_
    refine j_if_eq_f X dL_lines_244 rfl (tgt := 290) (by decide) (hOK k hlt).1 ?_
    refine j_iload_n X dL_lines_247 rfl rfl (q := 3) rfl ?_
    refine j_iconst X dL_lines_248 rfl (v := 1) (by decide) ?_
    refine j_icmp_gt_f X dL_lines_249 rfl (tgt := 290) (by decide) (hOK k hlt).2.1 ?_
    refine j_iload_n X dL_lines_252 rfl rfl (q := 3) rfl ?_
    refine j_iconst X dL_lines_253 rfl (v := 1) (by decide) ?_
    refine j_icmp_ne X dL_lines_254 rfl (tgt := 262) (by decide) (fun c_254 => ?_) (fun c_254 => ?_)
    · refine j_iload X dL_lines_262 rfl (q := 5) rfl ?_
      refine j_iconst X dL_lines_264 rfl (v := 1) (by decide) ?_
      refine j_icmp_gt_f X dL_lines_265 rfl (tgt := 290) (by decide) (hOK k hlt).2.2.2.1 ?_
      refine j_iload X dL_lines_268 rfl (q := 5) rfl ?_
      refine j_iconst X dL_lines_270 rfl (v := 1) (by decide) ?_
      refine j_icmp_ne X dL_lines_271 rfl (tgt := 279) (by decide) (fun c_271 => ?_) (fun c_271 => ?_)
      · refine j_aload_n X dL_lines_279 rfl rfl (q := 0) rfl ?_
        refine j_iload_n X dL_lines_280 rfl rfl (q := 2) rfl ?_
        refine j_iconst X dL_lines_281 rfl (v := 1) (by decide) ?_
        refine j_callQW X hSt hZ (w_memory l Z S S h (nI (k)) true _ (c_X5_memory l Z S h k hlt true (ccn hn hn4))) lk_RL_99 mt_L_memory ini_RL mc_L_memory md_L_memory ⟨Nat.le_of_ble_eq_true rfl, Nat.le_of_ble_eq_true rfl⟩ ⟨Nat.le_of_ble_eq_true rfl, Nat.le_of_ble_eq_true rfl⟩ rfl (Nat.le_of_ble_eq_true rfl) (as := [.ref (zA Z (6) (0) (0)), .int (nI (k)), .int (1)]) (rest := []) rfl dL_lines_282 rfl ?_
        refine j_topeq (y := (pCom S 0 k)) (if_pos rfl) ?_
        refine j_iload X dL_lines_285 rfl (q := 7) rfl ?_
        refine j_icmp_eq_t X (tgt := 292) dL_lines_287 (by decide) (hOK k hlt).2.2.2.2.2 ?_
        refine j_iinc X dL_lines_292 rfl (q := 2) rfl (v := (nI (k + 1))) (nI_1 _) (by decide) (Ls2 := [(2, .int (nI (k + 1))), (0, .ref (zA Z (6) (0) (0))), (1, .int (nI (nn))), (3, .int ((lp (lnF S k) nn 0 ((0), (0), (0), (0), (S 0 4 2 k), (1))).1)), (4, .int ((lp (lnF S k) nn 0 ((0), (0), (0), (0), (S 0 4 2 k), (1))).2.1)), (5, .int ((lp (lnF S k) nn 0 ((0), (0), (0), (0), (S 0 4 2 k), (1))).2.2.1)), (6, .int ((lp (lnF S k) nn 0 ((0), (0), (0), (0), (S 0 4 2 k), (1))).2.2.2.1)), (7, .int ((lp (lnF S k) nn 0 ((0), (0), (0), (0), (S 0 4 2 k), (1))).2.2.2.2.1)), (8, .int ((lp (lnF S k) nn 0 ((0), (0), (0), (0), (S 0 4 2 k), (1))).2.2.2.2.2))]) rfl ?_
        refine j_goto X (tgt := 8) dL_lines_295 (by decide) ?_
        refine j_sub [0, 1, 2] (Ls2 := [(2, .int (nI (k + 1))), (0, .ref (zA Z (6) (0) (0))), (1, .int (nI (nn)))]) rfl ?_
        exact ih (k + 1) (by omega) hk
      · refine j_iload X dL_lines_274 rfl (q := 6) rfl ?_
        refine j_if_gt_f X dL_lines_276 rfl (tgt := 290) (by decide) ((hOK k hlt).2.2.2.2.1 c_271) ?_
        refine j_aload_n X dL_lines_279 rfl rfl (q := 0) rfl ?_
        refine j_iload_n X dL_lines_280 rfl rfl (q := 2) rfl ?_
        refine j_iconst X dL_lines_281 rfl (v := 1) (by decide) ?_
        refine j_callQW X hSt hZ (w_memory l Z S S h (nI (k)) true _ (c_X5_memory l Z S h k hlt true (ccn hn hn4))) lk_RL_99 mt_L_memory ini_RL mc_L_memory md_L_memory ⟨Nat.le_of_ble_eq_true rfl, Nat.le_of_ble_eq_true rfl⟩ ⟨Nat.le_of_ble_eq_true rfl, Nat.le_of_ble_eq_true rfl⟩ rfl (Nat.le_of_ble_eq_true rfl) (as := [.ref (zA Z (6) (0) (0)), .int (nI (k)), .int (1)]) (rest := []) rfl dL_lines_282 rfl ?_
        refine j_topeq (y := (pCom S 0 k)) (if_pos rfl) ?_
        refine j_iload X dL_lines_285 rfl (q := 7) rfl ?_
        refine j_icmp_eq_t X (tgt := 292) dL_lines_287 (by decide) (hOK k hlt).2.2.2.2.2 ?_
        refine j_iinc X dL_lines_292 rfl (q := 2) rfl (v := (nI (k + 1))) (nI_1 _) (by decide) (Ls2 := [(2, .int (nI (k + 1))), (0, .ref (zA Z (6) (0) (0))), (1, .int (nI (nn))), (3, .int ((lp (lnF S k) nn 0 ((0), (0), (0), (0), (S 0 4 2 k), (1))).1)), (4, .int ((lp (lnF S k) nn 0 ((0), (0), (0), (0), (S 0 4 2 k), (1))).2.1)), (5, .int ((lp (lnF S k) nn 0 ((0), (0), (0), (0), (S 0 4 2 k), (1))).2.2.1)), (6, .int ((lp (lnF S k) nn 0 ((0), (0), (0), (0), (S 0 4 2 k), (1))).2.2.2.1)), (7, .int ((lp (lnF S k) nn 0 ((0), (0), (0), (0), (S 0 4 2 k), (1))).2.2.2.2.1)), (8, .int ((lp (lnF S k) nn 0 ((0), (0), (0), (0), (S 0 4 2 k), (1))).2.2.2.2.2))]) rfl ?_
        refine j_goto X (tgt := 8) dL_lines_295 (by decide) ?_
        refine j_sub [0, 1, 2] (Ls2 := [(2, .int (nI (k + 1))), (0, .ref (zA Z (6) (0) (0))), (1, .int (nI (nn)))]) rfl ?_
        exact ih (k + 1) (by omega) hk
    · refine j_iload X dL_lines_257 rfl (q := 4) rfl ?_
      refine j_if_gt_f X dL_lines_259 rfl (tgt := 290) (by decide) ((hOK k hlt).2.2.1 c_254) ?_
      refine j_iload X dL_lines_262 rfl (q := 5) rfl ?_
      refine j_iconst X dL_lines_264 rfl (v := 1) (by decide) ?_
      refine j_icmp_gt_f X dL_lines_265 rfl (tgt := 290) (by decide) (hOK k hlt).2.2.2.1 ?_
      refine j_iload X dL_lines_268 rfl (q := 5) rfl ?_
      refine j_iconst X dL_lines_270 rfl (v := 1) (by decide) ?_
      refine j_icmp_ne X dL_lines_271 rfl (tgt := 279) (by decide) (fun c_271_1 => ?_) (fun c_271_1 => ?_)
      · refine j_aload_n X dL_lines_279 rfl rfl (q := 0) rfl ?_
        refine j_iload_n X dL_lines_280 rfl rfl (q := 2) rfl ?_
        refine j_iconst X dL_lines_281 rfl (v := 1) (by decide) ?_
        refine j_callQW X hSt hZ (w_memory l Z S S h (nI (k)) true _ (c_X5_memory l Z S h k hlt true (ccn hn hn4))) lk_RL_99 mt_L_memory ini_RL mc_L_memory md_L_memory ⟨Nat.le_of_ble_eq_true rfl, Nat.le_of_ble_eq_true rfl⟩ ⟨Nat.le_of_ble_eq_true rfl, Nat.le_of_ble_eq_true rfl⟩ rfl (Nat.le_of_ble_eq_true rfl) (as := [.ref (zA Z (6) (0) (0)), .int (nI (k)), .int (1)]) (rest := []) rfl dL_lines_282 rfl ?_
        refine j_topeq (y := (pCom S 0 k)) (if_pos rfl) ?_
        refine j_iload X dL_lines_285 rfl (q := 7) rfl ?_
        refine j_icmp_eq_t X (tgt := 292) dL_lines_287 (by decide) (hOK k hlt).2.2.2.2.2 ?_
        refine j_iinc X dL_lines_292 rfl (q := 2) rfl (v := (nI (k + 1))) (nI_1 _) (by decide) (Ls2 := [(2, .int (nI (k + 1))), (0, .ref (zA Z (6) (0) (0))), (1, .int (nI (nn))), (3, .int ((lp (lnF S k) nn 0 ((0), (0), (0), (0), (S 0 4 2 k), (1))).1)), (4, .int ((lp (lnF S k) nn 0 ((0), (0), (0), (0), (S 0 4 2 k), (1))).2.1)), (5, .int ((lp (lnF S k) nn 0 ((0), (0), (0), (0), (S 0 4 2 k), (1))).2.2.1)), (6, .int ((lp (lnF S k) nn 0 ((0), (0), (0), (0), (S 0 4 2 k), (1))).2.2.2.1)), (7, .int ((lp (lnF S k) nn 0 ((0), (0), (0), (0), (S 0 4 2 k), (1))).2.2.2.2.1)), (8, .int ((lp (lnF S k) nn 0 ((0), (0), (0), (0), (S 0 4 2 k), (1))).2.2.2.2.2))]) rfl ?_
        refine j_goto X (tgt := 8) dL_lines_295 (by decide) ?_
        refine j_sub [0, 1, 2] (Ls2 := [(2, .int (nI (k + 1))), (0, .ref (zA Z (6) (0) (0))), (1, .int (nI (nn)))]) rfl ?_
        exact ih (k + 1) (by omega) hk
      · refine j_iload X dL_lines_274 rfl (q := 6) rfl ?_
        refine j_if_gt_f X dL_lines_276 rfl (tgt := 290) (by decide) ((hOK k hlt).2.2.2.2.1 c_271_1) ?_
        refine j_aload_n X dL_lines_279 rfl rfl (q := 0) rfl ?_
        refine j_iload_n X dL_lines_280 rfl rfl (q := 2) rfl ?_
        refine j_iconst X dL_lines_281 rfl (v := 1) (by decide) ?_
        refine j_callQW X hSt hZ (w_memory l Z S S h (nI (k)) true _ (c_X5_memory l Z S h k hlt true (ccn hn hn4))) lk_RL_99 mt_L_memory ini_RL mc_L_memory md_L_memory ⟨Nat.le_of_ble_eq_true rfl, Nat.le_of_ble_eq_true rfl⟩ ⟨Nat.le_of_ble_eq_true rfl, Nat.le_of_ble_eq_true rfl⟩ rfl (Nat.le_of_ble_eq_true rfl) (as := [.ref (zA Z (6) (0) (0)), .int (nI (k)), .int (1)]) (rest := []) rfl dL_lines_282 rfl ?_
        refine j_topeq (y := (pCom S 0 k)) (if_pos rfl) ?_
        refine j_iload X dL_lines_285 rfl (q := 7) rfl ?_
        refine j_icmp_eq_t X (tgt := 292) dL_lines_287 (by decide) (hOK k hlt).2.2.2.2.2 ?_
        refine j_iinc X dL_lines_292 rfl (q := 2) rfl (v := (nI (k + 1))) (nI_1 _) (by decide) (Ls2 := [(2, .int (nI (k + 1))), (0, .ref (zA Z (6) (0) (0))), (1, .int (nI (nn))), (3, .int ((lp (lnF S k) nn 0 ((0), (0), (0), (0), (S 0 4 2 k), (1))).1)), (4, .int ((lp (lnF S k) nn 0 ((0), (0), (0), (0), (S 0 4 2 k), (1))).2.1)), (5, .int ((lp (lnF S k) nn 0 ((0), (0), (0), (0), (S 0 4 2 k), (1))).2.2.1)), (6, .int ((lp (lnF S k) nn 0 ((0), (0), (0), (0), (S 0 4 2 k), (1))).2.2.2.1)), (7, .int ((lp (lnF S k) nn 0 ((0), (0), (0), (0), (S 0 4 2 k), (1))).2.2.2.2.1)), (8, .int ((lp (lnF S k) nn 0 ((0), (0), (0), (0), (S 0 4 2 k), (1))).2.2.2.2.2))]) rfl ?_
        refine j_goto X (tgt := 8) dL_lines_295 (by decide) ?_
        refine j_sub [0, 1, 2] (Ls2 := [(2, .int (nI (k + 1))), (0, .ref (zA Z (6) (0) (0))), (1, .int (nI (nn)))]) rfl ?_
        exact ih (k + 1) (by omega) hk
set_option maxRecDepth 100000 in
set_option maxHeartbeats 4000000 in
theorem L_lnC (l : Launch) (Z : wZ) (h : Hl) (S : St) (nn : Nat) (hn : S 0 4 0 4 = nI nn) (hn4 : nn ≤ 4) (hCC : ∀ k, k < nn → coC S k) {p : Program} {e : Env} {s : State} {mi : MethodId} {args : Array Value} {below : List Frame} {meth : Method} {c : Code} {A0 : Nat → Prop} {Q : State → Prop} (X : JX p s mi args meth c cL_lines 12 RL Z A0) (hSt : hStr s) (hZ : hZq A0 s s.heap) : ∀ (n k : Nat) (b1 : Int32) (b2 : Int32) (b3 : Int32), k + n = nn → J p l e { frames := 6, cells := 2, slots := 16, locals := 137 } s mi args below meth c 12 Z A0 0 0 Q (S) h [(0, .ref (zA Z (6) (0) (0))), (2, .int ((lp (coF S) n k (b1, b2, b3)).1)), (3, .int ((lp (coF S) n k (b1, b2, b3)).2.1)), (4, .int ((lp (coF S) n k (b1, b2, b3)).2.2))] 459 [] → J p l e { frames := 6, cells := 2, slots := 16, locals := 137 } s mi args below meth c 12 Z A0 0 0 Q S h [(5, .int (nI (k))), (0, .ref (zA Z (6) (0) (0))), (1, .int (nI (nn))), (2, .int (b1)), (3, .int (b2)), (4, .int (b3))] 308 [] := by
  intro n
  induction n with
  | zero =>
    intro k b1 b2 b3 hkn hk
    have hkN : nn = k := by omega
    subst hkN
    refine j_iload X dL_lines_308 rfl (q := 0) rfl ?_
    refine j_iload_n X dL_lines_310 rfl rfl (q := 2) rfl ?_
    refine j_icmp_ge_t X (tgt := 459) dL_lines_311 (by decide) (nI_le (Nat.le_refl _) (by omega)) ?_
    refine j_sub [1, 3, 4, 5] (Ls2 := [(0, .ref (zA Z (6) (0) (0))), (2, .int (b1)), (3, .int (b2)), (4, .int (b3))]) rfl ?_
    exact hk
  | succ n ih =>
    intro k b1 b2 b3 hkn hk
    have hlt : k < nn := by omega
    refine j_iload X dL_lines_308 rfl (q := 0) rfl ?_
    refine j_iload_n X dL_lines_310 rfl rfl (q := 2) rfl ?_
    refine j_icmp_ge_f X dL_lines_311 rfl (tgt := 459) (by decide) (nI_ge hlt (by omega)) ?_
    refine (show (J p l e { frames := 6, cells := 2, slots := 16, locals := 137 } s mi args below meth c 12 Z A0 0 0 Q S h [(6, .int (bI (!decide (S 0 k 0 5 < 0)))), (5, .int (nI (k))), (0, .ref (zA Z (6) (0) (0))), (1, .int (nI (nn))), (2, .int (b1)), (3, .int (b2)), (4, .int (b3))] 331 []) → _ from fun kcut => ?_) ?_
    · refine j_aload_n X dL_lines_314 rfl rfl (q := 1) rfl ?_
      refine j_iload X dL_lines_315 rfl (q := 0) rfl ?_
      refine j_iconst X dL_lines_317 rfl (v := 3) (by decide) ?_
      refine j_callQW X hSt hZ (w_core l Z S S h (nI (k)) (3) _ (c_X5_core l Z S h k (by omega) (pHasC_n hn hn4 hlt) 3 (by decide))) lk_RL_109 mt_L_core ini_RL mc_L_core md_L_core ⟨Nat.le_of_ble_eq_true rfl, Nat.le_of_ble_eq_true rfl⟩ ⟨Nat.le_of_ble_eq_true rfl, Nat.le_of_ble_eq_true rfl⟩ rfl (Nat.le_of_ble_eq_true rfl) (as := [.ref (zA Z (6) (0) (0)), .int (nI (k)), .int (3)]) (rest := []) rfl dL_lines_318 rfl ?_
      refine j_topeq (y := (S 0 k 0 5)) rfl ?_
      refine j_if_lt X dL_lines_321 rfl (tgt := 328) (by decide) (fun c_321 => ?_) (fun c_321 => ?_)
      · refine j_iconst X dL_lines_328 rfl (v := 0) (by decide) ?_
        refine j_istore X dL_lines_329 rfl (by decide) (Ls2 := [(6, .int (0)), (5, .int (nI (k))), (0, .ref (zA Z (6) (0) (0))), (1, .int (nI (nn))), (2, .int (b1)), (3, .int (b2)), (4, .int (b3))]) rfl ?_
        rw [show (bI (!decide (S 0 k 0 5 < 0))) = (0) by first | (simp [bI, c_321]; done) | (exfalso; simp_all; done)] at kcut
        exact kcut
      · refine j_iconst X dL_lines_324 rfl (v := 1) (by decide) ?_
        refine j_goto X (tgt := 329) dL_lines_325 (by decide) ?_
        refine j_istore X dL_lines_329 rfl (by decide) (Ls2 := [(6, .int (1)), (5, .int (nI (k))), (0, .ref (zA Z (6) (0) (0))), (1, .int (nI (nn))), (2, .int (b1)), (3, .int (b2)), (4, .int (b3))]) rfl ?_
        rw [show (bI (!decide (S 0 k 0 5 < 0))) = (1) by first | (simp [bI, c_321]; done) | (exfalso; simp_all; done)] at kcut
        exact kcut
    refine j_iload_n X dL_lines_331 rfl rfl (q := 4) rfl ?_
    refine j_aload_n X dL_lines_332 rfl rfl (q := 2) rfl ?_
    refine j_iload X dL_lines_333 rfl (q := 1) rfl ?_
    refine j_iconst X dL_lines_335 rfl (v := 5) (by decide) ?_
    refine j_callQW X hSt hZ (w_core l Z S S h (nI (k)) (5) _ (c_X5_core l Z S h k (by omega) (pHasC_n hn hn4 hlt) 5 (by decide))) lk_RL_109 mt_L_core ini_RL mc_L_core md_L_core ⟨Nat.le_of_ble_eq_true rfl, Nat.le_of_ble_eq_true rfl⟩ ⟨Nat.le_of_ble_eq_true rfl, Nat.le_of_ble_eq_true rfl⟩ rfl (Nat.le_of_ble_eq_true rfl) (as := [.ref (zA Z (6) (0) (0)), .int (nI (k)), .int (5)]) (rest := [.int (b1)]) rfl dL_lines_336 rfl ?_
    refine j_topeq (y := (S 0 k 0 14)) rfl ?_
    refine j_iadd X dL_lines_339 rfl ?_
    refine j_istore_n X dL_lines_340 rfl rfl (by decide) (Ls2 := [(2, .int ((b1) + (S 0 k 0 14))), (6, .int (bI (!decide (S 0 k 0 5 < 0)))), (5, .int (nI (k))), (0, .ref (zA Z (6) (0) (0))), (1, .int (nI (nn))), (3, .int (b2)), (4, .int (b3))]) rfl ?_
    refine j_iload_n X dL_lines_341 rfl rfl (q := 5) rfl ?_
    refine j_aload_n X dL_lines_342 rfl rfl (q := 3) rfl ?_
    refine j_iload X dL_lines_343 rfl (q := 2) rfl ?_
    refine j_iconst X dL_lines_345 rfl (v := 4) (by decide) ?_
    refine j_callQW X hSt hZ (w_core l Z S S h (nI (k)) (4) _ (c_X5_core l Z S h k (by omega) (pHasC_n hn hn4 hlt) 4 (by decide))) lk_RL_109 mt_L_core ini_RL mc_L_core md_L_core ⟨Nat.le_of_ble_eq_true rfl, Nat.le_of_ble_eq_true rfl⟩ ⟨Nat.le_of_ble_eq_true rfl, Nat.le_of_ble_eq_true rfl⟩ rfl (Nat.le_of_ble_eq_true rfl) (as := [.ref (zA Z (6) (0) (0)), .int (nI (k)), .int (4)]) (rest := [.int (b2)]) rfl dL_lines_346 rfl ?_
    refine j_topeq (y := (S 0 k 0 13)) rfl ?_
    refine j_iadd X dL_lines_349 rfl ?_
    refine j_istore_n X dL_lines_350 rfl rfl (by decide) (Ls2 := [(3, .int ((b2) + (S 0 k 0 13))), (2, .int ((b1) + (S 0 k 0 14))), (6, .int (bI (!decide (S 0 k 0 5 < 0)))), (5, .int (nI (k))), (0, .ref (zA Z (6) (0) (0))), (1, .int (nI (nn))), (4, .int (b3))]) rfl ?_
    refine (show (J p l e { frames := 6, cells := 2, slots := 16, locals := 137 } s mi args below meth c 12 Z A0 0 0 Q S h [(4, .int ((b3) + bI (decide (S 0 k 0 3 = S 0 k 3 2)))), (3, .int ((b2) + (S 0 k 0 13))), (2, .int ((b1) + (S 0 k 0 14))), (6, .int (bI (!decide (S 0 k 0 5 < 0)))), (5, .int (nI (k))), (0, .ref (zA Z (6) (0) (0))), (1, .int (nI (nn)))] 378 []) → _ from fun kcut => ?_) ?_
    · refine j_iload X dL_lines_351 rfl (q := 6) rfl ?_
      refine j_aload_n X dL_lines_353 rfl rfl (q := 4) rfl ?_
      refine j_iload X dL_lines_354 rfl (q := 3) rfl ?_
      refine j_iconst X dL_lines_356 rfl (v := 1) (by decide) ?_
      refine j_callQW X hSt hZ (w_core l Z S S h (nI (k)) (1) _ (c_X5_core l Z S h k (by omega) (pHasC_n hn hn4 hlt) 1 (by decide))) lk_RL_109 mt_L_core ini_RL mc_L_core md_L_core ⟨Nat.le_of_ble_eq_true rfl, Nat.le_of_ble_eq_true rfl⟩ ⟨Nat.le_of_ble_eq_true rfl, Nat.le_of_ble_eq_true rfl⟩ rfl (Nat.le_of_ble_eq_true rfl) (as := [.ref (zA Z (6) (0) (0)), .int (nI (k)), .int (1)]) (rest := [.int (b3)]) rfl dL_lines_357 rfl ?_
      refine j_topeq (y := (S 0 k 0 3)) rfl ?_
      refine j_aload_n X dL_lines_360 rfl rfl (q := 4) rfl ?_
      refine j_iload X dL_lines_361 rfl (q := 3) rfl ?_
      refine j_iconst X dL_lines_363 rfl (v := 2) (by decide) ?_
      refine j_callQW X hSt hZ (w_core l Z S S h (nI (k)) (2) _ (c_X5_core l Z S h k (by omega) (pHasC_n hn hn4 hlt) 2 (by decide))) lk_RL_109 mt_L_core ini_RL mc_L_core md_L_core ⟨Nat.le_of_ble_eq_true rfl, Nat.le_of_ble_eq_true rfl⟩ ⟨Nat.le_of_ble_eq_true rfl, Nat.le_of_ble_eq_true rfl⟩ rfl (Nat.le_of_ble_eq_true rfl) (as := [.ref (zA Z (6) (0) (0)), .int (nI (k)), .int (2)]) (rest := [.int (S 0 k 0 3), .int (b3)]) rfl dL_lines_364 rfl ?_
      refine j_topeq (y := (S 0 k 3 2)) rfl ?_
      refine j_icmp_ne X dL_lines_367 rfl (tgt := 374) (by decide) (fun c_367 => ?_) (fun c_367 => ?_)
      · refine j_iconst X dL_lines_374 rfl (v := 0) (by decide) ?_
        refine j_iadd X dL_lines_375 rfl ?_
        refine j_istore X dL_lines_376 rfl (by decide) (Ls2 := [(4, .int ((b3) + (0))), (3, .int ((b2) + (S 0 k 0 13))), (2, .int ((b1) + (S 0 k 0 14))), (6, .int (bI (!decide (S 0 k 0 5 < 0)))), (5, .int (nI (k))), (0, .ref (zA Z (6) (0) (0))), (1, .int (nI (nn)))]) rfl ?_
        rw [show ((b3) + bI (decide (S 0 k 0 3 = S 0 k 3 2))) = ((b3) + (0)) by first | (simp [bI, c_367]; done) | (exfalso; simp_all; done)] at kcut
        exact kcut
      · refine j_iconst X dL_lines_370 rfl (v := 1) (by decide) ?_
        refine j_goto X (tgt := 375) dL_lines_371 (by decide) ?_
        refine j_iadd X dL_lines_375 rfl ?_
        refine j_istore X dL_lines_376 rfl (by decide) (Ls2 := [(4, .int ((b3) + (1))), (3, .int ((b2) + (S 0 k 0 13))), (2, .int ((b1) + (S 0 k 0 14))), (6, .int (bI (!decide (S 0 k 0 5 < 0)))), (5, .int (nI (k))), (0, .ref (zA Z (6) (0) (0))), (1, .int (nI (nn)))]) rfl ?_
        rw [show ((b3) + bI (decide (S 0 k 0 3 = S 0 k 3 2))) = ((b3) + (1)) by first | (simp [bI, c_367]; done) | (exfalso; simp_all; done)] at kcut
        exact kcut
    refine j_iload X dL_lines_378 rfl (q := 3) rfl ?_
    refine j_ifb_ne X dL_lines_380 rfl (tgt := 401) (by decide) (fun c_380 => ?_) (fun c_380 => ?_)
    · refine j_aload_n X dL_lines_401 rfl rfl (q := 5) rfl ?_
      refine j_iload X dL_lines_402 rfl (q := 4) rfl ?_
      refine j_iconst X dL_lines_404 rfl (v := 1) (by decide) ?_
      refine j_callQW X hSt hZ (w_set l Z S S h (nI (k)) true _ (c_X5_set l Z S h k (by omega) (pHasC_n hn hn4 hlt) true)) lk_RL_105 mt_L_set ini_RL mc_L_set md_L_set ⟨Nat.le_of_ble_eq_true rfl, Nat.le_of_ble_eq_true rfl⟩ ⟨Nat.le_of_ble_eq_true rfl, Nat.le_of_ble_eq_true rfl⟩ rfl (Nat.le_of_ble_eq_true rfl) (as := [.ref (zA Z (6) (0) (0)), .int (nI (k)), .int (1)]) (rest := []) rfl dL_lines_405 rfl ?_
      refine j_topeq (y := (S 0 k 0 10)) (if_pos rfl) ?_
      refine j_callQ X hSt hZ (c_L_size l Z S h (S 0 k 0 10) (hCC k hlt).2.1) lk_RL_111 mt_L_size ini_RL mc_L_size md_L_size ⟨Nat.le_of_ble_eq_true rfl, Nat.le_of_ble_eq_true rfl⟩ ⟨Nat.le_of_ble_eq_true rfl, Nat.le_of_ble_eq_true rfl⟩ rfl (Nat.le_of_ble_eq_true rfl) (as := [.int (S 0 k 0 10)]) (rest := []) rfl dL_lines_408 rfl ?_
      refine j_aload_n X dL_lines_411 rfl rfl (q := 5) rfl ?_
      refine j_iconst X dL_lines_412 rfl (v := 2) (by decide) ?_
      refine j_callQW X hSt hZ (w_value l Z S S h (2) _ (c_X5_value l Z S h 2 (by decide) (ccn hn hn4))) lk_RL_97 mt_L_value ini_RL mc_L_value md_L_value ⟨Nat.le_of_ble_eq_true rfl, Nat.le_of_ble_eq_true rfl⟩ ⟨Nat.le_of_ble_eq_true rfl, Nat.le_of_ble_eq_true rfl⟩ rfl (Nat.le_of_ble_eq_true rfl) (as := [.ref (zA Z (6) (0) (0)), .int (2)]) (rest := [.int (kern 8 (S 0 k 0 10) 0)]) rfl dL_lines_413 rfl ?_
      refine j_icmp_gt_f X dL_lines_416 rfl (tgt := 451) (by decide) (hCC k hlt).2.2.1 ?_
      refine j_aload_n X dL_lines_419 rfl rfl (q := 5) rfl ?_
      refine j_iload X dL_lines_420 rfl (q := 4) rfl ?_
      refine j_iconst X dL_lines_422 rfl (v := 3) (by decide) ?_
      refine j_callQW X hSt hZ (w_core l Z S S h (nI (k)) (3) _ (c_X5_core l Z S h k (by omega) (pHasC_n hn hn4 hlt) 3 (by decide))) lk_RL_109 mt_L_core ini_RL mc_L_core md_L_core ⟨Nat.le_of_ble_eq_true rfl, Nat.le_of_ble_eq_true rfl⟩ ⟨Nat.le_of_ble_eq_true rfl, Nat.le_of_ble_eq_true rfl⟩ rfl (Nat.le_of_ble_eq_true rfl) (as := [.ref (zA Z (6) (0) (0)), .int (nI (k)), .int (3)]) (rest := []) rfl dL_lines_423 rfl ?_
      refine j_topeq (y := (S 0 k 0 5)) rfl ?_
      refine j_aload_n X dL_lines_426 rfl rfl (q := 5) rfl ?_
      refine j_iconst X dL_lines_427 rfl (v := 4) (by decide) ?_
      refine j_callQW X hSt hZ (w_value l Z S S h (4) _ (c_X5_value l Z S h 4 (by decide) (ccn hn hn4))) lk_RL_97 mt_L_value ini_RL mc_L_value md_L_value ⟨Nat.le_of_ble_eq_true rfl, Nat.le_of_ble_eq_true rfl⟩ ⟨Nat.le_of_ble_eq_true rfl, Nat.le_of_ble_eq_true rfl⟩ rfl (Nat.le_of_ble_eq_true rfl) (as := [.ref (zA Z (6) (0) (0)), .int (4)]) (rest := [.int (S 0 k 0 5)]) rfl dL_lines_428 rfl ?_
      refine j_icmp_ge_f X dL_lines_431 rfl (tgt := 451) (by decide) (hCC k hlt).2.2.2.1 ?_
      refine j_aload_n X dL_lines_434 rfl rfl (q := 5) rfl ?_
      refine j_iload X dL_lines_435 rfl (q := 4) rfl ?_
      refine j_iconst X dL_lines_437 rfl (v := 1) (by decide) ?_
      refine j_callQW X hSt hZ (w_core l Z S S h (nI (k)) (1) _ (c_X5_core l Z S h k (by omega) (pHasC_n hn hn4 hlt) 1 (by decide))) lk_RL_109 mt_L_core ini_RL mc_L_core md_L_core ⟨Nat.le_of_ble_eq_true rfl, Nat.le_of_ble_eq_true rfl⟩ ⟨Nat.le_of_ble_eq_true rfl, Nat.le_of_ble_eq_true rfl⟩ rfl (Nat.le_of_ble_eq_true rfl) (as := [.ref (zA Z (6) (0) (0)), .int (nI (k)), .int (1)]) (rest := []) rfl dL_lines_438 rfl ?_
      refine j_topeq (y := (S 0 k 0 3)) rfl ?_
      refine j_aload_n X dL_lines_441 rfl rfl (q := 5) rfl ?_
      refine j_iload X dL_lines_442 rfl (q := 4) rfl ?_
      refine j_iconst X dL_lines_444 rfl (v := 2) (by decide) ?_
      refine j_callQW X hSt hZ (w_core l Z S S h (nI (k)) (2) _ (c_X5_core l Z S h k (by omega) (pHasC_n hn hn4 hlt) 2 (by decide))) lk_RL_109 mt_L_core ini_RL mc_L_core md_L_core ⟨Nat.le_of_ble_eq_true rfl, Nat.le_of_ble_eq_true rfl⟩ ⟨Nat.le_of_ble_eq_true rfl, Nat.le_of_ble_eq_true rfl⟩ rfl (Nat.le_of_ble_eq_true rfl) (as := [.ref (zA Z (6) (0) (0)), .int (nI (k)), .int (2)]) (rest := [.int (S 0 k 0 3)]) rfl dL_lines_445 rfl ?_
      refine j_topeq (y := (S 0 k 3 2)) rfl ?_
      refine j_icmp_le_t X (tgt := 453) dL_lines_448 (by decide) (hCC k hlt).2.2.2.2 ?_
      refine j_iinc X dL_lines_453 rfl (q := 4) rfl (v := (nI (k + 1))) (nI_1 _) (by decide) (Ls2 := [(5, .int (nI (k + 1))), (4, .int ((b3) + bI (decide (S 0 k 0 3 = S 0 k 3 2)))), (3, .int ((b2) + (S 0 k 0 13))), (2, .int ((b1) + (S 0 k 0 14))), (6, .int (bI (!decide (S 0 k 0 5 < 0)))), (0, .ref (zA Z (6) (0) (0))), (1, .int (nI (nn)))]) rfl ?_
      refine j_goto X (tgt := 308) dL_lines_456 (by decide) ?_
      refine j_sub [0, 5, 6, 3, 2, 1] (Ls2 := [(5, .int (nI (k + 1))), (0, .ref (zA Z (6) (0) (0))), (1, .int (nI (nn))), (2, .int ((b1) + (S 0 k 0 14))), (3, .int ((b2) + (S 0 k 0 13))), (4, .int ((b3) + bI (decide (S 0 k 0 3 = S 0 k 3 2))))]) rfl ?_
      have eB : (coF S) k (b1, b2, b3) = (((b1) + (S 0 k 0 14)), ((b2) + (S 0 k 0 13)), ((b3) + bI (decide (S 0 k 0 3 = S 0 k 3 2)))) := by first | with_reducible rfl | (simp [coF, c_380]; done) | (simp_all [coF]; done) | rfl
      have eL : lp (coF S) (n + 1) k (b1, b2, b3) = lp (coF S) n (k + 1) (((b1) + (S 0 k 0 14)), ((b2) + (S 0 k 0 13)), ((b3) + bI (decide (S 0 k 0 3 = S 0 k 3 2)))) := congrArg (lp (coF S) n (k + 1)) eB
      rw [eL] at hk
      exact ih (k + 1) (((b1) + (S 0 k 0 14))) (((b2) + (S 0 k 0 13))) (((b3) + bI (decide (S 0 k 0 3 = S 0 k 3 2)))) (by omega) hk
    · refine j_aload_n X dL_lines_383 rfl rfl (q := 5) rfl ?_
      refine j_iload X dL_lines_384 rfl (q := 4) rfl ?_
      refine j_iconst X dL_lines_386 rfl (v := 1) (by decide) ?_
      refine j_callQW X hSt hZ (w_set l Z S S h (nI (k)) true _ (c_X5_set l Z S h k (by omega) (pHasC_n hn hn4 hlt) true)) lk_RL_105 mt_L_set ini_RL mc_L_set md_L_set ⟨Nat.le_of_ble_eq_true rfl, Nat.le_of_ble_eq_true rfl⟩ ⟨Nat.le_of_ble_eq_true rfl, Nat.le_of_ble_eq_true rfl⟩ rfl (Nat.le_of_ble_eq_true rfl) (as := [.ref (zA Z (6) (0) (0)), .int (nI (k)), .int (1)]) (rest := []) rfl dL_lines_387 rfl ?_
      refine j_topeq (y := (S 0 k 0 10)) (if_pos rfl) ?_
      refine j_aload_n X dL_lines_390 rfl rfl (q := 5) rfl ?_
      refine j_iload X dL_lines_391 rfl (q := 4) rfl ?_
      refine j_iconst X dL_lines_393 rfl (v := 0) (by decide) ?_
      refine j_callQW X hSt hZ (w_set l Z S S h (nI (k)) false _ (c_X5_set l Z S h k (by omega) (pHasC_n hn hn4 hlt) false)) lk_RL_105 mt_L_set ini_RL mc_L_set md_L_set ⟨Nat.le_of_ble_eq_true rfl, Nat.le_of_ble_eq_true rfl⟩ ⟨Nat.le_of_ble_eq_true rfl, Nat.le_of_ble_eq_true rfl⟩ rfl (Nat.le_of_ble_eq_true rfl) (as := [.ref (zA Z (6) (0) (0)), .int (nI (k)), .int (0)]) (rest := [.int (S 0 k 0 10)]) rfl dL_lines_394 rfl ?_
      refine j_topeq (y := (S 0 k 0 9)) (if_neg Bool.false_ne_true) ?_
      refine j_iadd X dL_lines_397 rfl ?_
      refine j_if_ne_f X dL_lines_398 rfl (tgt := 451) (by decide) ((hCC k hlt).1 c_380) ?_
      refine j_aload_n X dL_lines_401 rfl rfl (q := 5) rfl ?_
      refine j_iload X dL_lines_402 rfl (q := 4) rfl ?_
      refine j_iconst X dL_lines_404 rfl (v := 1) (by decide) ?_
      refine j_callQW X hSt hZ (w_set l Z S S h (nI (k)) true _ (c_X5_set l Z S h k (by omega) (pHasC_n hn hn4 hlt) true)) lk_RL_105 mt_L_set ini_RL mc_L_set md_L_set ⟨Nat.le_of_ble_eq_true rfl, Nat.le_of_ble_eq_true rfl⟩ ⟨Nat.le_of_ble_eq_true rfl, Nat.le_of_ble_eq_true rfl⟩ rfl (Nat.le_of_ble_eq_true rfl) (as := [.ref (zA Z (6) (0) (0)), .int (nI (k)), .int (1)]) (rest := []) rfl dL_lines_405 rfl ?_
      refine j_topeq (y := (S 0 k 0 10)) (if_pos rfl) ?_
      refine j_callQ X hSt hZ (c_L_size l Z S h (S 0 k 0 10) (hCC k hlt).2.1) lk_RL_111 mt_L_size ini_RL mc_L_size md_L_size ⟨Nat.le_of_ble_eq_true rfl, Nat.le_of_ble_eq_true rfl⟩ ⟨Nat.le_of_ble_eq_true rfl, Nat.le_of_ble_eq_true rfl⟩ rfl (Nat.le_of_ble_eq_true rfl) (as := [.int (S 0 k 0 10)]) (rest := []) rfl dL_lines_408 rfl ?_
      refine j_aload_n X dL_lines_411 rfl rfl (q := 5) rfl ?_
      refine j_iconst X dL_lines_412 rfl (v := 2) (by decide) ?_
      refine j_callQW X hSt hZ (w_value l Z S S h (2) _ (c_X5_value l Z S h 2 (by decide) (ccn hn hn4))) lk_RL_97 mt_L_value ini_RL mc_L_value md_L_value ⟨Nat.le_of_ble_eq_true rfl, Nat.le_of_ble_eq_true rfl⟩ ⟨Nat.le_of_ble_eq_true rfl, Nat.le_of_ble_eq_true rfl⟩ rfl (Nat.le_of_ble_eq_true rfl) (as := [.ref (zA Z (6) (0) (0)), .int (2)]) (rest := [.int (kern 8 (S 0 k 0 10) 0)]) rfl dL_lines_413 rfl ?_
      refine j_icmp_gt_f X dL_lines_416 rfl (tgt := 451) (by decide) (hCC k hlt).2.2.1 ?_
      refine j_aload_n X dL_lines_419 rfl rfl (q := 5) rfl ?_
      refine j_iload X dL_lines_420 rfl (q := 4) rfl ?_
      refine j_iconst X dL_lines_422 rfl (v := 3) (by decide) ?_
      refine j_callQW X hSt hZ (w_core l Z S S h (nI (k)) (3) _ (c_X5_core l Z S h k (by omega) (pHasC_n hn hn4 hlt) 3 (by decide))) lk_RL_109 mt_L_core ini_RL mc_L_core md_L_core ⟨Nat.le_of_ble_eq_true rfl, Nat.le_of_ble_eq_true rfl⟩ ⟨Nat.le_of_ble_eq_true rfl, Nat.le_of_ble_eq_true rfl⟩ rfl (Nat.le_of_ble_eq_true rfl) (as := [.ref (zA Z (6) (0) (0)), .int (nI (k)), .int (3)]) (rest := []) rfl dL_lines_423 rfl ?_
      refine j_topeq (y := (S 0 k 0 5)) rfl ?_
      refine j_aload_n X dL_lines_426 rfl rfl (q := 5) rfl ?_
      refine j_iconst X dL_lines_427 rfl (v := 4) (by decide) ?_
      refine j_callQW X hSt hZ (w_value l Z S S h (4) _ (c_X5_value l Z S h 4 (by decide) (ccn hn hn4))) lk_RL_97 mt_L_value ini_RL mc_L_value md_L_value ⟨Nat.le_of_ble_eq_true rfl, Nat.le_of_ble_eq_true rfl⟩ ⟨Nat.le_of_ble_eq_true rfl, Nat.le_of_ble_eq_true rfl⟩ rfl (Nat.le_of_ble_eq_true rfl) (as := [.ref (zA Z (6) (0) (0)), .int (4)]) (rest := [.int (S 0 k 0 5)]) rfl dL_lines_428 rfl ?_
      refine j_icmp_ge_f X dL_lines_431 rfl (tgt := 451) (by decide) (hCC k hlt).2.2.2.1 ?_
      refine j_aload_n X dL_lines_434 rfl rfl (q := 5) rfl ?_
      refine j_iload X dL_lines_435 rfl (q := 4) rfl ?_
      refine j_iconst X dL_lines_437 rfl (v := 1) (by decide) ?_
      refine j_callQW X hSt hZ (w_core l Z S S h (nI (k)) (1) _ (c_X5_core l Z S h k (by omega) (pHasC_n hn hn4 hlt) 1 (by decide))) lk_RL_109 mt_L_core ini_RL mc_L_core md_L_core ⟨Nat.le_of_ble_eq_true rfl, Nat.le_of_ble_eq_true rfl⟩ ⟨Nat.le_of_ble_eq_true rfl, Nat.le_of_ble_eq_true rfl⟩ rfl (Nat.le_of_ble_eq_true rfl) (as := [.ref (zA Z (6) (0) (0)), .int (nI (k)), .int (1)]) (rest := []) rfl dL_lines_438 rfl ?_
      refine j_topeq (y := (S 0 k 0 3)) rfl ?_
      refine j_aload_n X dL_lines_441 rfl rfl (q := 5) rfl ?_
      refine j_iload X dL_lines_442 rfl (q := 4) rfl ?_
      refine j_iconst X dL_lines_444 rfl (v := 2) (by decide) ?_
      refine j_callQW X hSt hZ (w_core l Z S S h (nI (k)) (2) _ (c_X5_core l Z S h k (by omega) (pHasC_n hn hn4 hlt) 2 (by decide))) lk_RL_109 mt_L_core ini_RL mc_L_core md_L_core ⟨Nat.le_of_ble_eq_true rfl, Nat.le_of_ble_eq_true rfl⟩ ⟨Nat.le_of_ble_eq_true rfl, Nat.le_of_ble_eq_true rfl⟩ rfl (Nat.le_of_ble_eq_true rfl) (as := [.ref (zA Z (6) (0) (0)), .int (nI (k)), .int (2)]) (rest := [.int (S 0 k 0 3)]) rfl dL_lines_445 rfl ?_
      refine j_topeq (y := (S 0 k 3 2)) rfl ?_
      refine j_icmp_le_t X (tgt := 453) dL_lines_448 (by decide) (hCC k hlt).2.2.2.2 ?_
      refine j_iinc X dL_lines_453 rfl (q := 4) rfl (v := (nI (k + 1))) (nI_1 _) (by decide) (Ls2 := [(5, .int (nI (k + 1))), (4, .int ((b3) + bI (decide (S 0 k 0 3 = S 0 k 3 2)))), (3, .int ((b2) + (S 0 k 0 13))), (2, .int ((b1) + (S 0 k 0 14))), (6, .int (bI (!decide (S 0 k 0 5 < 0)))), (0, .ref (zA Z (6) (0) (0))), (1, .int (nI (nn)))]) rfl ?_
      refine j_goto X (tgt := 308) dL_lines_456 (by decide) ?_
      refine j_sub [0, 5, 6, 3, 2, 1] (Ls2 := [(5, .int (nI (k + 1))), (0, .ref (zA Z (6) (0) (0))), (1, .int (nI (nn))), (2, .int ((b1) + (S 0 k 0 14))), (3, .int ((b2) + (S 0 k 0 13))), (4, .int ((b3) + bI (decide (S 0 k 0 3 = S 0 k 3 2))))]) rfl ?_
      have eB : (coF S) k (b1, b2, b3) = (((b1) + (S 0 k 0 14)), ((b2) + (S 0 k 0 13)), ((b3) + bI (decide (S 0 k 0 3 = S 0 k 3 2)))) := by first | with_reducible rfl | (simp [coF, c_380]; done) | (simp_all [coF]; done) | rfl
      have eL : lp (coF S) (n + 1) k (b1, b2, b3) = lp (coF S) n (k + 1) (((b1) + (S 0 k 0 14)), ((b2) + (S 0 k 0 13)), ((b3) + bI (decide (S 0 k 0 3 = S 0 k 3 2)))) := congrArg (lp (coF S) n (k + 1)) eB
      rw [eL] at hk
      exact ih (k + 1) (((b1) + (S 0 k 0 14))) (((b2) + (S 0 k 0 13))) (((b3) + bI (decide (S 0 k 0 3 = S 0 k 3 2)))) (by omega) hk
set_option maxRecDepth 100000 in
set_option maxHeartbeats 4000000 in
theorem c_L_lines (l : Launch) (Z : wZ) (S : St) (h : Hl) (nn : Nat) (hn : S 0 4 0 4 = nI nn) (hn4 : nn ≤ 4) (hOK : ∀ k, k < 8 → lnC S nn k) (hCC : ∀ k, k < nn → coC S k) (Sa Sb : St) (rL rL2 : Int32) (hL1 : Cq l yL_logs (.code yL_logs cL_logs 12 (some .int)) 1 8 5 106 Z [.ref (zA Z 6 0 0)] S h rL Sa h) (hL2 : Cq l yL_logs (.code yL_logs cL_logs 12 (some .int)) 1 8 5 106 Z [.ref (zA Z 6 0 0)] Sa h rL2 Sb h) (hT : S 0 4 3 5 + S 0 4 3 6 = (coQ S nn).1 ∧ (coQ S nn).2.2 = pMFact S 0 3 ∧ ¬ (coQ S nn).2.1 < rL ∧ ¬ rL2 < 0) : Cq l yL_lines (.code yL_lines cL_lines 12 (some .boolean)) 2 16 6 137 Z [.ref (zA Z (6) (0) (0))] S h (1) (Sb) h := by
  refine Cq.of rfl rfl (by decide) (Nat.le_of_ble_eq_true rfl) (fun p e s mi args below meth c A0 Q X hSt hZ K => ?_)
  refine j_at rfl rfl (Ls3 := [(0, .ref (zA Z (6) (0) (0)))]) rfl rfl ?_
  refine j_aload_n X dL_lines_0 rfl rfl (q := 0) rfl ?_
  refine j_iconst X dL_lines_1 rfl (v := 0) (by decide) ?_
  refine j_callQW X hSt hZ (w_value l Z S S h (0) _ (c_X5_value l Z S h 0 (by decide) (ccn hn hn4))) lk_RL_97 mt_L_value ini_RL mc_L_value md_L_value ⟨Nat.le_of_ble_eq_true rfl, Nat.le_of_ble_eq_true rfl⟩ ⟨Nat.le_of_ble_eq_true rfl, Nat.le_of_ble_eq_true rfl⟩ rfl (Nat.le_of_ble_eq_true rfl) (as := [.ref (zA Z (6) (0) (0)), .int (0)]) (rest := []) rfl dL_lines_2 rfl ?_
  refine j_topeq (y := nI nn) hn ?_
  refine j_istore_n X dL_lines_5 rfl rfl (by decide) (Ls2 := [(1, .int (nI (nn))), (0, .ref (zA Z (6) (0) (0)))]) rfl ?_
  refine j_iconst X dL_lines_6 rfl (v := 0) (by decide) ?_
  refine j_istore_n X dL_lines_7 rfl rfl (by decide) (Ls2 := [(2, .int (0)), (1, .int (nI (nn))), (0, .ref (zA Z (6) (0) (0)))]) rfl ?_
  refine j_sub [0, 2, 1] (Ls2 := [(2, .int (0)), (0, .ref (zA Z (6) (0) (0))), (1, .int (nI (nn)))]) rfl ?_
  refine L_lnO l Z h S nn hn hn4 hOK X hSt hZ 8 0 (by omega) ?_
  refine j_iconst X dL_lines_298 rfl (v := 0) (by decide) ?_
  refine j_istore_n X dL_lines_299 rfl rfl (by decide) (Ls2 := [(2, .int (0)), (0, .ref (zA Z (6) (0) (0))), (1, .int (nI (nn)))]) rfl ?_
  refine j_iconst X dL_lines_300 rfl (v := 0) (by decide) ?_
  refine j_istore_n X dL_lines_301 rfl rfl (by decide) (Ls2 := [(3, .int (0)), (2, .int (0)), (0, .ref (zA Z (6) (0) (0))), (1, .int (nI (nn)))]) rfl ?_
  refine j_iconst X dL_lines_302 rfl (v := 0) (by decide) ?_
  refine j_istore X dL_lines_303 rfl (by decide) (Ls2 := [(4, .int (0)), (3, .int (0)), (2, .int (0)), (0, .ref (zA Z (6) (0) (0))), (1, .int (nI (nn)))]) rfl ?_
  refine j_iconst X dL_lines_305 rfl (v := 0) (by decide) ?_
  refine j_istore X dL_lines_306 rfl (by decide) (Ls2 := [(5, .int (0)), (4, .int (0)), (3, .int (0)), (2, .int (0)), (0, .ref (zA Z (6) (0) (0))), (1, .int (nI (nn)))]) rfl ?_
  refine j_sub [0, 4, 5, 3, 2, 1] (Ls2 := [(5, .int (0)), (0, .ref (zA Z (6) (0) (0))), (1, .int (nI (nn))), (2, .int (0)), (3, .int (0)), (4, .int (0))]) rfl ?_
  refine L_lnC l Z h S nn hn hn4 hCC X hSt hZ nn 0 ((0)) ((0)) ((0)) (by omega) ?_
  refine j_aload_n X dL_lines_459 rfl rfl (q := 0) rfl ?_
  refine j_iconst X dL_lines_460 rfl (v := 5) (by decide) ?_
  refine j_callQW X hSt hZ (w_counter l Z S S h (5) _ (c_X5_counter l Z S h 5 (by decide))) lk_RL_114 mt_L_counter ini_RL mc_L_counter md_L_counter ⟨Nat.le_of_ble_eq_true rfl, Nat.le_of_ble_eq_true rfl⟩ ⟨Nat.le_of_ble_eq_true rfl, Nat.le_of_ble_eq_true rfl⟩ rfl (Nat.le_of_ble_eq_true rfl) (as := [.ref (zA Z (6) (0) (0)), .int (5)]) (rest := []) rfl dL_lines_461 rfl ?_
  refine j_aload_n X dL_lines_464 rfl rfl (q := 0) rfl ?_
  refine j_bipush X dL_lines_465 rfl (v := 6) (by decide) ?_
  refine j_callQW X hSt hZ (w_counter l Z S S h (6) _ (c_X5_counter l Z S h 6 (by decide))) lk_RL_114 mt_L_counter ini_RL mc_L_counter md_L_counter ⟨Nat.le_of_ble_eq_true rfl, Nat.le_of_ble_eq_true rfl⟩ ⟨Nat.le_of_ble_eq_true rfl, Nat.le_of_ble_eq_true rfl⟩ rfl (Nat.le_of_ble_eq_true rfl) (as := [.ref (zA Z (6) (0) (0)), .int (6)]) (rest := [.int (S 0 4 3 5)]) rfl dL_lines_467 rfl ?_
  refine j_iadd X dL_lines_470 rfl ?_
  refine j_iload_n X dL_lines_471 rfl rfl (q := 1) rfl ?_
  refine j_icmp_ne_f X dL_lines_472 rfl (tgt := 504) (by decide) hT.1 ?_
  refine j_iload X dL_lines_475 rfl (q := 3) rfl ?_
  refine j_aload_n X dL_lines_477 rfl rfl (q := 0) rfl ?_
  refine j_iconst X dL_lines_478 rfl (v := 3) (by decide) ?_
  refine j_callQW X hSt hZ (w_value l Z S S h (3) _ (c_X5_value l Z S h 3 (by decide) (ccn hn hn4))) lk_RL_97 mt_L_value ini_RL mc_L_value md_L_value ⟨Nat.le_of_ble_eq_true rfl, Nat.le_of_ble_eq_true rfl⟩ ⟨Nat.le_of_ble_eq_true rfl, Nat.le_of_ble_eq_true rfl⟩ rfl (Nat.le_of_ble_eq_true rfl) (as := [.ref (zA Z (6) (0) (0)), .int (3)]) (rest := [.int ((lp (coF S) nn 0 ((0), (0), (0))).2.2)]) rfl dL_lines_479 rfl ?_
  refine j_icmp_ne_f X dL_lines_482 rfl (tgt := 504) (by decide) hT.2.1 ?_
  refine j_aload_n X dL_lines_485 rfl rfl (q := 0) rfl ?_
  refine j_callQ X hSt hZ hL1 lk_RL_116 mt_L_logs ini_RL mc_L_logs md_L_logs ⟨Nat.le_of_ble_eq_true rfl, Nat.le_of_ble_eq_true rfl⟩ ⟨Nat.le_of_ble_eq_true rfl, Nat.le_of_ble_eq_true rfl⟩ rfl (Nat.le_of_ble_eq_true rfl) (as := [.ref (zA Z (6) (0) (0))]) (rest := []) rfl dL_lines_486 rfl ?_
  refine j_name (fun S1 eS1 => ?_)
  refine j_iload_n X dL_lines_489 rfl rfl (q := 2) rfl ?_
  refine j_icmp_gt_f X dL_lines_490 rfl (tgt := 504) (by decide) hT.2.2.1 ?_
  refine j_aload_n X dL_lines_493 rfl rfl (q := 0) rfl ?_
  refine j_callQ X hSt hZ (by subst eS1; exact hL2) lk_RL_116 mt_L_logs ini_RL mc_L_logs md_L_logs ⟨Nat.le_of_ble_eq_true rfl, Nat.le_of_ble_eq_true rfl⟩ ⟨Nat.le_of_ble_eq_true rfl, Nat.le_of_ble_eq_true rfl⟩ rfl (Nat.le_of_ble_eq_true rfl) (as := [.ref (zA Z (6) (0) (0))]) (rest := []) rfl dL_lines_494 rfl ?_
  refine j_name (fun S2 eS2 => ?_)
  refine j_if_lt_f X dL_lines_497 rfl (tgt := 504) (by decide) hT.2.2.2 ?_
  refine j_iconst X dL_lines_500 rfl (v := 1) (by decide) ?_
  refine j_goto X (tgt := 505) dL_lines_501 (by decide) ?_
  refine j_widen (k2 := 2) (n2 := 16) (Nat.le_of_ble_eq_true rfl) (Nat.le_of_ble_eq_true rfl) ?_
  exact j_ret (by subst eS1; subst eS2; first | with_reducible rfl | (simp []; done) | (simp_all []; done) | rfl) (by subst eS1; subst eS2; first | with_reducible rfl | (simp []; done) | (simp_all []; done) | rfl) rfl (K _ _ dL_lines_505)

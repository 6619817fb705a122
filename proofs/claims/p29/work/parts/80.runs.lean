/-! the law's method runs -/
def smF (S : St) (l : Nat) (x : Int32) : Int32 := x + nI (l + 1) * pCom S 0 l
def smG (S : St) (l : Nat) (x : Int32) : Int32 := x - nI (l + 1) * pCom S 0 l
theorem sm_0 {S S' : St} (h : ∀ l, l < 8 → pCom S' 0 l = pCom S 0 l) : lp (smG S') 8 0 (lp (smF S) 8 0 0) = 0 := by
  simp only [lp, smF, smG, h 0 (by omega), h 1 (by omega), h 2 (by omega), h 3 (by omega), h 4 (by omega), h 5 (by omega), h 6 (by omega), h 7 (by omega)]
  generalize nI (0 + 1) * pCom S 0 0 = a0
  generalize nI (0 + 1 + 1) * pCom S 0 (0 + 1) = a1
  generalize nI (0 + 1 + 1 + 1) * pCom S 0 (0 + 1 + 1) = a2
  generalize nI (0 + 1 + 1 + 1 + 1) * pCom S 0 (0 + 1 + 1 + 1) = a3
  generalize nI (0 + 1 + 1 + 1 + 1 + 1) * pCom S 0 (0 + 1 + 1 + 1 + 1) = a4
  generalize nI (0 + 1 + 1 + 1 + 1 + 1 + 1) * pCom S 0 (0 + 1 + 1 + 1 + 1 + 1) = a5
  generalize nI (0 + 1 + 1 + 1 + 1 + 1 + 1 + 1) * pCom S 0 (0 + 1 + 1 + 1 + 1 + 1 + 1) = a6
  generalize nI (0 + 1 + 1 + 1 + 1 + 1 + 1 + 1 + 1) * pCom S 0 (0 + 1 + 1 + 1 + 1 + 1 + 1 + 1) = a7
  grind
set_option maxRecDepth 100000 in
set_option maxHeartbeats 4000000 in
theorem L_sm1 (l : Launch) (Z : wZ) (h : Hl) (S : St) (nn : Nat) (hn : S 0 4 0 4 = nI nn) (hn4 : nn ≤ 4) (x r1 r5 u8 : Int32) (ja jb jp : Nat) {p : Program} {e : Env} {s : State} {mi : MethodId} {args : Array Value} {below : List Frame} {meth : Method} {c : Code} {A0 : Nat → Prop} {Q : State → Prop} (X : JX p s mi args meth c cL_runs 11 RL Z A0) (hSt : hStr s) (hZ : hZq A0 s s.heap) : ∀ (n k : Nat) (b1 : Int32), k + n = 8 → J p l e { frames := 8, cells := 2, slots := 16, locals := 189 } s mi args below meth c 11 Z A0 0 0 Q (S) h [(9, .int ((lp (smF S) n k b1))), (0, .ref (zA Z (6) (0) (0))), (1, .int (x)), (2, .int (nI (ja))), (3, .int (nI (jb))), (4, .int (nI (jp))), (5, .int (r1)), (6, .int (1)), (7, .int (r5)), (8, .int (u8))] 125 [] → J p l e { frames := 8, cells := 2, slots := 16, locals := 189 } s mi args below meth c 11 Z A0 0 0 Q S h [(10, .int (nI (k))), (9, .int (b1)), (0, .ref (zA Z (6) (0) (0))), (1, .int (x)), (2, .int (nI (ja))), (3, .int (nI (jb))), (4, .int (nI (jp))), (5, .int (r1)), (6, .int (1)), (7, .int (r5)), (8, .int (u8))] 95 [] := by
  intro n
  induction n with
  | zero =>
    intro k b1 hkn hk
    have hkN : 8 = k := by omega
    subst hkN
    refine j_iload X dL_runs_95 rfl (q := 0) rfl ?_
    refine j_bipush X dL_runs_97 rfl (v := 8) (by decide) ?_
    refine j_icmp_ge_t X (tgt := 125) dL_runs_99 (by decide) (nI_le (Nat.le_refl _) (by decide)) ?_
    refine j_sub [1, 2, 3, 4, 5, 6, 7, 8, 9, 10] (Ls2 := [(9, .int (b1)), (0, .ref (zA Z (6) (0) (0))), (1, .int (x)), (2, .int (nI (ja))), (3, .int (nI (jb))), (4, .int (nI (jp))), (5, .int (r1)), (6, .int (1)), (7, .int (r5)), (8, .int (u8))]) rfl ?_
    exact hk
  | succ n ih =>
    intro k b1 hkn hk
    have hlt : k < 8 := by omega
    refine j_iload X dL_runs_95 rfl (q := 0) rfl ?_
    refine j_bipush X dL_runs_97 rfl (v := 8) (by decide) ?_
    refine j_icmp_ge_f X dL_runs_99 rfl (tgt := 125) (by decide) (nI_ge hlt (by decide)) ?_
    refine j_iload X dL_runs_102 rfl (q := 1) rfl ?_
    refine j_iload X dL_runs_104 rfl (q := 0) rfl ?_
    refine j_iconst X dL_runs_106 rfl (v := 1) (by decide) ?_
    refine j_iadd X dL_runs_107 rfl ?_
    refine j_topeq (y := nI (k + 1)) (nI_add k 1) ?_
    refine j_aload_n X dL_runs_108 rfl rfl (q := 2) rfl ?_
    refine j_iload X dL_runs_109 rfl (q := 0) rfl ?_
    refine j_iconst X dL_runs_111 rfl (v := 1) (by decide) ?_
    refine j_callQW X hSt hZ (w_memory l Z S S h (nI (k)) true _ (c_X5_memory l Z S h k hlt true (ccn hn hn4))) lk_RL_99 mt_L_memory ini_RL mc_L_memory md_L_memory ⟨Nat.le_of_ble_eq_true rfl, Nat.le_of_ble_eq_true rfl⟩ ⟨Nat.le_of_ble_eq_true rfl, Nat.le_of_ble_eq_true rfl⟩ rfl (Nat.le_of_ble_eq_true rfl) (as := [.ref (zA Z (6) (0) (0)), .int (nI (k)), .int (1)]) (rest := [.int (nI (k + 1)), .int (b1)]) rfl dL_runs_112 rfl ?_
    refine j_topeq (y := (pCom S 0 k)) (if_pos rfl) ?_
    refine j_imul X dL_runs_115 rfl ?_
    refine j_iadd X dL_runs_116 rfl ?_
    refine j_istore X dL_runs_117 rfl (by decide) (Ls2 := [(9, .int ((b1) + ((nI (k + 1)) * (pCom S 0 k)))), (10, .int (nI (k))), (0, .ref (zA Z (6) (0) (0))), (1, .int (x)), (2, .int (nI (ja))), (3, .int (nI (jb))), (4, .int (nI (jp))), (5, .int (r1)), (6, .int (1)), (7, .int (r5)), (8, .int (u8))]) rfl ?_
    refine j_iinc X dL_runs_119 rfl (q := 1) rfl (v := (nI (k + 1))) (nI_1 _) (by decide) (Ls2 := [(10, .int (nI (k + 1))), (9, .int ((b1) + ((nI (k + 1)) * (pCom S 0 k)))), (0, .ref (zA Z (6) (0) (0))), (1, .int (x)), (2, .int (nI (ja))), (3, .int (nI (jb))), (4, .int (nI (jp))), (5, .int (r1)), (6, .int (1)), (7, .int (r5)), (8, .int (u8))]) rfl ?_
    refine j_goto X (tgt := 95) dL_runs_122 (by decide) ?_
    refine j_sub [0, 1, 2, 3, 4, 5, 6, 7, 8, 9, 10] (Ls2 := [(10, .int (nI (k + 1))), (9, .int ((b1) + ((nI (k + 1)) * (pCom S 0 k)))), (0, .ref (zA Z (6) (0) (0))), (1, .int (x)), (2, .int (nI (ja))), (3, .int (nI (jb))), (4, .int (nI (jp))), (5, .int (r1)), (6, .int (1)), (7, .int (r5)), (8, .int (u8))]) rfl ?_
    have eB : (smF S) k b1 = ((b1) + ((nI (k + 1)) * (pCom S 0 k))) := by first | with_reducible rfl | (simp [smF]; done) | (simp_all [smF]; done) | rfl
    have eL : lp (smF S) (n + 1) k b1 = lp (smF S) n (k + 1) ((b1) + ((nI (k + 1)) * (pCom S 0 k))) := congrArg (lp (smF S) n (k + 1)) eB
    rw [eL] at hk
    exact ih (k + 1) (((b1) + ((nI (k + 1)) * (pCom S 0 k)))) (by omega) hk
set_option maxRecDepth 100000 in
set_option maxHeartbeats 4000000 in
theorem L_sm2 (l : Launch) (Z : wZ) (h : Hl) (S : St) (nn : Nat) (hn : S 0 4 0 4 = nI nn) (hn4 : nn ≤ 4) (x r1 r5 u8 : Int32) (ja jb jp : Nat) {p : Program} {e : Env} {s : State} {mi : MethodId} {args : Array Value} {below : List Frame} {meth : Method} {c : Code} {A0 : Nat → Prop} {Q : State → Prop} (X : JX p s mi args meth c cL_runs 11 RL Z A0) (hSt : hStr s) (hZ : hZq A0 s s.heap) : ∀ (n k : Nat) (b1 : Int32), k + n = 8 → J p l e { frames := 8, cells := 2, slots := 16, locals := 189 } s mi args below meth c 11 Z A0 2 16 Q (S) h [(9, .int ((lp (smG S) n k b1)))] 209 [] → J p l e { frames := 8, cells := 2, slots := 16, locals := 189 } s mi args below meth c 11 Z A0 2 16 Q S h [(10, .int (nI (k))), (9, .int (b1)), (0, .ref (zA Z (6) (0) (0))), (1, .int (x)), (2, .int (nI (ja))), (3, .int (nI (jb))), (4, .int (nI (jp))), (5, .int (r1)), (6, .int (1)), (7, .int (r5)), (8, .int (u8))] 179 [] := by
  intro n
  induction n with
  | zero =>
    intro k b1 hkn hk
    have hkN : 8 = k := by omega
    subst hkN
    refine j_iload X dL_runs_179 rfl (q := 0) rfl ?_
    refine j_bipush X dL_runs_181 rfl (v := 8) (by decide) ?_
    refine j_icmp_ge_t X (tgt := 209) dL_runs_183 (by decide) (nI_le (Nat.le_refl _) (by decide)) ?_
    refine j_sub [1] (Ls2 := [(9, .int (b1))]) rfl ?_
    exact hk
  | succ n ih =>
    intro k b1 hkn hk
    have hlt : k < 8 := by omega
    refine j_iload X dL_runs_179 rfl (q := 0) rfl ?_
    refine j_bipush X dL_runs_181 rfl (v := 8) (by decide) ?_
    refine j_icmp_ge_f X dL_runs_183 rfl (tgt := 209) (by decide) (nI_ge hlt (by decide)) ?_
    refine j_iload X dL_runs_186 rfl (q := 1) rfl ?_
    refine j_iload X dL_runs_188 rfl (q := 0) rfl ?_
    refine j_iconst X dL_runs_190 rfl (v := 1) (by decide) ?_
    refine j_iadd X dL_runs_191 rfl ?_
    refine j_topeq (y := nI (k + 1)) (nI_add k 1) ?_
    refine j_aload_n X dL_runs_192 rfl rfl (q := 2) rfl ?_
    refine j_iload X dL_runs_193 rfl (q := 0) rfl ?_
    refine j_iconst X dL_runs_195 rfl (v := 1) (by decide) ?_
    refine j_callQW X hSt hZ (w_memory l Z S S h (nI (k)) true _ (c_X5_memory l Z S h k hlt true (ccn hn hn4))) lk_RL_99 mt_L_memory ini_RL mc_L_memory md_L_memory ⟨Nat.le_of_ble_eq_true rfl, Nat.le_of_ble_eq_true rfl⟩ ⟨Nat.le_of_ble_eq_true rfl, Nat.le_of_ble_eq_true rfl⟩ rfl (Nat.le_of_ble_eq_true rfl) (as := [.ref (zA Z (6) (0) (0)), .int (nI (k)), .int (1)]) (rest := [.int (nI (k + 1)), .int (b1)]) rfl dL_runs_196 rfl ?_
    refine j_topeq (y := (pCom S 0 k)) (if_pos rfl) ?_
    refine j_imul X dL_runs_199 rfl ?_
    refine j_isub X dL_runs_200 rfl ?_
    refine j_istore X dL_runs_201 rfl (by decide) (Ls2 := [(9, .int ((b1) - ((nI (k + 1)) * (pCom S 0 k)))), (10, .int (nI (k))), (0, .ref (zA Z (6) (0) (0))), (1, .int (x)), (2, .int (nI (ja))), (3, .int (nI (jb))), (4, .int (nI (jp))), (5, .int (r1)), (6, .int (1)), (7, .int (r5)), (8, .int (u8))]) rfl ?_
    refine j_iinc X dL_runs_203 rfl (q := 1) rfl (v := (nI (k + 1))) (nI_1 _) (by decide) (Ls2 := [(10, .int (nI (k + 1))), (9, .int ((b1) - ((nI (k + 1)) * (pCom S 0 k)))), (0, .ref (zA Z (6) (0) (0))), (1, .int (x)), (2, .int (nI (ja))), (3, .int (nI (jb))), (4, .int (nI (jp))), (5, .int (r1)), (6, .int (1)), (7, .int (r5)), (8, .int (u8))]) rfl ?_
    refine j_goto X (tgt := 179) dL_runs_206 (by decide) ?_
    refine j_sub [0, 1, 2, 3, 4, 5, 6, 7, 8, 9, 10] (Ls2 := [(10, .int (nI (k + 1))), (9, .int ((b1) - ((nI (k + 1)) * (pCom S 0 k)))), (0, .ref (zA Z (6) (0) (0))), (1, .int (x)), (2, .int (nI (ja))), (3, .int (nI (jb))), (4, .int (nI (jp))), (5, .int (r1)), (6, .int (1)), (7, .int (r5)), (8, .int (u8))]) rfl ?_
    have eB : (smG S) k b1 = ((b1) - ((nI (k + 1)) * (pCom S 0 k))) := by first | with_reducible rfl | (simp [smG]; done) | (simp_all [smG]; done) | rfl
    have eL : lp (smG S) (n + 1) k b1 = lp (smG S) n (k + 1) ((b1) - ((nI (k + 1)) * (pCom S 0 k))) := congrArg (lp (smG S) n (k + 1)) eB
    rw [eL] at hk
    exact ih (k + 1) (((b1) - ((nI (k + 1)) * (pCom S 0 k)))) (by omega) hk
set_option maxRecDepth 100000 in
set_option maxHeartbeats 4000000 in
theorem c_L_runs (l : Launch) (Z : wZ) (S : St) (h : Hl) (x : Int32) (ja jb jp : Nat) (hja : pLow x 20 = nI ja) (hjb : pLow (x >>> (5 &&& 31)) 20 = nI jb) (hjp : pLow (x >>> (10 &&& 31)) 3 = nI jp) (S1 S2 S3 S4 S5 S6 S7 S8 S9 : St) (r1 r2 r3 r4 r5 r7 r8 r9 : Int32) (hA1 : Cq l yL_abortsWith (.codeWith yL_abortsWith cL_abortsWith 4 (some .int) [(0, 6, 7, 15)]) 0 0 7 166 Z [.ref (zA Z 6 0 0), .int (nI jp), .int (nI ja)] S h r1 S1 h) (hA2 : Cq l yL_abortsWith (.codeWith yL_abortsWith cL_abortsWith 4 (some .int) [(0, 6, 7, 15)]) 0 0 7 166 Z [.ref (zA Z 6 0 0), .int (nI jp), .int (nI (ja + jb))] S1 h r2 S2 h) (hA3 : Cq l yL_abortsWith (.codeWith yL_abortsWith cL_abortsWith 4 (some .int) [(0, 6, 7, 15)]) 0 0 7 166 Z [.ref (zA Z 6 0 0), .int (nI jp), .int (0)] S2 h r3 S3 h) (hR4 : Cq l yL_run (.codeWith yL_run cL_run 3 (some .int) [(0, 5, 6, 15)]) 0 0 7 164 Z [.ref (zA Z 6 0 0), .int (nI ja)] S3 h r4 S4 h) (hR5 : Cq l yL_run (.codeWith yL_run cL_run 3 (some .int) [(0, 5, 6, 15)]) 0 0 7 164 Z [.ref (zA Z 6 0 0), .int (nI jb)] S4 h r5 S5 h) (hL6 : Cq l yL_lines (.code yL_lines cL_lines 12 (some .boolean)) 2 16 6 137 Z [.ref (zA Z 6 0 0)] S5 h 1 S6 h) (hU7 : Cq l yL_undo (.codeWith yL_undo cL_undo 2 (some .int) [(0, 4, 5, 28)]) 0 0 5 102 Z [.ref (zA Z 6 0 0)] S6 h r7 S7 h) (hU8 : Cq l yL_undo (.codeWith yL_undo cL_undo 2 (some .int) [(0, 4, 5, 28)]) 0 0 5 102 Z [.ref (zA Z 6 0 0)] S7 h r8 S8 h) (hR9 : Cq l yL_run (.codeWith yL_run cL_run 3 (some .int) [(0, 5, 6, 15)]) 0 0 7 164 Z [.ref (zA Z 6 0 0), .int (nI (ja + jb))] S8 h r9 S9 h) (c1 : ¬ r2 < r1) (c3 : r3 = 0) (c4 : ¬ r4 < 0) (c7 : ¬ r7 < 0) (c8 : ¬ r8 < 0) (c9 : r9 = r5) (c10 : S9 0 4 3 7 = S5 0 4 3 7) (nn : Nat) (hn4 : nn ≤ 4) (hn5 : S5 0 4 0 4 = nI nn) (hn9 : S9 0 4 0 4 = nI nn) (hM : ∀ l, l < 8 → pCom S9 0 l = pCom S5 0 l) : Cq l yL_runs (.code yL_runs cL_runs 11 (some .boolean)) 2 16 8 189 Z [.ref (zA Z (6) (0) (0)), .int (x)] S h (1) (S9) h := by
  refine Cq.of rfl rfl (by decide) (Nat.le_of_ble_eq_true rfl) (fun p e s mi args below meth c A0 Q X hSt hZ K => ?_)
  refine j_at rfl rfl (Ls3 := [(0, .ref (zA Z (6) (0) (0))), (1, .int (x))]) rfl rfl ?_
  refine j_iload_n X dL_runs_0 rfl rfl (q := 1) rfl ?_
  refine j_bipush X dL_runs_1 rfl (v := 20) (by decide) ?_
  refine j_callQ X hSt hZ (c_L_low l Z S h (x) (20) (by decide)) lk_RL_89 mt_L_low ini_RL mc_L_low md_L_low ⟨Nat.le_of_ble_eq_true rfl, Nat.le_of_ble_eq_true rfl⟩ ⟨Nat.le_of_ble_eq_true rfl, Nat.le_of_ble_eq_true rfl⟩ rfl (Nat.le_of_ble_eq_true rfl) (as := [.int (x), .int (20)]) (rest := []) rfl dL_runs_3 rfl ?_
  refine j_topeq (y := (nI (ja))) hja ?_
  refine j_istore_n X dL_runs_6 rfl rfl (by decide) (Ls2 := [(2, .int (nI (ja))), (0, .ref (zA Z (6) (0) (0))), (1, .int (x))]) rfl ?_
  refine j_iload_n X dL_runs_7 rfl rfl (q := 2) rfl ?_
  refine j_iconst X dL_runs_8 rfl (v := 5) (by decide) ?_
  refine j_ishr X dL_runs_9 rfl ?_
  refine j_bipush X dL_runs_10 rfl (v := 20) (by decide) ?_
  refine j_callQ X hSt hZ (c_L_low l Z S h ((x) >>> ((5) &&& 31)) (20) (by decide)) lk_RL_89 mt_L_low ini_RL mc_L_low md_L_low ⟨Nat.le_of_ble_eq_true rfl, Nat.le_of_ble_eq_true rfl⟩ ⟨Nat.le_of_ble_eq_true rfl, Nat.le_of_ble_eq_true rfl⟩ rfl (Nat.le_of_ble_eq_true rfl) (as := [.int ((x) >>> ((5) &&& 31)), .int (20)]) (rest := []) rfl dL_runs_12 rfl ?_
  refine j_topeq (y := (nI (jb))) hjb ?_
  refine j_istore_n X dL_runs_15 rfl rfl (by decide) (Ls2 := [(3, .int (nI (jb))), (2, .int (nI (ja))), (0, .ref (zA Z (6) (0) (0))), (1, .int (x))]) rfl ?_
  refine j_iload_n X dL_runs_16 rfl rfl (q := 3) rfl ?_
  refine j_bipush X dL_runs_17 rfl (v := 10) (by decide) ?_
  refine j_ishr X dL_runs_19 rfl ?_
  refine j_iconst X dL_runs_20 rfl (v := 3) (by decide) ?_
  refine j_callQ X hSt hZ (c_L_low l Z S h ((x) >>> ((10) &&& 31)) (3) (by decide)) lk_RL_89 mt_L_low ini_RL mc_L_low md_L_low ⟨Nat.le_of_ble_eq_true rfl, Nat.le_of_ble_eq_true rfl⟩ ⟨Nat.le_of_ble_eq_true rfl, Nat.le_of_ble_eq_true rfl⟩ rfl (Nat.le_of_ble_eq_true rfl) (as := [.int ((x) >>> ((10) &&& 31)), .int (3)]) (rest := []) rfl dL_runs_21 rfl ?_
  refine j_topeq (y := (nI (jp))) hjp ?_
  refine j_istore X dL_runs_24 rfl (by decide) (Ls2 := [(4, .int (nI (jp))), (3, .int (nI (jb))), (2, .int (nI (ja))), (0, .ref (zA Z (6) (0) (0))), (1, .int (x))]) rfl ?_
  refine j_aload_n X dL_runs_26 rfl rfl (q := 3) rfl ?_
  refine j_iload X dL_runs_27 rfl (q := 0) rfl ?_
  refine j_iload_n X dL_runs_29 rfl rfl (q := 2) rfl ?_
  refine j_callQW X hSt hZ hA1 lk_RL_155 mt_L_abortsWith ini_RL mc_L_abortsWith md_L_abortsWith ⟨Nat.le_of_ble_eq_true rfl, Nat.le_of_ble_eq_true rfl⟩ ⟨Nat.le_of_ble_eq_true rfl, Nat.le_of_ble_eq_true rfl⟩ rfl (Nat.le_of_ble_eq_true rfl) (as := [.ref (zA Z (6) (0) (0)), .int (nI (jp)), .int (nI (ja))]) (rest := []) rfl dL_runs_30 rfl ?_
  refine j_istore X dL_runs_33 rfl (by decide) (Ls2 := [(5, .int (r1)), (4, .int (nI (jp))), (3, .int (nI (jb))), (2, .int (nI (ja))), (0, .ref (zA Z (6) (0) (0))), (1, .int (x))]) rfl ?_
  refine j_iload X dL_runs_35 rfl (q := 0) rfl ?_
  refine j_aload_n X dL_runs_37 rfl rfl (q := 4) rfl ?_
  refine j_iload X dL_runs_38 rfl (q := 1) rfl ?_
  refine j_iload_n X dL_runs_40 rfl rfl (q := 3) rfl ?_
  refine j_iload_n X dL_runs_41 rfl rfl (q := 2) rfl ?_
  refine j_iadd X dL_runs_42 rfl ?_
  refine j_topeq (y := nI (ja + jb)) (nI_add ja jb) ?_
  refine j_callQW X hSt hZ hA2 lk_RL_155 mt_L_abortsWith ini_RL mc_L_abortsWith md_L_abortsWith ⟨Nat.le_of_ble_eq_true rfl, Nat.le_of_ble_eq_true rfl⟩ ⟨Nat.le_of_ble_eq_true rfl, Nat.le_of_ble_eq_true rfl⟩ rfl (Nat.le_of_ble_eq_true rfl) (as := [.ref (zA Z (6) (0) (0)), .int (nI (jp)), .int (nI (ja + jb))]) (rest := [.int (r1)]) rfl dL_runs_43 rfl ?_
  refine j_icmp_gt_f X dL_runs_46 rfl (tgt := 71) (by decide) c1 ?_
  refine j_aload_n X dL_runs_49 rfl rfl (q := 4) rfl ?_
  refine j_iload X dL_runs_50 rfl (q := 1) rfl ?_
  refine j_iconst X dL_runs_52 rfl (v := 0) (by decide) ?_
  refine j_callQW X hSt hZ hA3 lk_RL_155 mt_L_abortsWith ini_RL mc_L_abortsWith md_L_abortsWith ⟨Nat.le_of_ble_eq_true rfl, Nat.le_of_ble_eq_true rfl⟩ ⟨Nat.le_of_ble_eq_true rfl, Nat.le_of_ble_eq_true rfl⟩ rfl (Nat.le_of_ble_eq_true rfl) (as := [.ref (zA Z (6) (0) (0)), .int (nI (jp)), .int (0)]) (rest := []) rfl dL_runs_53 rfl ?_
  refine j_if_ne_f X dL_runs_56 rfl (tgt := 71) (by decide) c3 ?_
  refine j_aload_n X dL_runs_59 rfl rfl (q := 4) rfl ?_
  refine j_iload_n X dL_runs_60 rfl rfl (q := 3) rfl ?_
  refine j_callQW X hSt hZ hR4 lk_RL_149 mt_L_run ini_RL mc_L_run md_L_run ⟨Nat.le_of_ble_eq_true rfl, Nat.le_of_ble_eq_true rfl⟩ ⟨Nat.le_of_ble_eq_true rfl, Nat.le_of_ble_eq_true rfl⟩ rfl (Nat.le_of_ble_eq_true rfl) (as := [.ref (zA Z (6) (0) (0)), .int (nI (ja))]) (rest := []) rfl dL_runs_61 rfl ?_
  refine j_if_lt_f X dL_runs_64 rfl (tgt := 71) (by decide) c4 ?_
  refine j_iconst X dL_runs_67 rfl (v := 1) (by decide) ?_
  refine j_goto X (tgt := 72) dL_runs_68 (by decide) ?_
  refine j_istore X dL_runs_72 rfl (by decide) (Ls2 := [(6, .int (1)), (5, .int (r1)), (4, .int (nI (jp))), (3, .int (nI (jb))), (2, .int (nI (ja))), (0, .ref (zA Z (6) (0) (0))), (1, .int (x))]) rfl ?_
  refine j_aload_n X dL_runs_74 rfl rfl (q := 5) rfl ?_
  refine j_iload_n X dL_runs_75 rfl rfl (q := 3) rfl ?_
  refine j_callQW X hSt hZ hR5 lk_RL_149 mt_L_run ini_RL mc_L_run md_L_run ⟨Nat.le_of_ble_eq_true rfl, Nat.le_of_ble_eq_true rfl⟩ ⟨Nat.le_of_ble_eq_true rfl, Nat.le_of_ble_eq_true rfl⟩ rfl (Nat.le_of_ble_eq_true rfl) (as := [.ref (zA Z (6) (0) (0)), .int (nI (jb))]) (rest := []) rfl dL_runs_76 rfl ?_
  refine j_istore X dL_runs_79 rfl (by decide) (Ls2 := [(7, .int (r5)), (6, .int (1)), (5, .int (r1)), (4, .int (nI (jp))), (3, .int (nI (jb))), (2, .int (nI (ja))), (0, .ref (zA Z (6) (0) (0))), (1, .int (x))]) rfl ?_
  refine j_aload_n X dL_runs_81 rfl rfl (q := 6) rfl ?_
  refine j_bipush X dL_runs_82 rfl (v := 7) (by decide) ?_
  refine j_callQW X hSt hZ (w_counter l Z S5 S5 h (7) _ (c_X5_counter l Z S5 h 7 (by decide))) lk_RL_114 mt_L_counter ini_RL mc_L_counter md_L_counter ⟨Nat.le_of_ble_eq_true rfl, Nat.le_of_ble_eq_true rfl⟩ ⟨Nat.le_of_ble_eq_true rfl, Nat.le_of_ble_eq_true rfl⟩ rfl (Nat.le_of_ble_eq_true rfl) (as := [.ref (zA Z (6) (0) (0)), .int (7)]) (rest := []) rfl dL_runs_84 rfl ?_
  refine j_istore X dL_runs_87 rfl (by decide) (Ls2 := [(8, .int (S5 0 4 3 7)), (7, .int (r5)), (6, .int (1)), (5, .int (r1)), (4, .int (nI (jp))), (3, .int (nI (jb))), (2, .int (nI (ja))), (0, .ref (zA Z (6) (0) (0))), (1, .int (x))]) rfl ?_
  refine j_iconst X dL_runs_89 rfl (v := 0) (by decide) ?_
  refine j_istore X dL_runs_90 rfl (by decide) (Ls2 := [(9, .int (0)), (8, .int (S5 0 4 3 7)), (7, .int (r5)), (6, .int (1)), (5, .int (r1)), (4, .int (nI (jp))), (3, .int (nI (jb))), (2, .int (nI (ja))), (0, .ref (zA Z (6) (0) (0))), (1, .int (x))]) rfl ?_
  refine j_iconst X dL_runs_92 rfl (v := 0) (by decide) ?_
  refine j_istore X dL_runs_93 rfl (by decide) (Ls2 := [(10, .int (0)), (9, .int (0)), (8, .int (S5 0 4 3 7)), (7, .int (r5)), (6, .int (1)), (5, .int (r1)), (4, .int (nI (jp))), (3, .int (nI (jb))), (2, .int (nI (ja))), (0, .ref (zA Z (6) (0) (0))), (1, .int (x))]) rfl ?_
  refine j_sub [0, 1, 9, 10, 8, 7, 6, 5, 4, 3, 2] (Ls2 := [(10, .int (0)), (9, .int (0)), (0, .ref (zA Z (6) (0) (0))), (1, .int (x)), (2, .int (nI (ja))), (3, .int (nI (jb))), (4, .int (nI (jp))), (5, .int (r1)), (6, .int (1)), (7, .int (r5)), (8, .int (S5 0 4 3 7))]) rfl ?_
  refine L_sm1 l Z h S5 nn hn5 hn4 x r1 r5 (S5 0 4 3 7) ja jb jp X hSt hZ 8 0 ((0)) (by omega) ?_
  refine j_iload X dL_runs_125 rfl (q := 7) rfl ?_
  refine j_if_eq_f X dL_runs_127 rfl (tgt := 174) (by decide) (by decide) ?_
  refine j_aload_n X dL_runs_130 rfl rfl (q := 1) rfl ?_
  refine j_callQ X hSt hZ hL6 lk_RL_157 mt_L_lines ini_RL mc_L_lines md_L_lines ⟨Nat.le_of_ble_eq_true rfl, Nat.le_of_ble_eq_true rfl⟩ ⟨Nat.le_of_ble_eq_true rfl, Nat.le_of_ble_eq_true rfl⟩ rfl (Nat.le_of_ble_eq_true rfl) (as := [.ref (zA Z (6) (0) (0))]) (rest := []) rfl dL_runs_131 rfl ?_
  refine j_if_eq_f X dL_runs_134 rfl (tgt := 174) (by decide) (by decide) ?_
  refine j_aload_n X dL_runs_137 rfl rfl (q := 1) rfl ?_
  refine j_callQW X hSt hZ hU7 lk_RL_161 mt_L_undo ini_RL mc_L_undo md_L_undo ⟨Nat.le_of_ble_eq_true rfl, Nat.le_of_ble_eq_true rfl⟩ ⟨Nat.le_of_ble_eq_true rfl, Nat.le_of_ble_eq_true rfl⟩ rfl (Nat.le_of_ble_eq_true rfl) (as := [.ref (zA Z (6) (0) (0))]) (rest := []) rfl dL_runs_138 rfl ?_
  refine j_if_lt_f X dL_runs_141 rfl (tgt := 174) (by decide) c7 ?_
  refine j_aload_n X dL_runs_144 rfl rfl (q := 1) rfl ?_
  refine j_callQW X hSt hZ hU8 lk_RL_161 mt_L_undo ini_RL mc_L_undo md_L_undo ⟨Nat.le_of_ble_eq_true rfl, Nat.le_of_ble_eq_true rfl⟩ ⟨Nat.le_of_ble_eq_true rfl, Nat.le_of_ble_eq_true rfl⟩ rfl (Nat.le_of_ble_eq_true rfl) (as := [.ref (zA Z (6) (0) (0))]) (rest := []) rfl dL_runs_145 rfl ?_
  refine j_if_lt_f X dL_runs_148 rfl (tgt := 174) (by decide) c8 ?_
  refine j_aload_n X dL_runs_151 rfl rfl (q := 1) rfl ?_
  refine j_iload_n X dL_runs_152 rfl rfl (q := 3) rfl ?_
  refine j_iload_n X dL_runs_153 rfl rfl (q := 4) rfl ?_
  refine j_iadd X dL_runs_154 rfl ?_
  refine j_topeq (y := nI (ja + jb)) (nI_add ja jb) ?_
  refine j_callQW X hSt hZ hR9 lk_RL_149 mt_L_run ini_RL mc_L_run md_L_run ⟨Nat.le_of_ble_eq_true rfl, Nat.le_of_ble_eq_true rfl⟩ ⟨Nat.le_of_ble_eq_true rfl, Nat.le_of_ble_eq_true rfl⟩ rfl (Nat.le_of_ble_eq_true rfl) (as := [.ref (zA Z (6) (0) (0)), .int (nI (ja + jb))]) (rest := []) rfl dL_runs_155 rfl ?_
  refine j_iload X dL_runs_158 rfl (q := 8) rfl ?_
  refine j_icmp_ne_f X dL_runs_160 rfl (tgt := 174) (by decide) c9 ?_
  refine j_aload_n X dL_runs_163 rfl rfl (q := 1) rfl ?_
  refine j_bipush X dL_runs_164 rfl (v := 7) (by decide) ?_
  refine j_callQW X hSt hZ (w_counter l Z S9 S9 h (7) _ (c_X5_counter l Z S9 h 7 (by decide))) lk_RL_114 mt_L_counter ini_RL mc_L_counter md_L_counter ⟨Nat.le_of_ble_eq_true rfl, Nat.le_of_ble_eq_true rfl⟩ ⟨Nat.le_of_ble_eq_true rfl, Nat.le_of_ble_eq_true rfl⟩ rfl (Nat.le_of_ble_eq_true rfl) (as := [.ref (zA Z (6) (0) (0)), .int (7)]) (rest := []) rfl dL_runs_166 rfl ?_
  refine j_iload X dL_runs_169 rfl (q := 9) rfl ?_
  refine j_icmp_eq_t X (tgt := 176) dL_runs_171 (by decide) c10 ?_
  refine j_iconst X dL_runs_176 rfl (v := 0) (by decide) ?_
  refine j_istore X dL_runs_177 rfl (by decide) (Ls2 := [(10, .int (0)), (9, .int ((lp (smF S5) 8 0 (0)))), (0, .ref (zA Z (6) (0) (0))), (1, .int (x)), (2, .int (nI (ja))), (3, .int (nI (jb))), (4, .int (nI (jp))), (5, .int (r1)), (6, .int (1)), (7, .int (r5)), (8, .int (S5 0 4 3 7))]) rfl ?_
  refine j_sub [0, 1, 2, 3, 4, 5, 6, 7, 8, 9, 10] (Ls2 := [(10, .int (0)), (9, .int ((lp (smF S5) 8 0 (0)))), (0, .ref (zA Z (6) (0) (0))), (1, .int (x)), (2, .int (nI (ja))), (3, .int (nI (jb))), (4, .int (nI (jp))), (5, .int (r1)), (6, .int (1)), (7, .int (r5)), (8, .int (S5 0 4 3 7))]) rfl ?_
  refine L_sm2 l Z h S9 nn hn9 hn4 x r1 r5 (S5 0 4 3 7) ja jb jp X hSt hZ 8 0 (((lp (smF S5) 8 0 (0)))) (by omega) ?_
  refine j_iload X dL_runs_209 rfl (q := 0) rfl ?_
  refine j_if_ne_f X dL_runs_211 rfl (tgt := 218) (by decide) (sm_0 hM) ?_
  refine j_iconst X dL_runs_214 rfl (v := 1) (by decide) ?_
  refine j_goto X (tgt := 219) dL_runs_215 (by decide) ?_
  refine j_widen (k2 := 2) (n2 := 16) (Nat.le_of_ble_eq_true rfl) (Nat.le_of_ble_eq_true rfl) ?_
  exact j_ret (by first | with_reducible rfl | (simp []; done) | (simp_all []; done) | rfl) (by first | with_reducible rfl | (simp []; done) | (simp_all []; done) | rfl) rfl (K _ _ dL_runs_219)

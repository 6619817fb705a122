/-! the reference's constructor, and the law up to its loop -/
set_option maxRecDepth 100000 in
set_option maxHeartbeats 4000000 in
theorem c_X6_init (l : Launch) (Z : wZ) (B : Nat) (hO : zO Z = false) (hz : ∀ m g i, zA Z m g i = B + ix m g i) : Met l yX6_init (.code yX6_init cX6_init 1 none :: wsL_law) { frames := 3, cells := 9, slots := 40624, locals := 69 } (PcN Z [.ref (B + 242)] B (E5 Z B ++ [.inr (6, dX6)])) (va_Qv (fun _ : Unit => True) (fun _ t => va_P (zG Z) vwCl (ws Z (rClear S0 2 0 4) h0) t.heap) (fun q => B ≤ q)) 9 40624 (fun q => B ≤ q) := by
  refine Met.ofW (cc := cX6_init) (maxL := 1) (ret := none) rfl rfl ?_
  intro p e s m args below meth c s₁ B0 hml hv
  obtain ⟨rfl, hW, hK, hN, hA⟩ := hv
  have hts := atoms_spec (ws := .code yX6_init cX6_init 1 none :: wsL_law) B0.pre
  have hown : s.vm.findClass RX6 = some m.cls := findClass_of_methodNamed B0.named
  have hlocks := B0.notSynchronized
  have hin : meth.name = "<init>" := (name_of_methodNamed B0.named B0.method).1
  have hl := lv_entry [.ref (B + 242)] (n := 1) (Nat.le_of_ble_eq_true rfl)
  rw [lg_entry_eq]
  have X : NX p s m [Value.ref (B + 242)].toArray meth c cX6_init 1 RX6 Z B (E5 Z B) (B + 242) := ⟨B0.exec, B0.bytes, hml, hown, fun w hw => hts w (List.mem_cons_of_mem _ hw), hN, hK, hA, by rw [E5_len]⟩
  have JXX : JX p s m [Value.ref (B + 242)].toArray meth c cX6_init 1 RX6 Z (fun q => B ≤ q) := ⟨X.1, X.2.1, X.2.2.1, X.2.2.2.1, X.2.2.2.2.1, X.2.2.2.2.2.1, X.2.2.2.2.2.2.1, lay_D hO hz, fun q hq => by have := hW.1; show B ≤ q; omega⟩
  refine (show NJ p l e { frames := 3, cells := 9, slots := 40624, locals := 69 } s m _ below meth c 1 Z B 0 0 _ (E5 Z B) [.inr (6, dX6)] [(0, .ref (B + 242))] 0 [] from ?_) s.heap [] _ hW rfl va_S.rf hl
  refine n_at rfl rfl rfl (Ls2 := [(0, .ref (B + 242 + 0))]) rfl rfl ?_
  refine n_aload_n X dX6_init_0 rfl rfl (q := 0) rfl ?_
  refine n_objInit X lk_RX6_1 (List.mem_of_getElem? (i := 11) (by decide +kernel)) (List.mem_of_getElem? (i := 12) (by decide +kernel)) (Nat.le_of_ble_eq_true rfl) (Nat.le_of_ble_eq_true rfl) dX6_init_1 rfl ?_
  refine n_aload_n X dX6_init_4 rfl rfl (q := 0) rfl ?_
  refine n_sipush X dX6_init_5 rfl (v := 8006) (by decide) ?_
  refine n_topeq (y := nI (8006)) (by decide) ?_
  refine n_newI X (N := 8006) (k := 1) (Nat.le_of_ble_eq_true rfl) (List.mem_of_getElem? (i := 13) (by decide +kernel)) (Nat.le_of_ble_eq_true rfl) (Nat.le_of_ble_eq_true rfl) dX6_init_8 rfl rfl ?_
  refine n_putF X (j := 0) (fs := _) inlX6 tyX6 tyX6_ok nmX6 rfl rfl 0 (by decide) lk_RX6_7 rfl rfl hin rfl rfl rfl rfl (Nat.le_of_ble_eq_true rfl) (Es2 := ([.inr (6, [.ref (B + 242 + 1), .null, .null, .null, .null, .int 0, .null, .int 0, .int 0, .int 0, .int 0, .int 0, .null, .int 0, .null, .null, .long 0])] ++ [eI Z (8006) (fun _ => 0)])) rfl dX6_init_10 rfl ?_
  refine n_aload_n X dX6_init_13 rfl rfl (q := 0) rfl ?_
  refine n_sipush X dX6_init_14 rfl (v := 8006) (by decide) ?_
  refine n_topeq (y := nI (8006)) (by decide) ?_
  refine n_newI X (N := 8006) (k := 2) (Nat.le_of_ble_eq_true rfl) (List.mem_of_getElem? (i := 13) (by decide +kernel)) (Nat.le_of_ble_eq_true rfl) (Nat.le_of_ble_eq_true rfl) dX6_init_17 rfl rfl ?_
  refine n_putF X (j := 0) (fs := _) inlX6 tyX6 tyX6_ok nmX6 rfl rfl 1 (by decide) lk_RX6_13 rfl rfl hin rfl rfl rfl rfl (Nat.le_of_ble_eq_true rfl) (Es2 := (([.inr (6, [.ref (B + 242 + 1), .ref (B + 242 + 2), .null, .null, .null, .int 0, .null, .int 0, .int 0, .int 0, .int 0, .int 0, .null, .int 0, .null, .null, .long 0])] ++ [eI Z (8006) (fun _ => 0)]) ++ [eI Z (8006) (fun _ => 0)])) rfl dX6_init_19 rfl ?_
  refine n_aload_n X dX6_init_22 rfl rfl (q := 0) rfl ?_
  refine n_sipush X dX6_init_23 rfl (v := 8006) (by decide) ?_
  refine n_topeq (y := nI (8006)) (by decide) ?_
  refine n_newI X (N := 8006) (k := 3) (Nat.le_of_ble_eq_true rfl) (List.mem_of_getElem? (i := 13) (by decide +kernel)) (Nat.le_of_ble_eq_true rfl) (Nat.le_of_ble_eq_true rfl) dX6_init_26 rfl rfl ?_
  refine n_putF X (j := 0) (fs := _) inlX6 tyX6 tyX6_ok nmX6 rfl rfl 2 (by decide) lk_RX6_16 rfl rfl hin rfl rfl rfl rfl (Nat.le_of_ble_eq_true rfl) (Es2 := ((([.inr (6, [.ref (B + 242 + 1), .ref (B + 242 + 2), .ref (B + 242 + 3), .null, .null, .int 0, .null, .int 0, .int 0, .int 0, .int 0, .int 0, .null, .int 0, .null, .null, .long 0])] ++ [eI Z (8006) (fun _ => 0)]) ++ [eI Z (8006) (fun _ => 0)]) ++ [eI Z (8006) (fun _ => 0)])) rfl dX6_init_28 rfl ?_
  refine n_aload_n X dX6_init_31 rfl rfl (q := 0) rfl ?_
  refine n_sipush X dX6_init_32 rfl (v := 8006) (by decide) ?_
  refine n_topeq (y := nI (8006)) (by decide) ?_
  refine n_newI X (N := 8006) (k := 4) (Nat.le_of_ble_eq_true rfl) (List.mem_of_getElem? (i := 13) (by decide +kernel)) (Nat.le_of_ble_eq_true rfl) (Nat.le_of_ble_eq_true rfl) dX6_init_35 rfl rfl ?_
  refine n_putF X (j := 0) (fs := _) inlX6 tyX6 tyX6_ok nmX6 rfl rfl 3 (by decide) lk_RX6_19 rfl rfl hin rfl rfl rfl rfl (Nat.le_of_ble_eq_true rfl) (Es2 := (((([.inr (6, [.ref (B + 242 + 1), .ref (B + 242 + 2), .ref (B + 242 + 3), .ref (B + 242 + 4), .null, .int 0, .null, .int 0, .int 0, .int 0, .int 0, .int 0, .null, .int 0, .null, .null, .long 0])] ++ [eI Z (8006) (fun _ => 0)]) ++ [eI Z (8006) (fun _ => 0)]) ++ [eI Z (8006) (fun _ => 0)]) ++ [eI Z (8006) (fun _ => 0)])) rfl dX6_init_37 rfl ?_
  refine n_aload_n X dX6_init_40 rfl rfl (q := 0) rfl ?_
  refine n_sipush X dX6_init_41 rfl (v := 8006) (by decide) ?_
  refine n_topeq (y := nI (8006)) (by decide) ?_
  refine n_newI X (N := 8006) (k := 5) (Nat.le_of_ble_eq_true rfl) (List.mem_of_getElem? (i := 13) (by decide +kernel)) (Nat.le_of_ble_eq_true rfl) (Nat.le_of_ble_eq_true rfl) dX6_init_44 rfl rfl ?_
  refine n_putF X (j := 0) (fs := _) inlX6 tyX6 tyX6_ok nmX6 rfl rfl 4 (by decide) lk_RX6_22 rfl rfl hin rfl rfl rfl rfl (Nat.le_of_ble_eq_true rfl) (Es2 := ((((([.inr (6, [.ref (B + 242 + 1), .ref (B + 242 + 2), .ref (B + 242 + 3), .ref (B + 242 + 4), .ref (B + 242 + 5), .int 0, .null, .int 0, .int 0, .int 0, .int 0, .int 0, .null, .int 0, .null, .null, .long 0])] ++ [eI Z (8006) (fun _ => 0)]) ++ [eI Z (8006) (fun _ => 0)]) ++ [eI Z (8006) (fun _ => 0)]) ++ [eI Z (8006) (fun _ => 0)]) ++ [eI Z (8006) (fun _ => 0)])) rfl dX6_init_46 rfl ?_
  refine n_aload_n X dX6_init_49 rfl rfl (q := 0) rfl ?_
  refine n_bipush X dX6_init_50 rfl (v := 120) (by decide) ?_
  refine n_topeq (y := nI (120)) (by decide) ?_
  refine n_newI X (N := 120) (k := 6) (Nat.le_of_ble_eq_true rfl) (List.mem_of_getElem? (i := 13) (by decide +kernel)) (Nat.le_of_ble_eq_true rfl) (Nat.le_of_ble_eq_true rfl) dX6_init_52 rfl rfl ?_
  refine n_putF X (j := 0) (fs := _) inlX6 tyX6 tyX6_ok nmX6 rfl rfl 6 (by decide) lk_RX6_25 rfl rfl hin rfl rfl rfl rfl (Nat.le_of_ble_eq_true rfl) (Es2 := (((((([.inr (6, [.ref (B + 242 + 1), .ref (B + 242 + 2), .ref (B + 242 + 3), .ref (B + 242 + 4), .ref (B + 242 + 5), .int 0, .ref (B + 242 + 6), .int 0, .int 0, .int 0, .int 0, .int 0, .null, .int 0, .null, .null, .long 0])] ++ [eI Z (8006) (fun _ => 0)]) ++ [eI Z (8006) (fun _ => 0)]) ++ [eI Z (8006) (fun _ => 0)]) ++ [eI Z (8006) (fun _ => 0)]) ++ [eI Z (8006) (fun _ => 0)]) ++ [eI Z (120) (fun _ => 0)])) rfl dX6_init_54 rfl ?_
  refine n_aload_n X dX6_init_57 rfl rfl (q := 0) rfl ?_
  refine n_bipush X dX6_init_58 rfl (v := 60) (by decide) ?_
  refine n_topeq (y := nI (60)) (by decide) ?_
  refine n_newI X (N := 60) (k := 7) (Nat.le_of_ble_eq_true rfl) (List.mem_of_getElem? (i := 13) (by decide +kernel)) (Nat.le_of_ble_eq_true rfl) (Nat.le_of_ble_eq_true rfl) dX6_init_60 rfl rfl ?_
  refine n_putF X (j := 0) (fs := _) inlX6 tyX6 tyX6_ok nmX6 rfl rfl 12 (by decide) lk_RX6_28 rfl rfl hin rfl rfl rfl rfl (Nat.le_of_ble_eq_true rfl) (Es2 := ((((((([.inr (6, [.ref (B + 242 + 1), .ref (B + 242 + 2), .ref (B + 242 + 3), .ref (B + 242 + 4), .ref (B + 242 + 5), .int 0, .ref (B + 242 + 6), .int 0, .int 0, .int 0, .int 0, .int 0, .ref (B + 242 + 7), .int 0, .null, .null, .long 0])] ++ [eI Z (8006) (fun _ => 0)]) ++ [eI Z (8006) (fun _ => 0)]) ++ [eI Z (8006) (fun _ => 0)]) ++ [eI Z (8006) (fun _ => 0)]) ++ [eI Z (8006) (fun _ => 0)]) ++ [eI Z (120) (fun _ => 0)]) ++ [eI Z (60) (fun _ => 0)])) rfl dX6_init_62 rfl ?_
  refine n_aload_n X dX6_init_65 rfl rfl (q := 0) rfl ?_
  refine n_bipush X dX6_init_66 rfl (v := 8) (by decide) ?_
  refine n_topeq (y := nI (8)) (by decide) ?_
  refine n_newI X (N := 8) (k := 8) (Nat.le_of_ble_eq_true rfl) (List.mem_of_getElem? (i := 13) (by decide +kernel)) (Nat.le_of_ble_eq_true rfl) (Nat.le_of_ble_eq_true rfl) dX6_init_68 rfl rfl ?_
  refine n_putF X (j := 0) (fs := _) inlX6 tyX6 tyX6_ok nmX6 rfl rfl 14 (by decide) lk_RX6_31 rfl rfl hin rfl rfl rfl rfl (Nat.le_of_ble_eq_true rfl) (Es2 := (((((((([.inr (6, [.ref (B + 242 + 1), .ref (B + 242 + 2), .ref (B + 242 + 3), .ref (B + 242 + 4), .ref (B + 242 + 5), .int 0, .ref (B + 242 + 6), .int 0, .int 0, .int 0, .int 0, .int 0, .ref (B + 242 + 7), .int 0, .ref (B + 242 + 8), .null, .long 0])] ++ [eI Z (8006) (fun _ => 0)]) ++ [eI Z (8006) (fun _ => 0)]) ++ [eI Z (8006) (fun _ => 0)]) ++ [eI Z (8006) (fun _ => 0)]) ++ [eI Z (8006) (fun _ => 0)]) ++ [eI Z (120) (fun _ => 0)]) ++ [eI Z (60) (fun _ => 0)]) ++ [eI Z (8) (fun _ => 0)])) rfl dX6_init_70 rfl ?_
  refine n_aload_n X dX6_init_73 rfl rfl (q := 0) rfl ?_
  refine n_sipush X dX6_init_74 rfl (v := 406) (by decide) ?_
  refine n_topeq (y := nI (406)) (by decide) ?_
  refine n_newI X (N := 406) (k := 9) (Nat.le_of_ble_eq_true rfl) (List.mem_of_getElem? (i := 13) (by decide +kernel)) (Nat.le_of_ble_eq_true rfl) (Nat.le_of_ble_eq_true rfl) dX6_init_77 rfl rfl ?_
  refine n_putF X (j := 0) (fs := _) inlX6 tyX6 tyX6_ok nmX6 rfl rfl 15 (by decide) lk_RX6_34 rfl rfl hin rfl rfl rfl rfl (Nat.le_of_ble_eq_true rfl) (Es2 := ((((((((([.inr (6, [.ref (B + 242 + 1), .ref (B + 242 + 2), .ref (B + 242 + 3), .ref (B + 242 + 4), .ref (B + 242 + 5), .int 0, .ref (B + 242 + 6), .int 0, .int 0, .int 0, .int 0, .int 0, .ref (B + 242 + 7), .int 0, .ref (B + 242 + 8), .ref (B + 242 + 9), .long 0])] ++ [eI Z (8006) (fun _ => 0)]) ++ [eI Z (8006) (fun _ => 0)]) ++ [eI Z (8006) (fun _ => 0)]) ++ [eI Z (8006) (fun _ => 0)]) ++ [eI Z (8006) (fun _ => 0)]) ++ [eI Z (120) (fun _ => 0)]) ++ [eI Z (60) (fun _ => 0)]) ++ [eI Z (8) (fun _ => 0)]) ++ [eI Z (406) (fun _ => 0)])) rfl dX6_init_79 rfl ?_
  refine n_aload_n X dX6_init_82 rfl rfl (q := 0) rfl ?_
  refine n_get X (j := 0) inlX6 rfl rfl 0 (by decide) lk_RX6_7 rfl (v := .ref (B + 242 + 1)) rfl dX6_init_83 rfl ?_
  refine n_iconst X dX6_init_86 rfl (v := 3) (by decide) ?_
  refine n_iconst X dX6_init_87 rfl (v := 1) (by decide) ?_
  refine n_at rfl rfl rfl rfl (st2 := [.int (1), .int (nI 3), .ref (B + 242 + 1)]) rfl ?_
  refine n_iast X (j := 1) (i := 3) rfl (by decide) (by decide) (Es2 := ((((((((([.inr (6, [.ref (B + 242 + 1), .ref (B + 242 + 2), .ref (B + 242 + 3), .ref (B + 242 + 4), .ref (B + 242 + 5), .int 0, .ref (B + 242 + 6), .int 0, .int 0, .int 0, .int 0, .int 0, .ref (B + 242 + 7), .int 0, .ref (B + 242 + 8), .ref (B + 242 + 9), .long 0])] ++ [eI Z (8006) (upd (fun _ => 0) 3 1)]) ++ [eI Z (8006) (fun _ => 0)]) ++ [eI Z (8006) (fun _ => 0)]) ++ [eI Z (8006) (fun _ => 0)]) ++ [eI Z (8006) (fun _ => 0)]) ++ [eI Z (120) (fun _ => 0)]) ++ [eI Z (60) (fun _ => 0)]) ++ [eI Z (8) (fun _ => 0)]) ++ [eI Z (406) (fun _ => 0)])) rfl dX6_init_88 rfl ?_
  refine n_aload_n X dX6_init_89 rfl rfl (q := 0) rfl ?_
  refine n_iconst X dX6_init_90 rfl (v := 2) (by decide) ?_
  refine n_iconst X dX6_init_91 rfl (v := 0) (by decide) ?_
  refine n_iconst X dX6_init_92 rfl (v := 4) (by decide) ?_
  refine n_at (k2 := 9) (n2 := 40624) (Es2 := E6 Z (B + 242)) rfl rfl rfl rfl rfl ?_
  intro H locs ls hW2 hcz2 hS2 hl2
  refine (j_callv JXX (c_X6_clear l Z S0 h0 2 0 4) (wm_ref (by decide)) ((fun _ => rfl) _) rfl lk_RX6_37 mi_X6_clear ms_X6_clear ini_RX6 mc_X6_clear md_X6_clear ⟨Nat.le_of_ble_eq_true rfl, Nat.le_of_ble_eq_true rfl⟩ ⟨Nat.le_of_ble_eq_true rfl, Nat.le_of_ble_eq_true rfl⟩ rfl (Nat.le_of_ble_eq_true rfl) (as := [.int 2, .int 0, .int 4]) (rest := []) (by rw [hz 7 0 0]; rfl) dX6_init_93 rfl (fun H3 locs3 ls3 hP3 hS3 hl3 => ?_)) H locs ls (conv hO hz hW2) hS2 hl2
  exact W.vret B0.exec B0.bytes B0.returns (fun t ht hW => ⟨⟨(), rfl, trivial, (show va_P (zG Z) vwCl (ws Z (rClear S0 2 0 4) h0) t.heap by rw [ht]; exact hP3)⟩, hS3.F ht⟩) hS3.2.2 dX6_init_96
/-- the same world, with the law's row at q -/
def zW (Z : wZ) (q : Nat) : wZ := (zG Z, Z.2.1, true, fun m g i => if m = 8 ∧ g = 0 then q else zA Z m g i)
theorem zW_A {Z : wZ} {q m g i : Nat} (h : ¬ (m = 8 ∧ g = 0)) : zA (zW Z q) m g i = zA Z m g i := by show (if m = 8 ∧ g = 0 then q else zA Z m g i) = _; rw [if_neg h]
theorem zW_E {Z : wZ} {q m g i : Nat} {h : Hl} {r : Nat → Int32} (hm : m < 8) : wE (zW Z q) h m g i r = wE Z h m g i r := by
  have z : ∀ g i, zA (zW Z q) m g i = zA Z m g i := fun g i => zW_A (by omega)
  have z7 : ∀ i, zA (zW Z q) 7 0 i = zA Z 7 0 i := fun i => zW_A (by omega)
  have z6 : ∀ i, zA (zW Z q) 6 0 i = zA Z 6 0 i := fun i => zW_A (by omega)
  have z4 : ∀ m, zA (zW Z q) m 4 0 = zA Z m 4 0 := fun m => zW_A (by omega)
  unfold wE
  by_cases h6 : m < 6
  · rw [if_pos h6, if_pos h6]
    by_cases h4 : g < 4
    · rw [if_pos h4, if_pos h4]
      unfold cE
      split
      · unfold eCore; simp only [z]
      · rfl
      · rfl
      · unfold eProg; simp only [z]
      · rfl
      · rfl
      · rfl
    · rw [if_neg h4, if_neg h4]
      unfold mE
      split
      · unfold eMach; simp only [z]
      · simp only [z]; rfl
      · rfl
      · rfl
      · unfold eLog; simp only [z]
      all_goals rfl
  · rw [if_neg h6, if_neg h6]
    by_cases h66 : m = 6
    · rw [if_pos h66, if_pos h66]
      unfold tE
      split
      · unfold eTop; simp only [z6, z4]
      · rfl
      · unfold eRead; simp only [z6]
      · unfold eProg; simp only [z6]
      · rfl
      · rfl
      · simp only [z4]; rfl
      · rfl
    · rw [if_neg h66, if_neg h66, if_pos (by omega), if_pos (by omega)]
      unfold rE
      split
      · unfold eModel; simp only [z7]
      all_goals rfl
theorem zW_ws {Z : wZ} {q : Nat} (hO : zO Z = false) (S : St) (h : Hl) : ws (zW Z q) S h = ws Z S h ++ [(q, oE Z h)] := by
  have e1 : wPl (zW Z q) = wPl Z ++ [(8, 0, 0)] := by
    rw [wPl_n hO]
    unfold wPl
    rw [if_pos (show zO (zW Z q) = true from rfl)]
    simp only [List.append_assoc, List.append_nil]
  unfold ws
  rw [e1, List.map_append]
  have h2 : ∀ {a b c d : va_W}, a = b → c = d → a ++ c = b ++ d := fun h1 h2 => by rw [h1, h2]
  refine h2 (List.map_congr_left (fun r hr => ?_)) rfl
  rw [wPl_n hO] at hr
  have hr8 : r.1 < 8 := by rcases wPl_f _ hr with ⟨hm, -⟩ | ⟨hm, -⟩ | ⟨hm, -⟩ <;> omega
  rw [zW_A (by omega), zW_E hr8]
set_option maxRecDepth 100000 in
set_option maxHeartbeats 4000000 in
theorem law_begin {p : Program} {l : Launch} {e : Env} {s : State} {m : MethodId} {args : Array Value} {below : List Frame} {meth : Method} {c : Code} {Z : wZ} {B b : Nat} {Q : State → Prop} (X : NX p s m args meth c cL_law 7 RL Z B [] B) (hB : s.heap.size = B) (hO : zO Z = false) (hz : ∀ m g i, zA Z m g i = B + ix m g i)
    (K : ∀ q : Nat, JX p s m args meth c cL_law 7 RL (zW Z q) (fun x => B ≤ x) → J p l e room_1 s m args below meth c 7 (zW Z q) (fun x => B ≤ x) 253 83522 Q (rClear S0 2 0 4) h0 [(0, .ref b), (1, .ref (zA (zW Z q) 6 0 0)), (2, .ref (zA (zW Z q) 7 0 0)), (3, .ref (zA (zW Z q) 8 0 0)), (4, .int (nI 0))] 23 []) : NJ p l e room_1 s m args below meth c 7 Z B 0 0 Q [] [] [(0, .ref b)] 0 [] := by
  have J0 : JX p s m args meth c cL_law 7 RL Z (fun q => B ≤ q) := ⟨X.1, X.2.1, X.2.2.1, X.2.2.2.1, X.2.2.2.2.1, X.2.2.2.2.2.1, X.2.2.2.2.2.2.1, lay_D hO hz, fun q hq => by show B ≤ q; omega⟩
  refine n_new X (k := 0) (ci := 5) (fs := dX5) (C := RX5) (T := TX5) (N := 9) inlX5 tyX5 tyX5_ok (List.mem_of_getElem? (i := 0) (by decide +kernel)) (List.mem_of_getElem? (i := 1) (by decide +kernel)) ini_RX5 rfl dX5_ok (Nat.le_of_ble_eq_true rfl) (Nat.le_of_ble_eq_true rfl) dL_law_0 rfl rfl ?_
  refine n_dup X dL_law_3 rfl rfl ?_
  refine n_callI X (k := 0) (c_X5_init l Z (B + 0)) rfl lk_RL_84 mi_X5_init ini_RX5 mc_X5_init ⟨by decide +kernel, by decide +kernel, by decide +kernel⟩ (na := 0) ⟨Nat.le_of_ble_eq_true rfl, Nat.le_of_ble_eq_true rfl⟩ ⟨Nat.le_of_ble_eq_true rfl, Nat.le_of_ble_eq_true rfl⟩ rfl (Nat.le_of_ble_eq_true rfl) (as := []) (rest := [.ref (B + 0)]) rfl rfl (E5_len Z _) dL_law_4 rfl ?_
  refine n_at (Es2 := E5 Z B) rfl rfl rfl rfl (st2 := [.ref B]) rfl ?_
  refine n_astore_n X dL_law_7 rfl rfl (by decide) (Ls2 := [(1, .ref B), (0, .ref b)]) rfl ?_
  refine n_new X (k := 242) (ci := 6) (fs := dX6) (C := RX6) (T := TX6) (N := 17) inlX6 tyX6 tyX6_ok (List.mem_of_getElem? (i := 3) (by decide +kernel)) (List.mem_of_getElem? (i := 4) (by decide +kernel)) ini_RX6 rfl dX6_ok (Nat.le_of_ble_eq_true rfl) (Nat.le_of_ble_eq_true rfl) dL_law_8 rfl (E5_len Z _) ?_
  refine n_dup X dL_law_11 rfl rfl ?_
  intro H locs ls hW hcz hS hl
  have hts := X.2.2.2.2.1
  refine va_callv (va_runI (As := []) (rest := [.ref (B + 242)]) ⟨X.1, X.2.1, X.2.2.1, X.2.2.2.1, X.2.2.2.2.1⟩ (c_X6_init l Z B hO hz) (cwI 0 X.2.2.2.2.1 (gd (fun w hw => ?_)) rfl rfl rfl (hts _ ini_RX6) (hts _ lk_RL_87) (hts _ mi_X6_init) rfl ⟨by decide +kernel, by decide +kernel, by decide +kernel⟩ ⟨Nat.le_of_ble_eq_true rfl, Nat.le_of_ble_eq_true rfl⟩) ⟨PcN.blind, fun U hU hW1 => ⟨rfl, by rw [hU]; exact hW, va_K.moved hW1.alike X.2.2.2.2.2.2.1, X.2.2.2.2.2.1.warm hW1, hAO.moved hW1.alike X.2.2.2.2.2.2.2.1⟩⟩ rfl rfl hl.1 rfl (lv_room (Nat.le_of_ble_eq_true rfl)) dL_law_12 ⟨Nat.le_of_ble_eq_true rfl, Nat.le_of_ble_eq_true rfl⟩) hS (fun q _ hq => hq) (fun q hq => hq) (fun u t H1 locs1 ht hvm hr1 hB1 hz1 hk1 hS1 => ?_)
  · simp only [List.mem_cons] at hw
    rcases hw with rfl | hw
    · exact mc_X6_init
    · assumption
  rw [ht] at hB1
  refine (j_astore_n J0 dL_law_15 rfl rfl (by decide) (Ls2 := [(2, .ref (B + 242)), (1, .ref B), (0, .ref b)]) rfl (j_iconst J0 dL_law_16 rfl (v := 1) (by decide) (fun H2 locs2 ls2 hP2 hS2 hl2 => ?_)) : J p l e room_1 s m args below meth c 7 Z (fun q => B ≤ q) _ _ Q (rClear S0 2 0 4) h0 [(1, .ref B), (0, .ref b)] 15 [.ref (B + 242)]) H1 locs1 ls hB1 hS1 hl
  refine va_newa (A := fun q => B ≤ q) (H0 := s.heap) (atype := .long) (ty := .long) (a0 := (1, .inr (.inl (fun _ => 0)))) X.1 X.2.1 (hts _ (List.mem_of_getElem? (i := 6) (by decide +kernel))) rfl X.2.2.2.2.2.2.1 hP2 (lay_D hO hz _ _) hS2 (fun q hq => by show B ≤ q; omega) (fun cA => rfl) (by decide) (by decide) (by decide) (Nat.le_of_ble_eq_true rfl) (Nat.le_of_ble_eq_true rfl) dL_law_17 (fun q cA H3 hK3 hP3 hD3 hS3 => ?_)
  have hcA : cA = zJ Z := by
    have h1 := (hK3.2 4 (cA, .long) rfl).2
    have h2 := (X.2.2.2.2.2.2.1.2 3 (zJ Z, .long) rfl).2
    exact Option.some.inj (h1.symm.trans h2)
  subst hcA
  have hP4 : va_P (zG (zW Z q)) vwCl (ws (zW Z q) (rClear S0 2 0 4) h0) H3 := by rw [zW_ws hO]; exact hP3
  have hD4 : va_D (fun x => B ≤ x) (ws (zW Z q) (rClear S0 2 0 4) h0) := by rw [zW_ws hO]; exact hD3
  have J1 : JX p s m args meth c cL_law 7 RL (zW Z q) (fun x => B ≤ x) := ⟨X.1, X.2.1, X.2.2.1, X.2.2.2.1, X.2.2.2.2.1, X.2.2.2.2.2.1, X.2.2.2.2.2.2.1, fun S h => ws_D hD4, fun x hx => by show B ≤ x; omega⟩
  have k1 := K q J1
  refine (j_astore_n J1 dL_law_19 rfl rfl (by decide) (Ls2 := [(3, .ref q), (2, .ref (B + 242)), (1, .ref B), (0, .ref b)]) rfl (j_iconst J1 dL_law_20 rfl (v := 0) (by decide) (j_topeq (y := nI 0) (by decide) (j_istore J1 dL_law_21 rfl (by decide) (Ls2 := [(4, .int (nI 0)), (3, .ref q), (2, .ref (B + 242)), (1, .ref B), (0, .ref b)]) rfl (j_sub [4, 3, 2, 1, 0] (Ls2 := [(0, .ref b), (1, .ref B), (2, .ref (B + 242)), (3, .ref q), (4, .int (nI 0))]) rfl (j_at rfl rfl (Ls3 := [(0, .ref b), (1, .ref (zA (zW Z q) 6 0 0)), (2, .ref (zA (zW Z q) 7 0 0)), (3, .ref (zA (zW Z q) 8 0 0)), (4, .int (nI 0))]) ?_ rfl k1))))) : J p l e room_1 s m args below meth c 7 (zW Z q) (fun x => B ≤ x) _ _ Q (rClear S0 2 0 4) h0 [(2, .ref (B + 242)), (1, .ref B), (0, .ref b)] 19 [.ref q]) H3 locs2 ls2 hP4 hS3 hl2
  rw [zW_A (by omega), zW_A (by omega), hz 6 0 0, hz 7 0 0]
  rfl

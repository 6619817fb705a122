/-! what there is -/
theorem q_state {S T : St} {N a j : Nat} {A : Int32} (h : rel S 0 T N A) (ha : a < 4) (hj : j < 8) : rOf T a (20 + j) = S 0 a 1 j ∧ rOf T a (28 + j) = pCached S a j := by
  obtain ⟨-, -, -, -, hV, -, -⟩ := h.2.2.1 a ha
  obtain ⟨v1, v2, v3, -⟩ := hV j hj
  exact ⟨v1.symm, v3⟩
theorem q_set {S T : St} {N a : Nat} {A : Int32} (h : rel S 0 T N A) (ha : a < 4) (w : Bool) : rOf T a (if w = true then 8 else 7) = (if w = true then S 0 a 0 10 else S 0 a 0 9) := by
  obtain ⟨-, -, ⟨b9, b10, -⟩, -⟩ := h.2.2.1 a ha
  cases w
  · exact b9.symm
  · exact b10.symm
theorem q_core {S T : St} {N a k : Nat} {A : Int32} (h : rel S 0 T N A) (ha : a < 4) (hk : k < 6) : rCoreO T a k = pCFact S 0 a k := by
  obtain ⟨⟨q0, q1, q2, q3, q4⟩, h1, -⟩ := h.2.2.1 a ha
  have hk' : k = 0 ∨ k = 1 ∨ k = 2 ∨ k = 3 ∨ k = 4 ∨ k = 5 := by omega
  rcases hk' with rfl | rfl | rfl | rfl | rfl | rfl
  · exact q0.symm
  · exact q1.symm
  · exact q2.symm
  · show (if rOf T a 3 = 1 then rOf T a 4 else -1) = S 0 a 0 5
    have hi := act_iff h1
    by_cases z : S 0 a 0 5 = -1
    · rw [hi.2.mpr z, if_neg (by decide), z]
    · rw [if_pos (hi.1.mpr z), h1.2, if_neg z]
  · exact q3.symm
  · exact q4.symm
theorem q_value {S T : St} {N k : Nat} {A : Int32} (h : rel S 0 T N A) (hk : k < 5) : rValO T k = pMFact S 0 k := by
  have hk' : k = 0 ∨ k = 1 ∨ k = 2 ∨ k = 3 ∨ k = 4 := by omega
  rcases hk' with rfl | rfl | rfl | rfl | rfl
  · exact (h.1.1 0 (by omega)).symm
  · exact (h.1.1 1 (by omega)).symm
  · exact (h.1.1 2 (by omega)).symm
  · exact (finC_rel h).1.symm
  · exact (h.1.1 4 (by omega)).symm
theorem mem_no {S T : St} {N j : Nat} {A : Int32} (h : rel S 0 T N A) (hj : j < 8) (w : Bool) : ∀ n k v, k + n ≤ 4 → (∀ i, k ≤ i → i < k + n → S 0 i 1 j ≠ 2) → lp (rMemF T j w) n k v = v
  | 0, _, _, _, _ => rfl
  | n + 1, k, v, hk, hn => by
    have e : rMemF T j w k v = v := by
      unfold rMemF
      rw [if_neg (by rw [(q_state h (by omega) hj).1]; exact hn k (Nat.le_refl _) (by omega))]
    rw [lp, e]
    exact mem_no h hj w n (k + 1) v (by omega) (fun i h1 h2 => hn i (by omega) (by omega))
theorem mem_com {S T : St} {N j : Nat} {A : Int32} (h : rel S 0 T N A) (hj : j < 8) : ∀ n k v r, k + n = pCC S 0 → ((lpE (pComF S 0 j) n k r).1 = true → lp (rMemF T j true) n k v = v) ∧ ((lpE (pComF S 0 j) n k r).1 = false → lp (rMemF T j true) n k v = (lpE (pComF S 0 j) n k r).2)
  | 0, _, _, _, _ => ⟨fun _ => rfl, fun z => absurd z (by show ¬ true = false; decide)⟩
  | n + 1, k, v, r, hk => by
    obtain ⟨hc, hc4⟩ := cc_eq h
    have hk4 : k < 4 := by omega
    obtain ⟨e1, e2⟩ := q_state h hk4 hj
    obtain ⟨-, -, ⟨-, b10, -, -, o10, -⟩, -⟩ := h.2.2.1 k hk4
    have eh : rHas (rOf T k 8) (nI j) = pContains (S 0 k 0 10) (nI j) := by rw [← b10]; exact rH_C o10 hj
    rw [lp, lpE]
    unfold pComF rMemF
    rw [e1, eh]
    by_cases hs : S 0 k 1 j = 2
    · rw [if_pos hs, if_pos hs]
      by_cases hb : pContains (S 0 k 0 10) (nI j) = true
      · rw [if_pos hb, if_pos hb, if_pos rfl]
        exact mem_com h hj n (k + 1) v r (by omega)
      · rw [if_neg hb, if_neg hb, if_pos rfl, if_neg (show ¬ (false, S 0 k 2 j).1 = true from nt rfl)]
        refine ⟨fun z => absurd z (by show ¬ false = true; decide), fun _ => ?_⟩
        have en := mem_no h hj true n (k + 1) (rOf T k (28 + j)) (by omega) (fun i h1 h2 z => h.2.1 j hj k (by omega) i (by omega) (by omega) hs z)
        rw [e2] at en ⊢
        have ec : pCached S k j = S 0 k 2 j := by unfold pCached; rw [if_neg (by rw [hs]; decide)]
        rw [ec] at en ⊢
        exact en
    · rw [if_neg hs, if_neg hs, if_pos rfl]
      exact mem_com h hj n (k + 1) v r (by omega)
theorem q_mem {S T : St} {N j : Nat} {A : Int32} (h : rel S 0 T N A) (hj : j < 8) (w : Bool) : rMem T j w = (if w = true then pCom S 0 j else S 0 4 2 j) := by
  obtain ⟨hc, hc4⟩ := cc_eq h
  have em : S 0 4 2 j = T 7 0 1 (5 + j) := h.1.2.1 j hj
  cases w
  · rw [if_neg (by decide), em]
    unfold rMem
    refine lp_ne (rMemF T j false) (fun v => v) (fun k v => ?_) _ 0 _
    unfold rMemF
    split
    · split
      · rfl
      · rfl
    · rfl
  · rw [if_pos rfl]
    unfold rMem pCom
    rw [← hc]
    obtain ⟨m1, m2⟩ := mem_com h hj (pCC S 0) 0 (T 7 0 1 (5 + j)) 0 (by omega)
    dsimp only
    by_cases hl : (lpE (pComF S 0 j) (pCC S 0) 0 0).1 = true
    · rw [if_pos hl, m1 hl, em]
    · rw [if_neg hl, m2 (Bool.eq_false_iff.mpr hl)]
theorem q_ctr {S T : St} {N k : Nat} {A : Int32} (h : rel S 0 T N A) (hk : k < 8) : T 7 0 1 (13 + k) = S 0 4 3 k := (h.1.2.2.1 k hk).symm
theorem q_cnt {S T : St} {N : Nat} {A : Int32} (h : rel S 0 T N A) : T 7 0 1 21 = S 0 4 4 7 := (h.2.2.2.resolve_left (fun q => absurd q.1 (by decide))).2.2.1.symm
theorem q_ent {S T : St} {N q : Nat} {A : Int32} (h : rel S 0 T N A) (hq : q < pQ S 0) : rEn S 0 T q := (h.2.2.2.resolve_left (fun q => absurd q.1 (by decide))).2.2.2 q hq
theorem pack_eq {x y : Int32} (hx : ok8 x) (hy : ok8 y) : ∃ a b, a < 256 ∧ b < 256 ∧ x = nI a ∧ y = nI b ∧ x + 256 * y = nI (a + 256 * b) := by
  obtain ⟨a, ha, rfl⟩ := hx
  obtain ⟨b, hb, rfl⟩ := hy
  exact ⟨a, b, ha, hb, rfl, rfl, by rw [show (256 : Int32) = nI 256 from rfl, pk_mul, nI_add]⟩
theorem q_commit {S T : St} {N q k : Nat} {A : Int32} (h : rel S 0 T N A) (hq : q < pQ S 0) (hk : k < 4) : rComQ T q k = pLFact S 0 q k := by
  obtain ⟨d1, d2, d3, d4, d5, d6⟩ := q_ent h hq
  obtain ⟨a, b, ha, hb, ea, eb, ep⟩ := pack_eq d4 d5
  have hk' : k = 0 ∨ k = 1 ∨ k = 2 ∨ k = 3 := by omega
  rcases hk' with rfl | rfl | rfl | rfl
  · exact d1.symm
  · exact d2.symm
  · show T 7 0 1 (406 + 19 * q + 2) - T 7 0 1 (406 + 19 * q + 2) / 256 * 256 = S 0 4 7 q
    rw [d3, ep, show (256 : Int32) = nI 256 from rfl, pk_rem (by omega) (by decide) (by decide), ea]
    congr 1; omega
  · show T 7 0 1 (406 + 19 * q + 2) / 256 = S 0 4 8 q
    rw [d3, ep, show (256 : Int32) = nI 256 from rfl, pk_div (by omega) (by decide) (by decide), eb]
    congr 1; omega
theorem q_cval {S T : St} {N q j : Nat} {A : Int32} (h : rel S 0 T N A) (hq : q < pQ S 0) (hj : j < 8) (w : Bool) : rComV T q j w = pLVal S 0 q j w := by
  obtain ⟨d1, d2, d3, d4, d5, d6⟩ := q_ent h hq
  obtain ⟨g1, g2⟩ := d6 j hj
  cases w
  · exact g1.symm
  · exact g2.symm
/-! serializable -/
theorem has_pack {n : Nat} (hn : n < 65536) {k : Nat} (hk : k < 8) : rHas (nI n) (nI k) = decide (n / 2 ^ k % 2 = 1) := by
  have hs : ((nI k &&& 31).toBitVec.smod 32).toNat = k := by
    have : ∀ k, k < 8 → ((nI k &&& 31).toBitVec.smod 32).toNat = k := by decide
    exact this k hk
  unfold rHas
  have h2 : n / 2 ^ k < 2 ^ 31 := Nat.lt_of_le_of_lt (Nat.div_le_self _ _) (by omega)
  rw [pk_shrN (by omega) _ k hs, pk_andN (by omega) 1 (by decide)]
  have hl : n / 2 ^ k % 2 ^ 1 < 2 := Nat.mod_lt _ (by decide)
  rw [show (1 : Int32) = nI 1 from rfl]
  by_cases z : n / 2 ^ k % 2 ^ 1 = 1
  · rw [z, decide_eq_true rfl, decide_eq_true (by rw [← z])]
  · rw [decide_eq_false (fun q => z ((nI_eq (by omega) (by omega)).mp q)), decide_eq_false (fun q => z q)]
theorem has_lo {a b : Nat} (ha : a < 256) (hb : b < 256) {k : Nat} (hk : k < 8) : rHas (nI (a + 256 * b)) (nI k) = rHas (nI a) (nI k) := by
  rw [has_pack (by omega) hk, has_pack (by omega) hk]
  have e : (a + 256 * b) / 2 ^ k % 2 = a / 2 ^ k % 2 := by
    have hk' : k = 0 ∨ k = 1 ∨ k = 2 ∨ k = 3 ∨ k = 4 ∨ k = 5 ∨ k = 6 ∨ k = 7 := by omega
    rcases hk' with rfl | rfl | rfl | rfl | rfl | rfl | rfl | rfl
    all_goals omega
  rw [e]
theorem seF_0 (S : St) (ev : Nat) : ∀ n k, lp (rSeF S ev) n k 0 = 0
  | 0, _ => rfl
  | n + 1, k => by
    rw [lp]
    have : rSeF S ev k 0 = 0 := by unfold rSeF; rw [if_pos rfl]
    rw [this]; exact seF_0 S ev n (k + 1)
theorem seK_0 : ∀ n k (V : St), (lp rSeK n k (V, 0)).2 = 0
  | 0, _, _ => rfl
  | n + 1, k, V => by
    rw [lp]
    have : rSeK k (V, 0) = (lp (rSeG (406 + 19 * k)) 8 0 V, 0) := by unfold rSeK; rw [seF_0]
    rw [this]; exact seK_0 n (k + 1) _
theorem mat_se {U V : St} {q : Nat} (hr : ∀ l, l < 8 → U 6 0 7 l = V 7 0 8 l) (he : rEn U 0 V q) : ∀ n k, k + n ≤ 8 → lp (rSeF V (406 + 19 * q)) n k 1 = bI (lpE (pMatF 0 q 6 0 7) n k U).1
  | 0, _, _ => rfl
  | n + 1, k, hk => by
    obtain ⟨d1, d2, d3, d4, d5, d6⟩ := id he
    obtain ⟨a, b, ha, hb, ea, eb, ep⟩ := pack_eq d4 d5
    have eh : rHas (V 7 0 1 (406 + 19 * q + 2)) (nI k) = pContains (U 0 4 7 q) (nI k) := by
      rw [d3, ep, has_lo ha hb (by omega), ← ea]; exact rH_C d4 (by omega)
    have ev : pLVal U 0 q k false = V 7 0 1 (406 + 19 * q + 3 + k) := (d6 k (by omega)).1
    have er := hr k (by omega)
    rw [lp, lpE]
    unfold rSeF pMatF
    rw [if_neg (by decide), eh, ev, er]
    by_cases hc : pContains (U 0 4 7 q) (nI k) = true
    · by_cases hv : V 7 0 8 k = V 7 0 1 (406 + 19 * q + 3 + k)
      · rw [if_pos hc, if_pos hv, hc, decide_eq_true hv.symm, if_pos (by rfl)]
        exact mat_se hr he n (k + 1) (by omega)
      · rw [if_pos hc, if_neg hv, hc, decide_eq_false (fun z => hv z.symm), if_neg (by show ¬ false = true; decide)]
        exact seF_0 V (406 + 19 * q) n (k + 1)
    · rw [if_neg hc, Bool.eq_false_iff.mpr hc, if_pos (by rfl)]
      exact mat_se hr he n (k + 1) (by omega)
theorem app_se {U V : St} {q : Nat} (hr : ∀ l, l < 8 → U 6 0 7 l = V 7 0 8 l) (he : rEn U 0 V q) : (∀ l, l < 8 → pApply U 0 q 6 0 7 6 0 7 l = lp (rSeG (406 + 19 * q)) 8 0 V 7 0 8 l) ∧ (∀ m g i, ¬ (m = 6 ∧ g = 0 ∧ i = 7) → pApply U 0 q 6 0 7 m g i = U m g i) ∧ (∀ m g i, ¬ (m = 7 ∧ g = 0 ∧ i = 8) → lp (rSeG (406 + 19 * q)) 8 0 V m g i = V m g i) := by
  obtain ⟨d1, d2, d3, d4, d5, d6⟩ := id he
  obtain ⟨a, b, ha, hb, ea, eb, ep⟩ := pack_eq d4 d5
  have e256 : V 7 0 1 (406 + 19 * q + 2) / 256 = U 0 4 8 q := by
    rw [d3, ep, show (256 : Int32) = nI 256 from rfl, pk_div (by omega) (by decide) (by decide), eb]
    congr 1; omega
  have key := lp_rel (pAppF 0 q 6 0 7) (rSeG (406 + 19 * q)) (fun k X Y => (∀ l, l < 8 → X 6 0 7 l = Y 7 0 8 l) ∧ (∀ m g i, ¬ (m = 6 ∧ g = 0 ∧ i = 7) → X m g i = U m g i) ∧ (∀ m g i, ¬ (m = 7 ∧ g = 0 ∧ i = 8) → Y m g i = V m g i)) 8 (fun k X Y hk ⟨p1, p2, p3⟩ => by
    have eh : rHas (V 7 0 1 (406 + 19 * q + 2) / 256) (nI k) = pContains (U 0 4 8 q) (nI k) := by rw [e256]; exact rH_C d5 hk
    have x8 : X 0 4 8 q = U 0 4 8 q := by rw [p2 0 4 8 (by omega)]
    have xv : pLVal X 0 q k true = V 7 0 1 (406 + 19 * q + 11 + k) := by
      show X 0 4 10 (q * 8 + k) = _
      rw [p2 0 4 10 (by omega)]; exact (d6 k hk).2
    unfold pAppF rSeG
    rw [x8, xv, p3 7 0 1 (by omega), eh]
    by_cases hc : pContains (U 0 4 8 q) (nI k) = true
    · rw [if_pos hc, if_pos hc]
      refine ⟨fun l hl => ?_, fun m g i hn => ?_, fun m g i hn => ?_⟩
      · by_cases hlk : l = k
        · subst hlk; simp (disch := omega) only [sF_eq, sF_ne]
        · simp (disch := omega) only [sF_eq, sF_ne]; exact p1 l hl
      · funext z; simp (disch := omega) only [sF_eq, sF_ne]; rw [p2 m g i hn]
      · funext z; simp (disch := omega) only [sF_eq, sF_ne]; rw [p3 m g i hn]
    · rw [if_neg hc, if_neg hc]
      refine ⟨fun l hl => ?_, p2, fun m g i hn => ?_⟩
      · by_cases hlk : l = k
        · subst hlk; simp (disch := omega) only [sF_eq, sF_ne]; exact p1 l hl
        · simp (disch := omega) only [sF_eq, sF_ne]; exact p1 l hl
      · funext z; simp (disch := omega) only [sF_eq, sF_ne]; rw [p3 m g i hn]) 8 0 U V (by omega) ⟨hr, fun _ _ _ _ => rfl, fun _ _ _ _ => rfl⟩
  exact key
theorem rEn_rows {S S' T T' : St} {q : Nat} (h : rEn S 0 T q) (h1 : S' 0 = S 0) (h2 : T' 7 0 1 = T 7 0 1) : rEn S' 0 T' q := by
  unfold rEn at *
  rw [h1, h2]; exact h
theorem rep_se {S T : St} {Q : Nat} (hE : ∀ q, q < Q → rEn S 0 T q) : ∀ n k (U V : St), k + n = Q → (∀ l, l < 8 → U 6 0 7 l = V 7 0 8 l) → U 0 = S 0 → V 7 0 1 = T 7 0 1 → (lpE (pRepF 0 6 0 7) n k U).1 = decide ((lp rSeK n k (V, 1)).2 = 1)
  | 0, _, _, _, _, _, _, _ => rfl
  | n + 1, k, U, V, hk, hr, hU, hV => by
    have he := rEn_rows (S' := U) (T' := V) (hE k (by omega)) hU hV
    have hm : lp (rSeF V (406 + 19 * k)) 8 0 1 = bI (pMatch U 0 k 6 0 7) := mat_se hr he 8 0 (by omega)
    obtain ⟨a1, a2, a3⟩ := app_se hr he
    rw [lp, lpE]
    have eK : rSeK k (V, 1) = (lp (rSeG (406 + 19 * k)) 8 0 V, bI (pMatch U 0 k 6 0 7)) := by unfold rSeK; rw [hm]
    rw [eK]
    unfold pRepF
    by_cases hp : pMatch U 0 k 6 0 7 = true
    · rw [if_pos hp, if_pos rfl, hp]
      exact rep_se hE n (k + 1) _ _ (by omega) a1 (by funext g i; show pApply U 0 k 6 0 7 0 g i = S 0 g i; rw [a2 0 g i (by omega), hU]) (by rw [a3 7 0 1 (by omega), hV])
    · have hp' : pMatch U 0 k 6 0 7 = false := Bool.eq_false_iff.mpr hp
      rw [if_neg hp, if_neg (show ¬ (false, U).1 = true from nt rfl), hp']
      show false = decide ((lp rSeK n (k + 1) (lp (rSeG (406 + 19 * k)) 8 0 V, 0)).2 = 1)
      rw [seK_0]; rfl
theorem rep_frame (S : St) : ∀ m g i, ¬ (m = 6 ∧ g = 0 ∧ i = 7) → (pReplay S 0 6 0 7).2 m g i = S m g i := by
  intro m g i hn
  unfold pReplay
  have e0 : lp (pZeroF 6 0 7) 8 0 S m g i = S m g i := by funext q; exact (zero_at 6 0 7 8 S).2 m g i q (by omega)
  rw [← e0]
  refine lpE_ne (pRepF 0 6 0 7) (fun T => T m g i) (fun k T => ?_) _ 0 _
  unfold pRepF
  split
  · show pApply T 0 k 6 0 7 m g i = T m g i
    unfold pApply
    refine lp_ne (pAppF 0 k 6 0 7) (fun T => T m g i) (fun k T => ?_) _ 0 _
    unfold pAppF
    split
    · funext q; simp (disch := omega) only [sF_eq, sF_ne]
    · rfl
  · rfl
theorem rSer_frame (S : St) : ∀ m g i, ¬ (m = 7 ∧ g = 0 ∧ i = 8) → (rSer S).1 m g i = rCd S 0 m g i := by
  intro m g i hn
  unfold rSer
  have e0 : lp rSeZ 8 0 (rCd S 0) m g i = rCd S 0 m g i := lp_ne rSeZ (fun T => T m g i) (fun k T => by funext q; simp (disch := omega) only [rSeZ, sF_eq, sF_ne]) 8 0 _
  rw [← e0]
  refine lp_ne rSeK (fun q => q.1 m g i) (fun k q => ?_) _ 0 _
  unfold rSeK
  exact lp_ne (rSeG (406 + 19 * k)) (fun T => T m g i) (fun k T => by funext q; simp (disch := omega) only [rSeG, sF_eq, sF_ne]) 8 0 _
theorem ser_ok {S : St} {N : Nat} (h : Inv S N) : decide ((rSer (pReplay S 0 6 0 7).2).2 = 1) = (pReplay S 0 6 0 7).1 ∧ (rSer (pReplay S 0 6 0 7).2).1 7 0 0 9 = 0 ∧ Inv (rSer (pReplay S 0 6 0 7).2).1 N := by
  obtain ⟨A, hA⟩ := Inv_rel0 h
  have f1 := rep_frame S
  have f2 := rSer_frame (pReplay S 0 6 0 7).2
  obtain ⟨c1, c2, c3⟩ := rCd_at (pReplay S 0 6 0 7).2 0
  obtain ⟨-, -, hqq, -⟩ := (rel_q hA).resolve_left (fun z => absurd z.1 (by decide))
  have ed : rSeZ = pZeroF 7 0 8 := rfl
  obtain ⟨z1, z2⟩ := zero_at 6 0 7 8 S
  obtain ⟨y1, y2⟩ := zero_at 7 0 8 8 (rCd (pReplay S 0 6 0 7).2 0)
  refine ⟨?_, ?_, Inv_fr h (fun m hm h1 => ?_) (fun k => ?_) (fun k => ?_) (fun i k h1 h6 hk => ?_) (fun k hk => ?_) (Nat.le_refl _)⟩
  · have eQ : rQ (pReplay S 0 6 0 7).2 = pQ S 0 := by
      rw [hqq]; show ((pReplay S 0 6 0 7).2 7 0 1 21).toNatClampNeg = (S 7 0 1 21).toNatClampNeg
      rw [f1 7 0 1 (by omega)]
    have key := rep_se (S := S) (T := S) (Q := pQ S 0) (fun q hq => q_ent hA hq) (pQ S 0) 0 (lp (pZeroF 6 0 7) 8 0 S) (lp rSeZ 8 0 (rCd (pReplay S 0 6 0 7).2 0)) (by omega) (fun l hl => by rw [z1 l hl, ed, y1 l hl]) (by funext g i q; rw [z2 0 g i q (by omega)]) (by funext q; rw [ed, y2 7 0 1 q (by omega), c1 7 0 1 (by omega), f1 7 0 1 (by omega)])
    unfold rSer
    rw [eQ]
    exact key.symm
  · rw [f2 7 0 0 (by omega)]; exact c3
  · funext g i; rw [f2 m g i (by omega), c1 m g i (by omega), f1 m g i (by omega)]
  · rw [f2 6 0 0 (by omega), c1 6 0 0 (by omega), f1 6 0 0 (by omega)]
  · rw [f2 6 0 1 (by omega), c1 6 0 1 (by omega), f1 6 0 1 (by omega)]
  · rw [f2 7 0 i (by omega), c1 7 0 i (by omega), f1 7 0 i (by omega)]
  · rw [f2 7 0 0 (by omega), c2 k (by omega), f1 7 0 0 (by omega)]
/-! digest -/
theorem rMix_0 (h : Hl) (v : Int64) : rMix h v 0 = 31 * h 0 + v := by simp [rMix, va_up]
theorem mix_rel {h : Hl} {x : Int64} {v u : Int32} (hx : h 0 = x) (hv : u = v) : rMix h u.toInt64 0 = pMix x v := by rw [rMix_0, hx, hv]; rfl
theorem dig_rel {S T : St} {N : Nat} {A : Int32} (h : rel S 0 T N A) (ht : T 7 0 0 7 = S 6 0 0 1) (hs : T 7 0 0 5 = S 6 0 0 7) (hl : Hl) : rDgH T hl 0 = pDigest S := by
  obtain ⟨hc, hc4⟩ := cc_eq h
  have loop : ∀ (f : Nat → Int64 → Int64) (g : Nat → Hl → Hl) (n : Nat), (∀ k x hh, k < n → hh 0 = x → g k hh 0 = f k x) → ∀ x hh, hh 0 = x → lp g n 0 hh 0 = lp f n 0 x := fun f g n hfg x hh hx => by
    have := lp_rel f g (fun _ x hh => hh 0 = x) n (fun k x hh hk hx => hfg k x hh hk hx) n 0 x hh (by omega) hx
    exact this
  unfold rDgH pDigest
  refine mix_rel (mix_rel ?_ (q_cnt h)) hs
  refine loop (pDg5 S) (rDg5 T) 8 (fun k x hh hk hx => mix_rel hx (q_ctr h hk)) _ _ ?_
  refine loop (pDg4 S) (rDg3 T true) 8 (fun k x hh hk hx => mix_rel hx (q_mem h hk true)) _ _ ?_
  refine loop (pDg3 S) (rDg3 T false) 8 (fun k x hh hk hx => mix_rel hx (q_mem h hk false)) _ _ ?_
  rw [← hc]
  refine loop (pDg2 S) (rDg2 T) (pCC S 0) (fun k x hh hk hx => ?_) _ _ ?_
  · have hk4 : k < 4 := by omega
    unfold pDg2 rDg2 pDgC rMcC
    refine loop (pDgB S k) (rMcB T k) 8 (fun l x hh hl hx => ?_) _ _ ?_
    · exact mix_rel (mix_rel hx (q_state h hk4 hl).1) (q_state h hk4 hl).2
    · exact mix_rel (mix_rel (loop (pDgA S k) (rMcA T k) 6 (fun l x hh hl hx => mix_rel hx (q_core h hk4 hl)) _ _ hx) (q_set h hk4 false)) (q_set h hk4 true)
  · refine mix_rel ?_ (h.1.1 3 (by omega)).symm
    exact loop (pDg1 S) (rDg1 T) 5 (fun k x hh hk hx => mix_rel hx (q_value h hk)) _ _ (mix_rel (by simp [va_up]) ht)
theorem digest_ok {S : St} {N : Nat} (h : Inv S N) (hl : Hl) : rDgH (rCd S 0) hl 0 = pDigest S := by
  obtain ⟨A, hA⟩ := Inv_rel h (frM.rf 1 S) 0
  obtain ⟨-, c2, -⟩ := rCd_at S 0
  obtain ⟨-, -, ⟨-, b2, -⟩, -, -, c3, -⟩ := h
  exact dig_rel hA (by rw [c2 7 (by omega)]; exact b2) (by rw [c2 5 (by omega)]; exact c3) hl

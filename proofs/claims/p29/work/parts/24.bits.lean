/-! sets of lines as numbers below 256 -/
theorem pC_tb : ∀ n, n < 256 → ∀ k, k < 8 → pContains (nI n) (nI k) = n.testBit k := by decide +kernel
theorem rH_tb : ∀ n, n < 256 → ∀ k, k < 8 → rHas (nI n) (nI k) = n.testBit k := by decide +kernel
theorem or8 {a b : Nat} (ha : a < 256) (hb : b < 256) : a ||| b < 256 := Nat.or_lt_two_pow (n := 8) ha hb
theorem nI_or8 : ∀ a, a < 256 → ∀ b, b < 256 → nI a ||| nI b = nI (a ||| b) := by
  intro a ha b hb
  have hc := or8 ha hb
  apply Int32.toBitVec_inj.mp
  show BitVec.ofNat 32 a ||| BitVec.ofNat 32 b = BitVec.ofNat 32 (a ||| b)
  apply BitVec.eq_of_toNat_eq
  rw [BitVec.toNat_or, BitVec.toNat_ofNat, BitVec.toNat_ofNat, BitVec.toNat_ofNat, Nat.mod_eq_of_lt (by omega), Nat.mod_eq_of_lt (by omega), Nat.mod_eq_of_lt (by omega)]
theorem bit_or1 : ∀ n, n < 256 → ∀ k, k < 8 → nI n ||| 1 <<< (nI k &&& 31) = nI (n ||| 2 ^ k) := by decide +kernel
theorem bit_1 : ∀ k, k < 8 → (1 : Int32) <<< (nI k &&& 31) = nI (2 ^ k) := by decide +kernel
theorem size_eq : ∀ n, n < 256 → pBits (nI n) = rSize (nI n) := by decide +kernel
theorem size_ok : ∀ n, n < 256 → (rSize (nI n) = nI (rSize (nI n)).toNatClampNeg ∧ (rSize (nI n)).toNatClampNeg ≤ 8) := by decide +kernel
theorem size_or : ∀ n, n < 256 → ∀ k, k < 8 → n.testBit k = false → rSize (nI (n ||| 2 ^ k)) = rSize (nI n) + 1 := by decide +kernel
theorem pow8 {k : Nat} (hk : k < 8) : 2 ^ k < 256 := by
  have : ∀ k, k < 8 → 2 ^ k < 256 := by decide
  exact this k hk
theorem tb_or1 : ∀ n, n < 256 → ∀ k, k < 8 → ∀ j, j < 8 → (n ||| 2 ^ k).testBit j = (n.testBit j || decide (j = k)) := by decide +kernel
theorem tb_p : ∀ k, k < 8 → ∀ j, j < 8 → (2 ^ k).testBit j = decide (j = k) := by decide +kernel
/-- a set of lines -/
def ok8 (x : Int32) : Prop := ∃ n, n < 256 ∧ x = nI n
theorem ok8_0 : ok8 0 := ⟨0, by omega, rfl⟩
theorem ok8_or {x y : Int32} (hx : ok8 x) (hy : ok8 y) : ok8 (x ||| y) := by
  obtain ⟨a, ha, rfl⟩ := hx
  obtain ⟨b, hb, rfl⟩ := hy
  exact ⟨a ||| b, or8 ha hb, nI_or8 a ha b hb⟩
theorem ok8_1 {k : Nat} (hk : k < 8) : ok8 ((1 : Int32) <<< (nI k &&& 31)) := ⟨2 ^ k, pow8 hk, bit_1 k hk⟩
/-- whether a line is in a set -/
abbrev hasL (x : Int32) (k : Nat) : Bool := pContains x (nI k)
theorem rH_C {x : Int32} (hx : ok8 x) {k : Nat} (hk : k < 8) : rHas x (nI k) = hasL x k := by
  obtain ⟨a, ha, rfl⟩ := hx
  rw [rH_tb a ha k hk, hasL, pC_tb a ha k hk]
theorem hasL_0 {k : Nat} (hk : k < 8) : hasL 0 k = false := by
  have h := pC_tb 0 (by omega) k hk
  rw [show nI 0 = 0 from rfl] at h
  rw [hasL, h, Nat.zero_testBit]
theorem hasL_or {x y : Int32} (hx : ok8 x) (hy : ok8 y) {k : Nat} (hk : k < 8) : hasL (x ||| y) k = (hasL x k || hasL y k) := by
  obtain ⟨a, ha, rfl⟩ := hx
  obtain ⟨b, hb, rfl⟩ := hy
  rw [nI_or8 a ha b hb, hasL, pC_tb _ (or8 ha hb) k hk, hasL, hasL, pC_tb a ha k hk, pC_tb b hb k hk, Nat.testBit_or]
theorem hasL_1 {j k : Nat} (hj : j < 8) (hk : k < 8) : hasL ((1 : Int32) <<< (nI j &&& 31)) k = decide (k = j) := by
  rw [bit_1 j hj, hasL, pC_tb _ (pow8 hj) k hk, tb_p j hj k hk]
theorem size_C {x : Int32} (hx : ok8 x) : pBits x = rSize x := by
  obtain ⟨a, ha, rfl⟩ := hx; exact size_eq a ha
theorem size_8 {x : Int32} (hx : ok8 x) : okI (rSize x) 8 := by
  obtain ⟨a, ha, rfl⟩ := hx; exact size_ok a ha
theorem size_inc {x : Int32} (hx : ok8 x) {k : Nat} (hk : k < 8) (h : hasL x k = false) : rSize (x ||| 1 <<< (nI k &&& 31)) = rSize x + 1 := by
  obtain ⟨a, ha, rfl⟩ := hx
  rw [hasL, pC_tb a ha k hk] at h
  rw [bit_or1 a ha k hk, size_or a ha k hk h]
theorem rSize_0 : rSize 0 = 0 := by decide +kernel

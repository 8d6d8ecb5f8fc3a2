section PNUMS
/-! numbers that stay as they are -/
def I32 (x : Int) : Prop := -2147483648 ≤ x ∧ x < 2147483648
theorem jwI {x : Int} (h : I32 x) : jw x = x := jw_of h.1 h.2
theorem I32_of (x : Int32) : I32 x.toInt := ⟨by have := Int32.le_toInt x; simpa using this, by have := Int32.toInt_lt x; simpa using this⟩
theorem jw_jw (x : Int) : jw (jw x) = jw x := by unfold jw; rw [Int.bmod_bmod]
theorem jw_I32 (x : Int) : I32 (jw x) := by
  have h1 := @Int.le_bmod x (2 ^ 32) (by decide)
  have h2 := @Int.bmod_lt x (2 ^ 32) (by decide)
  unfold jw I32
  omega
theorem jand_nat {a b : Nat} (ha : a < 2 ^ 31) : jand (a : Int) (b : Int) = ((a &&& b : Nat) : Int) := by
  unfold jand
  rw [Int32.ofInt_eq_ofNat, Int32.ofInt_eq_ofNat, show Int32.ofNat a &&& Int32.ofNat b = Int32.ofNat (a &&& b) from Int32.toBitVec_inj.1 (by simp), Int32.toInt_ofNat_of_lt (Nat.lt_of_le_of_lt Nat.and_le_left ha)]
theorem jor_nat {a b : Nat} (ha : a < 2 ^ 31) (hb : b < 2 ^ 31) : jor (a : Int) (b : Int) = ((a ||| b : Nat) : Int) := by
  unfold jor
  rw [Int32.ofInt_eq_ofNat, Int32.ofInt_eq_ofNat, show Int32.ofNat a ||| Int32.ofNat b = Int32.ofNat (a ||| b) from Int32.toBitVec_inj.1 (by simp), Int32.toInt_ofNat_of_lt (Nat.or_lt_two_pow ha hb)]
theorem jxor_nat {a b : Nat} (ha : a < 2 ^ 31) (hb : b < 2 ^ 31) : jxor (a : Int) (b : Int) = ((a ^^^ b : Nat) : Int) := by
  unfold jxor
  rw [Int32.ofInt_eq_ofNat, Int32.ofInt_eq_ofNat, show Int32.ofNat a ^^^ Int32.ofNat b = Int32.ofNat (a ^^^ b) from Int32.toBitVec_inj.1 (by simp), Int32.toInt_ofNat_of_lt (Nat.xor_lt_two_pow ha hb)]
theorem jshl1_nat : ∀ i : Nat, i < 31 → jshl 1 (i : Int) = ((2 ^ i : Nat) : Int) := by decide +kernel
/-- bit i of a set -/
def bit (x : Int) (i : Nat) : Bool := x.toNat.testBit i
theorem bit_nat (a i : Nat) : bit (a : Int) i = a.testBit i := rfl
theorem jbit0 : ∀ m : Nat, m < 256 → ∀ i : Nat, i < 8 → jand (jshr (m : Int) (i : Int)) 1 = if m.testBit i then 1 else 0 := by decide +kernel
theorem jclr0 : ∀ m : Nat, m < 256 → ∀ i : Nat, i < 8 → jand (m : Int) (jxor (jshl 1 (i : Int)) (-1)) = ((if m.testBit i then m - 2 ^ i else m : Nat) : Int) := by decide +kernel
theorem tbclr : ∀ m : Nat, m < 256 → ∀ i : Nat, i < 8 → (if m.testBit i then m - 2 ^ i else m) < 256 ∧ ∀ j : Nat, j < 8 → (if m.testBit i then m - 2 ^ i else m).testBit j = (m.testBit j && decide (j ≠ i)) := by decide +kernel
theorem tbor : ∀ m : Nat, m < 256 → ∀ i : Nat, i < 8 → m ||| 2 ^ i < 256 ∧ ∀ j : Nat, j < 8 → (m ||| 2 ^ i).testBit j = (m.testBit j || decide (j = i)) := by decide +kernel
theorem tbxor : ∀ m : Nat, m < 256 → ∀ i : Nat, i < 8 → m ^^^ 2 ^ i < 256 ∧ ∀ j : Nat, j < 8 → (m ^^^ 2 ^ i).testBit j = (m.testBit j ^^ decide (j = i)) := by decide +kernel
/-- a set of at most eight -/
def S8 (x : Int) : Prop := 0 ≤ x ∧ x < 256
theorem S8.nat {x : Int} (h : S8 x) : ∃ m : Nat, m < 256 ∧ x = (m : Int) := ⟨x.toNat, by have := h.1; have := h.2; omega, by have := h.1; omega⟩
theorem S8.ext {x y : Int} (hx : S8 x) (hy : S8 y) (h : ∀ i : Nat, i < 8 → bit x i = bit y i) : x = y := by
  obtain ⟨m, hm, rfl⟩ := hx.nat
  obtain ⟨k, hk, rfl⟩ := hy.nat
  congr 1
  apply Nat.eq_of_testBit_eq
  intro i
  by_cases hi : i < 8
  · exact h i hi
  · rw [Nat.testBit_lt_two_pow (Nat.lt_of_lt_of_le hm (show 256 ≤ 2 ^ i from Nat.pow_le_pow_right (n := 2) (by decide) (show 8 ≤ i by omega))), Nat.testBit_lt_two_pow (Nat.lt_of_lt_of_le hk (show 256 ≤ 2 ^ i from Nat.pow_le_pow_right (n := 2) (by decide) (show 8 ≤ i by omega)))]
theorem S8.jw {x : Int} (h : S8 x) : jw x = x := jw_of (by have := h.1; omega) (by have := h.2; omega)
theorem jbit {x : Int} (h : S8 x) {i : Nat} (hi : i < 8) : jand (jshr x (i : Int)) 1 = if bit x i then 1 else 0 := by
  obtain ⟨m, hm, rfl⟩ := h.nat
  exact jbit0 m hm i hi
theorem jclr {x : Int} (h : S8 x) {i : Nat} (hi : i < 8) : S8 (jand x (jxor (jshl 1 (i : Int)) (-1))) ∧ ∀ j : Nat, j < 8 → bit (jand x (jxor (jshl 1 (i : Int)) (-1))) j = (bit x j && decide (j ≠ i)) := by
  obtain ⟨m, hm, rfl⟩ := h.nat
  rw [jclr0 m hm i hi]
  have := tbclr m hm i hi
  exact ⟨⟨by omega, by have := this.1; omega⟩, fun j hj => this.2 j hj⟩
theorem jset {x : Int} (h : S8 x) {i : Nat} (hi : i < 8) : S8 (jor x (jshl 1 (i : Int))) ∧ ∀ j : Nat, j < 8 → bit (jor x (jshl 1 (i : Int))) j = (bit x j || decide (j = i)) := by
  obtain ⟨m, hm, rfl⟩ := h.nat
  have h2 : (2 : Nat) ^ i < 2 ^ 31 := Nat.pow_lt_pow_right (by decide) (by omega)
  rw [jshl1_nat i (by omega), jor_nat (by omega) h2]
  have := tbor m hm i hi
  exact ⟨⟨by omega, by have := this.1; omega⟩, fun j hj => this.2 j hj⟩
theorem jtog {x : Int} (h : S8 x) {i : Nat} (hi : i < 8) : S8 (jxor x (jshl 1 (i : Int))) ∧ ∀ j : Nat, j < 8 → bit (jxor x (jshl 1 (i : Int))) j = (bit x j ^^ decide (j = i)) := by
  obtain ⟨m, hm, rfl⟩ := h.nat
  have h2 : (2 : Nat) ^ i < 2 ^ 31 := Nat.pow_lt_pow_right (by decide) (by omega)
  rw [jshl1_nat i (by omega), jxor_nat (by omega) h2]
  have := tbxor m hm i hi
  exact ⟨⟨by omega, by have := this.1; omega⟩, fun j hj => this.2 j hj⟩
theorem jorS {x y : Int} (hx : S8 x) (hy : S8 y) : S8 (jor x y) ∧ ∀ j : Nat, bit (jor x y) j = (bit x j || bit y j) := by
  obtain ⟨m, hm, rfl⟩ := hx.nat
  obtain ⟨k, hk, rfl⟩ := hy.nat
  rw [jor_nat (by omega) (by omega)]
  have h : m ||| k < 2 ^ 8 := Nat.or_lt_two_pow (by omega) (by omega)
  exact ⟨⟨by omega, by omega⟩, fun j => Nat.testBit_or ..⟩
theorem jandS {x y : Int} (hx : S8 x) (hy : S8 y) : S8 (jand x y) ∧ ∀ j : Nat, bit (jand x y) j = (bit x j && bit y j) := by
  obtain ⟨m, hm, rfl⟩ := hx.nat
  obtain ⟨k, hk, rfl⟩ := hy.nat
  rw [jand_nat (by omega)]
  have h : m &&& k ≤ m := Nat.and_le_left
  exact ⟨⟨by omega, by omega⟩, fun j => Nat.testBit_and ..⟩
theorem bit0 (i : Nat) : bit 0 i = false := by simp [bit]
theorem S8_0 : S8 0 := ⟨by decide, by decide⟩
/-! memory -/
theorem jup_at (M : JMem) (a k : Nat) (v : Int) (b j : Nat) : jup M a k v b j = if b = a ∧ j = k then v else M b j := rfl
theorem jrow_at (M : JMem) (a : Nat) (f : Nat → Int) (b j : Nat) : jrow M a f b j = if b = a then f j else M b j := rfl
theorem jcpy_at (M : JMem) (a : Nat) (sp : Int) (b : Nat) (dp ln : Int) (c j : Nat) : jcpy M a sp b dp ln c j = if c = b then (if (jw dp).toNat ≤ j ∧ j < (jw dp).toNat + (jw ln).toNat then M a ((jw sp).toNat + (j - (jw dp).toNat)) else M b j) else M c j := rfl
theorem bnd_eq {α : Type} {o : Option (Int × JMem)} {r : Int} {M : JMem} {f : Int → JMem → Option α} (h : o = some (r, M)) : bnd o f = f r M := by rw [h]; rfl
end PNUMS

section PROOMS
variable {n : Nat} {M : JMem}
/-! sets as numbers -/
def sub8 (x y : Nat) : Prop := ∀ t : Nat, t < 8 → x.testBit t = true → y.testBit t = true
theorem bit_hi {m : Nat} (hm : m < 256) {i : Nat} (hi : ¬ i < 8) : m.testBit i = false := Nat.testBit_lt_two_pow (Nat.lt_of_lt_of_le hm (Nat.pow_le_pow_right (n := 2) (by decide) (show 8 ≤ i by omega)))
theorem ext8 {x y : Nat} (hx : x < 256) (hy : y < 256) (h : ∀ t : Nat, t < 8 → x.testBit t = y.testBit t) : x = y := Nat.eq_of_testBit_eq fun i => by
  by_cases c : i < 8
  · exact h i c
  · rw [bit_hi hx c, bit_hi hy c]
theorem and_lt8 {x y : Nat} (hx : x < 256) : x &&& y < 256 := Nat.lt_of_le_of_lt Nat.and_le_left hx
theorem xor_lt8 {x y : Nat} (hx : x < 256) (hy : y < 256) : x ^^^ y < 256 := Nat.xor_lt_two_pow (n := 8) hx hy
theorem or_lt8 {x y : Nat} (hx : x < 256) (hy : y < 256) : x ||| y < 256 := Nat.or_lt_two_pow (n := 8) hx hy
/-- a set without another one -/
def less (x y : Nat) : Nat := x &&& (255 ^^^ y)
theorem less_lt {x y : Nat} (hx : x < 256) : less x y < 256 := and_lt8 hx
theorem bit255 : ∀ t : Nat, t < 8 → (255 : Nat).testBit t = true := by decide
theorem less_bit (x y : Nat) {t : Nat} (h : t < 8) : (less x y).testBit t = (x.testBit t && !y.testBit t) := by
  unfold less
  rw [Nat.testBit_and, Nat.testBit_xor, bit255 t h, Bool.true_xor]
/-- the next lesser part of a set -/
theorem next0 : ∀ m u v : Nat, u &&& m = u → v &&& m = v → u < v → u ≤ (v - 1) &&& m := by
  intro m
  induction m using Nat.strongRecOn with
  | ind m ih =>
    intro u v hu hv h
    by_cases m0 : m = 0
    · subst m0
      rw [Nat.and_zero] at hv
      omega
    · have du : u / 2 &&& m / 2 = u / 2 := by rw [← Nat.and_div_two, hu]
      have dv : v / 2 &&& m / 2 = v / 2 := by rw [← Nat.and_div_two, hv]
      have tb : ∀ x : Nat, x.testBit 0 = decide (x % 2 = 1) := fun x => Nat.testBit_zero x
      have mu : u % 2 = 1 → m % 2 = 1 := fun q => by
        have := congrArg (fun x => Nat.testBit x 0) hu
        simp only [Nat.testBit_and, tb, q] at this
        have t2 : u % 2 = 1 ∧ m % 2 = 1 := by simpa using this
        exact t2.2
      have ma : ((v - 1) &&& m) % 2 = 1 ↔ (v - 1) % 2 = 1 ∧ m % 2 = 1 := by
        have := Nat.testBit_and (v - 1) m 0
        simp only [tb] at this
        by_cases a : ((v - 1) &&& m) % 2 = 1 <;> by_cases b : (v - 1) % 2 = 1 <;> by_cases c : m % 2 = 1 <;> simp_all
      have mb : ((v - 1) &&& m) / 2 = (v - 1) / 2 &&& m / 2 := Nat.and_div_two
      by_cases c : v % 2 = 1
      · have e : (v - 1) / 2 = v / 2 := by omega
        rw [e, dv] at mb
        omega
      · have e : (v - 1) / 2 = v / 2 - 1 := by omega
        rw [e] at mb
        have := ih (m / 2) (by omega) (u / 2) (v / 2) du dv (by omega)
        by_cases a : u % 2 = 1
        · have := mu a
          have := ma.2 ⟨by omega, this⟩
          omega
        · omega
theorem and_sub {x y : Nat} (hx : x < 256) : x &&& y = x ↔ sub8 x y := by
  constructor
  · intro e t t8 ht
    rw [← e, Nat.testBit_and, Bool.and_eq_true] at ht
    exact ht.2
  · intro h
    refine ext8 (and_lt8 hx) hx fun t t8 => ?_
    rw [Nat.testBit_and]
    cases hb : x.testBit t with
    | false => rfl
    | true => rw [h t t8 hb]; rfl
theorem sub8_le {x y : Nat} (hx : x < 256) (h : sub8 x y) : x ≤ y := by
  rw [← (and_sub hx).2 h]; exact Nat.and_le_right
/-! rooms: F tells if two can't be in one, Z how great one is -/
def zN (Z : Nat → Nat) (x : Nat) : Nat → Nat
  | 0 => 0
  | i + 1 => zN Z x i + if x.testBit i = true then Z i else 0
def isR (F : Nat → Nat → Bool) (Z : Nat → Nat) (s x : Nat) : Prop := (∀ a b : Nat, a < 8 → b < 8 → x.testBit a = true → x.testBit b = true → F a b = false) ∧ zN Z x 8 ≤ s
def Part (R : Nat → Prop) : Nat → Nat → Prop
  | 0, x => x = 0
  | k + 1, x => ∃ y : Nat, y < 256 ∧ sub8 y x ∧ y ≠ 0 ∧ R y ∧ Part R k (less x y)
/-- the lowest one of a set -/
def lowB (x j : Nat) : Prop := j < 8 ∧ x.testBit j = true ∧ ∀ t : Nat, t < j → x.testBit t = false
def PartF (R : Nat → Prop) : Nat → Nat → Prop
  | 0, x => x = 0
  | k + 1, x => ∃ y j : Nat, y < 256 ∧ sub8 y x ∧ lowB x j ∧ y.testBit j = true ∧ R y ∧ PartF R k (less x y)
theorem lowB_ex {x : Nat} (hx : x < 256) (h : x ≠ 0) : ∃ j, lowB x j := by
  have key : ∀ d : Nat, d ≤ 8 → (∃ j, lowB x j) ∨ ∀ t : Nat, t < d → x.testBit t = false := fun d => by
    induction d with
    | zero => intro _; exact Or.inr fun t ht => by omega
    | succ d ih =>
      intro hd
      rcases ih (by omega) with a | a
      · exact Or.inl a
      · cases hb : x.testBit d with
        | true => exact Or.inl ⟨d, by omega, hb, a⟩
        | false =>
          refine Or.inr fun t ht => ?_
          by_cases e : t = d
          · rw [e]; exact hb
          · exact a t (by omega)
  rcases key 8 (Nat.le_refl _) with a | a
  · exact a
  · exact absurd (ext8 hx (by decide) fun t t8 => by rw [a t t8, Nat.zero_testBit]) h
theorem PartF.part {R : Nat → Prop} : ∀ (k x : Nat), PartF R k x → Part R k x := by
  intro k
  induction k with
  | zero => exact fun x h => h
  | succ k ih =>
    rintro x ⟨y, j, h1, h2, h3, h4, h5, h6⟩
    exact ⟨y, h1, h2, (fun e => by rw [e, Nat.zero_testBit] at h4; cases h4), h5, ih _ h6⟩
theorem Part.front {R : Nat → Prop} : ∀ (k x : Nat), x < 256 → Part R k x → PartF R k x := by
  intro k
  induction k with
  | zero => exact fun x _ h => h
  | succ k ih =>
    rintro x hx ⟨y, hy, hs, hn, hr, hp⟩
    have x0 : x ≠ 0 := fun e => by
      apply hn
      refine ext8 hy (by decide) fun t t8 => ?_
      rw [Nat.zero_testBit]
      cases hb : y.testBit t with
      | false => rfl
      | true => have := hs t t8 hb; rw [e, Nat.zero_testBit] at this; cases this
    obtain ⟨j, hj⟩ := lowB_ex hx x0
    have hf := ih (less x y) (less_lt hx) hp
    cases hb : y.testBit j with
    | true => exact ⟨y, j, hy, hs, hj, hb, hr, hf⟩
    | false =>
      have lj : (less x y).testBit j = true := by rw [less_bit x y hj.1, hj.2.1, hb]; rfl
      cases k with
      | zero =>
        have hf0 : less x y = 0 := hf
        rw [hf0, Nat.zero_testBit] at lj; cases lj
      | succ k =>
        obtain ⟨z, j', gy, gs, gl, gb, gr, gp⟩ := hf
        have ej : j' = j := by
          by_cases c : j' < j
          · have a := gl.2.1
            rw [less_bit x y gl.1, hj.2.2 j' c] at a
            cases a
          · by_cases c2 : j < j'
            · rw [gl.2.2 j c2] at lj; cases lj
            · omega
        have zx : sub8 z x := fun t t8 ht => by
          have := gs t t8 ht
          rw [less_bit x y t8, Bool.and_eq_true] at this
          exact this.1
        have zy : ∀ t : Nat, t < 8 → z.testBit t = true → y.testBit t = false := fun t t8 ht => by
          have := gs t t8 ht
          rw [less_bit x y t8, Bool.and_eq_true] at this
          cases hq : y.testBit t with
          | false => rfl
          | true => rw [hq] at this; exact absurd this.2 (by decide)
        have e2 : less (less x z) y = less (less x y) z := by
          refine ext8 (less_lt (less_lt hx)) (less_lt (less_lt hx)) fun t t8 => ?_
          rw [less_bit _ _ t8, less_bit _ _ t8, less_bit _ _ t8, less_bit _ _ t8]
          cases x.testBit t <;> cases y.testBit t <;> cases z.testBit t <;> rfl
        have p2 : Part R (k + 1) (less x z) := by
          refine ⟨y, hy, fun t t8 ht => ?_, hn, hr, by rw [e2]; exact PartF.part _ _ gp⟩
          rw [less_bit x z t8, hs t t8 ht]
          cases hq : z.testBit t with
          | false => rfl
          | true => rw [zy t t8 hq] at ht; cases ht
        exact ⟨z, j, gy, zx, hj, by rw [← ej]; exact gb, gr, ih (less x z) (less_lt hx) p2⟩
/-- so many are in a set -/
def cnt8 (x : Nat) : Nat := cntN (x : Int) 8
theorem cntN_sub {x y : Nat} : ∀ i : Nat, i ≤ 8 → (∀ t : Nat, t < 8 → y.testBit t = true → x.testBit t = true) → cntN (less x y : Int) i + cntN (y : Int) i = cntN (x : Int) i := by
  intro i
  induction i with
  | zero => intro _ _; rfl
  | succ i ih =>
    intro hi h
    have a := ih (by omega) h
    have b := h i (by omega)
    show cntN (less x y : Int) i + (if bit (less x y : Int) i = true then 1 else 0) + (cntN (y : Int) i + (if bit (y : Int) i = true then 1 else 0)) = cntN (x : Int) i + (if bit (x : Int) i = true then 1 else 0)
    rw [bit_nat, bit_nat, bit_nat, less_bit x y (by omega)]
    cases hx : x.testBit i <;> cases hy : y.testBit i
    · simp; omega
    · rw [hx] at b; exact absurd (b hy) (by decide)
    · simp; omega
    · simp; omega
theorem cntN_pos {y j : Nat} (h : y.testBit j = true) : ∀ i : Nat, j < i → 1 ≤ cntN (y : Int) i := by
  intro i
  induction i with
  | zero => intro q; omega
  | succ i ih =>
    intro q
    show 1 ≤ cntN (y : Int) i + (if bit (y : Int) i = true then 1 else 0)
    by_cases e : j = i
    · rw [← e, bit_nat, h, if_pos rfl]; omega
    · have := ih (by omega); omega
theorem Part.le {R : Nat → Prop} : ∀ (k x : Nat), Part R k x → k ≤ cntN (x : Int) 8 := by
  intro k
  induction k with
  | zero => exact fun x _ => Nat.zero_le _
  | succ k ih =>
    rintro x ⟨y, hy, hs, hn, hr, hp⟩
    obtain ⟨j, hj⟩ := lowB_ex hy hn
    have := cntN_pos hj.2.1 8 hj.1
    have := cntN_sub (x := x) (y := y) 8 (Nat.le_refl _) hs
    have := ih _ hp
    omega
theorem Part.mono {R R' : Nat → Prop} (hR : ∀ y : Nat, y < 256 → R y → R' y) : ∀ (k x : Nat), Part R k x → Part R' k x := by
  intro k
  induction k with
  | zero => exact fun x h => h
  | succ k ih =>
    rintro x ⟨y, hy, hs, hn, hr, hp⟩
    exact ⟨y, hy, hs, hn, hR _ hy hr, ih _ hp⟩
/-- v is how few rooms do, inf if none do -/
def LK (R : Nat → Prop) (x : Nat) (inf v : Int) : Prop := (v = inf ∧ ∀ k : Nat, ¬ Part R k x) ∨ ∃ k : Nat, v = k ∧ k ≤ 8 ∧ Part R k x ∧ ∀ j : Nat, Part R j x → k ≤ j
end PROOMS

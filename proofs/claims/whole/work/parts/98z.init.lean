section PINIT
theorem i0_a : jM0 0 0 = 0 ∧ jM0 0 1 = jM0 167 3 ∧ jM0 0 2 = jM0 167 4 ∧ jM0 167 2 = 0 ∧ jM0 9 1 = 0 ∧ jM0 167 10 = 0 ∧ jM0 9 2 = jM0 167 16 ∧ jM0 9 3 = jM0 167 17 ∧ jM0 86 0 = -1 ∧ jM0 167 37 = 0 ∧ jM0 0 13 = 0 ∧ jM0 167 38 = 0 := by decide +kernel
theorem i0_b : ∀ t : Nat, t < 4 → jM0 7 t = -1 ∧ jM0 171 t = -1 := by decide +kernel
theorem i0_c : jM0 40 0 = 0 ∧ jM0 40 1 = 0 ∧ jM0 40 2 = 0 ∧ jM0 40 3 = jM0 168 3 ∧ 0 ≤ jM0 168 3 ∧ jM0 168 3 ≤ 16 ∧ jM0 40 4 = 0 ∧ jM0 168 0 = 0 ∧ jM0 168 1 = 0 ∧ jM0 168 2 = 0 ∧ jM0 168 4 = 0 ∧ jM0 168 5 = 0 ∧ jM0 168 6 = 0 ∧ jM0 168 7 = -1 ∧ jM0 52 0 = 0 ∧ jM0 52 1 = 0 ∧ jM0 52 2 = 0 ∧ jM0 52 3 = 0 ∧ jM0 52 4 = 0 ∧ jM0 60 0 = 0 := by decide +kernel
theorem i0_d : ∀ t : Nat, t < 8 → jM0 54 t = 0 ∧ (t < 6 → jM0 55 t = 0) ∧ jM0 56 t = 0 := by decide +kernel
theorem JR_of0 {M : JMem} (ha : M 0 0 = 0 ∧ M 0 1 = M 167 3 ∧ M 0 2 = M 167 4 ∧ M 167 2 = 0 ∧ M 9 1 = 0 ∧ M 167 10 = 0 ∧ M 9 2 = M 167 16 ∧ M 9 3 = M 167 17 ∧ M 86 0 = -1 ∧ M 167 37 = 0 ∧ M 0 13 = 0 ∧ M 167 38 = 0)
    (i0_b : ∀ t : Nat, t < 4 → M 7 t = -1 ∧ M 171 t = -1)
    (hc : M 40 0 = 0 ∧ M 40 1 = 0 ∧ M 40 2 = 0 ∧ M 40 3 = M 168 3 ∧ 0 ≤ M 168 3 ∧ M 168 3 ≤ 16 ∧ M 40 4 = 0 ∧ M 168 0 = 0 ∧ M 168 1 = 0 ∧ M 168 2 = 0 ∧ M 168 4 = 0 ∧ M 168 5 = 0 ∧ M 168 6 = 0 ∧ M 168 7 = -1 ∧ M 52 0 = 0 ∧ M 52 1 = 0 ∧ M 52 2 = 0 ∧ M 52 3 = 0 ∧ M 52 4 = 0 ∧ M 60 0 = 0)
    (i0_d : ∀ t : Nat, t < 8 → M 54 t = 0 ∧ (t < 6 → M 55 t = 0) ∧ M 56 t = 0) (hk : M 11 = jM0 11) : JR M := by
  obtain ⟨a1, a2, a3, a4, a5, a6, a7, a8, a9, a10, a11, a12⟩ := ha
  obtain ⟨c0, c1, c2, c3, c3a, c3b, c4, d0, d1, d2, d4, d5, d6, d7, e0, e1, e2, e3, e4, g0⟩ := hc
  have z8 : ∀ {x : Int} {P : Nat → Prop}, x = 0 → (∀ b : Nat, b < 8 → ¬ P b) → S8 x ∧ ∀ b : Nat, b < 8 → (bit x b = true ↔ P b) := fun hx hp => by
    rw [hx]
    exact ⟨S8_0, fun b b8 => by rw [bit0]; exact ⟨fun q => absurd q (by decide), fun q => absurd q (hp b b8)⟩⟩
  refine JR.of ⟨by rw [a1, a4], by rw [a2], by rw [a3]⟩ (fun t ht => Or.inl (i0_b t ht)) ⟨⟨by rw [a5, a6], by omega, by omega⟩, fun k k1 k2 => by omega, a7, a8, fun k _ => by rw [hk]⟩ (Or.inl ⟨a9, a10⟩) ?_ ?_ ?_ ?_ ?_
  · unfold RP
    refine ⟨⟨by rw [d0]; exact c0, by omega, by omega⟩, ⟨by rw [d1]; exact c1, by omega, by omega⟩, ⟨by rw [d2]; exact c2, by omega, by omega⟩, ⟨c3, c3a, c3b⟩, fun q => by omega, fun t t8 q => by omega, fun b b8 q => by omega⟩
  · unfold RN
    have n2 : ∀ b : Nat, b < 8 → blk M 52 8 2 b = 0 := fun b b8 => (i0_d b b8).1
    have n4 : ∀ t : Nat, t < 8 → blk M 52 8 4 t = 0 := fun b b8 => (i0_d b b8).2.2
    refine ⟨⟨by rw [d4]; exact e0, by omega, by omega⟩, ⟨by rw [d5]; exact e1, by omega, by omega⟩, z8 e2 (fun b _ q => by omega), fun b _ q => by omega, z8 e3 (fun b _ q => by omega), fun b _ q => by omega, z8 e4 (fun b _ q => by omega), fun b _ q => by omega, fun b _ q => by omega, fun b _ q => by omega, fun b b8 _ => n2 b b8, fun b b8 => by rw [n2 b b8, d4]; omega, ?_, fun p p6 => z8 ((i0_d p (by omega)).2.1 p6) (fun b _ q => by omega), fun t t8 => z8 (n4 t t8) (fun b _ q => by omega), fun b _ q => by omega, fun t t8 b b8 q => ?_⟩
    · rw [d6, n2 0 (by omega), n2 1 (by omega), n2 2 (by omega), n2 3 (by omega), n2 4 (by omega), n2 5 (by omega), n2 6 (by omega), n2 7 (by omega)]
      rfl
    · rw [n4 t t8, bit0] at q
      cases q
  · have p0 : blk M 40 12 0 0 = 0 := c0
    have p1 : blk M 40 12 0 1 = 0 := c1
    have p2 : blk M 40 12 0 2 = 0 := c2
    have p4 : blk M 40 12 0 4 = 0 := c4
    unfold RK
    rw [p0, p1, p2, p4]
    refine ⟨rfl, fun _ => [], fun i q => by omega, fun i j q => by omega, fun i q => by omega, fun k q => by omega, fun k q => by omega, fun k q => by omega⟩
  · exact Or.inl ⟨g0, d7⟩
  · exact ⟨by rw [a11, a12], by omega, by omega, fun i _ q => by omega⟩
theorem JR0 : JR jM0 := JR_of0 i0_a i0_b i0_c i0_d rfl
end PINIT

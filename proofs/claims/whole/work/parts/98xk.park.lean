section PPARK
variable {n : Nat} {M X M0 X0 : JMem} {T : Nat → Int} {N s s0 k : Nat} {w : List Nat} {v : Int} {a a' : Nat → Int}
/-! a whole PARK -/
theorem jw8_of {x : Int} (h1 : -128 ≤ x) (h2 : x < 128) : jw8 x = x := by
  unfold jw8
  rw [Int.bmod_eq_of_le] <;> omega
theorem q_begin {m : Nat} (hm : m ≤ 900) : ∀ (d i q : Nat) (X : JMem), i + d = m → d < q → ∃ X1, f_X12_begins_L26 n q (m : Int) (i : Int) X = f_X12_begins_L49 n X1 ∧ (∀ c : Nat, c ≠ 174 → X1 c = X c) ∧ ∀ u : Nat, X1 174 u = if i ≤ u ∧ u < m then jw8 (X 173 u) else X 174 u := by
  intro d
  induction d with
  | zero =>
    intro i q X hi hq
    obtain ⟨q, rfl⟩ : ∃ z, q = z + 1 := ⟨q - 1, by omega⟩
    obtain rfl : i = m := by omega
    exact ⟨X, by rw [f_X12_begins_L26, if_pos (Int.le_refl _)], fun _ _ => rfl, fun u => by rw [if_neg (by omega)]⟩
  | succ d ih =>
    intro i q X hi hq
    obtain ⟨q, rfl⟩ : ∃ z, q = z + 1 := ⟨q - 1, by omega⟩
    obtain ⟨X1, r1, r2, r3⟩ := ih (i + 1) q (jup X 174 i (jw8 (X 173 i))) (by omega) (by omega)
    refine ⟨X1, ?_, fun c hc => by rw [r2 c hc, jup_cell hc], fun u => ?_⟩
    · rw [f_X12_begins_L26, if_neg (by rw [jwN (by omega), jwN (by omega)]; omega), chk_pos (jinN (by omega) (by omega)), chk_pos (jinN (by omega) (by omega)), jwT (by omega), letm_ap, letv_ap, show (i : Int) + 1 = ((i + 1 : Nat) : Int) by omega]
      exact r1
    · rw [r3 u, jup_cell (by omega), jup_if]
      by_cases e : u = i
      · rw [if_neg (by omega), if_pos e, if_pos (by omega), e]
      · by_cases c : i + 1 ≤ u ∧ u < m
        · rw [if_pos c, if_pos (by omega)]
        · rw [if_neg c, if_neg e, if_neg (by omega)]
theorem q_plainL : ∀ (d i q : Nat) (X : JMem), i + d = 504 → d < q → ∃ X1, f_X12_plain_L2 n q 2016 (i : Int) X = f_X12_plain_L24 n 2016 X1 ∧ (∀ c : Nat, c ≠ 168 → X1 c = X c) ∧ ∀ u : Nat, X1 168 u = if 2016 + i ≤ u ∧ u < 2520 then 0 else X 168 u := by
  intro d
  induction d with
  | zero =>
    intro i q X hi hq
    obtain ⟨q, rfl⟩ : ∃ z, q = z + 1 := ⟨q - 1, by omega⟩
    obtain rfl : i = 504 := by omega
    exact ⟨X, by rw [f_X12_plain_L2, if_pos (by decide)], fun _ _ => rfl, fun u => by rw [if_neg (by omega)]⟩
  | succ d ih =>
    intro i q X hi hq
    obtain ⟨q, rfl⟩ : ∃ z, q = z + 1 := ⟨q - 1, by omega⟩
    obtain ⟨X1, r1, r2, r3⟩ := ih (i + 1) q (jup X 168 (2016 + i) 0) (by omega) (by omega)
    refine ⟨X1, ?_, fun c hc => by rw [r2 c hc, jup_cell hc], fun u => ?_⟩
    · rw [f_X12_plain_L2, if_neg (by rw [jwN (by omega), show jw 504 = 504 by decide]; omega), show (2016 : Int) + (i : Int) = ((2016 + i : Nat) : Int) by omega, chk_pos (jinN (by omega) (by omega)), jwT (by omega), letm_ap, letv_ap, show (i : Int) + 1 = ((i + 1 : Nat) : Int) by omega]
      exact r1
    · rw [r3 u, jup_if]
      by_cases e : u = 2016 + i
      · rw [if_neg (by omega), if_pos e, if_pos (by omega)]
      · by_cases c : 2016 + (i + 1) ≤ u ∧ u < 2520
        · rw [if_pos c, if_pos (by omega)]
        · rw [if_neg c, if_neg e, if_neg (by omega)]
theorem q_plain (hn : 2000 ≤ n) : ∃ X1, f_X12_plain n 2016 X = some (0, X1) ∧ (∀ c : Nat, c ≠ 168 → X1 c = X c) ∧ ∀ u : Nat, X1 168 u = if u = 2023 then -1 else if u = 2019 then 2 else if 2016 ≤ u ∧ u < 2520 then 0 else X 168 u := by
  obtain ⟨X1, r1, r2, r3⟩ := q_plainL (n := n) 504 0 n X (by omega) (by omega)
  refine ⟨jup (jup X1 168 2019 2) 168 2023 (-1), ?_, fun c hc => by rw [jup_cell hc, jup_cell hc, r2 c hc], fun u => ?_⟩
  · unfold f_X12_plain
    rw [letv_ap, show f_X12_plain_L2 n n 2016 0 X = _ from r1]
    unfold f_X12_plain_L24
    rw [chk_pos (by decide), letm_ap, chk_pos (by decide), letm_ap, show (jw (2016 + 3)).toNat = 2019 by decide, show (jw (2016 + 7)).toNat = 2023 by decide]
  · rw [jup_if, jup_if, r3 u, Nat.add_zero]
theorem c_clearL : ∀ (d i q : Nat) (M : JMem), i + d = 8 → d < q → ∃ M1, f_X1_clear_L22 n 25 13 q (i : Int) M = f_X1_clear_L48 n 25 13 M1 ∧ (∀ c : Nat, c ≠ 26 → c ≠ 27 → M1 c = M c) ∧ ∀ u : Nat, (M1 26 u = if i ≤ u ∧ u < 8 then 0 else M 26 u) ∧ (M1 27 u = if i ≤ u ∧ u < 8 then 0 else M 27 u) := by
  intro d
  induction d with
  | zero =>
    intro i q M hi hq
    obtain ⟨q, rfl⟩ : ∃ z, q = z + 1 := ⟨q - 1, by omega⟩
    obtain rfl : i = 8 := by omega
    exact ⟨M, by rw [f_X1_clear_L22, if_pos (by decide)], fun _ _ _ => rfl, fun u => ⟨by rw [if_neg (by omega)], by rw [if_neg (by omega)]⟩⟩
  | succ d ih =>
    intro i q M hi hq
    obtain ⟨q, rfl⟩ : ∃ z, q = z + 1 := ⟨q - 1, by omega⟩
    obtain ⟨M1, r1, r2, r3⟩ := ih (i + 1) q (jup (jup M 26 i 0) 27 i 0) (by omega) (by omega)
    refine ⟨M1, ?_, fun c c1 c2 => by rw [r2 c c1 c2, jup_cell c2, jup_cell c1], fun u => ?_⟩
    · rw [f_X1_clear_L22, if_neg (by rw [jwN (by omega), show jw 8 = 8 by decide]; omega), chk_pos (jinN (by omega) (by omega)), jwT (by omega), letm_ap, chk_pos (jinN (by omega) (by omega)), letm_ap, letv_ap, show (i : Int) + 1 = ((i + 1 : Nat) : Int) by omega]
      exact r1
    · have key : ∀ x y : Int, (x = if i + 1 ≤ u ∧ u < 8 then 0 else (if u = i then 0 else y)) → x = if i ≤ u ∧ u < 8 then 0 else y := fun x y h => by
        rw [h]
        by_cases e : u = i
        · rw [if_neg (by omega), if_pos e, if_pos (by omega)]
        · by_cases c : i + 1 ≤ u ∧ u < 8
          · rw [if_pos c, if_pos (by omega)]
          · rw [if_neg c, if_neg e, if_neg (by omega)]
      refine ⟨key _ _ ?_, key _ _ ?_⟩
      · rw [(r3 u).1, jup_cell (show 26 ≠ 27 by omega), jup_if]
      · rw [(r3 u).2, jup_if, jup_cell (show 27 ≠ 26 by omega)]
theorem c_clear (hn : 2000 ≤ n) (h2 : M 13 2 = 0) : ∃ M', f_X1_clear n 25 13 M = some (0, M') ∧ (∀ c : Nat, c < 25 ∨ 33 ≤ c → M' c = M c) ∧ M' 25 0 = 0 ∧ M' 25 2 = 0 ∧ M' 25 3 = 0 ∧ M' 25 4 = 0 ∧ ∀ b : Nat, b < 8 → M' 26 b = 0 ∧ M' 27 b = 0 := by
  obtain ⟨M1, r1, r2, r3⟩ := c_clearL (n := n) 8 0 n (jup (jup (jup (jup M 25 0 0) 25 2 0) 25 3 0) 25 4 0) (by omega) (by omega)
  have e25 : ∀ j : Nat, M1 25 j = if j = 4 then 0 else if j = 3 then 0 else if j = 2 then 0 else if j = 0 then 0 else M 25 j := fun j => by
    rw [r2 25 (by omega) (by omega), jup_if, jup_if, jup_if, jup_if]
  have ec : ∀ c : Nat, c < 25 ∨ 28 ≤ c → M1 c = M c := fun c hc => by
    rw [r2 c (by omega) (by omega), jup_cell (by omega), jup_cell (by omega), jup_cell (by omega), jup_cell (by omega)]
  obtain ⟨M2, s1, s2, s3, s4, -⟩ := c_cage (n := n) (M := M1) (th := 25) (p := 13) (by omega) (by omega) (by rw [ec 13 (by omega), h2]; omega) (by rw [e25]; exact S8_0)
  refine ⟨M2, ?_, fun c hc => by rw [s2 c (by omega) (by omega) (by omega), ec c (by omega)], by rw [s3 0 (by omega), e25]; rfl, by rw [s3 2 (by omega), e25]; rfl, by rw [s3 3 (by omega), e25]; rfl, by rw [s3 4 (by omega), e25]; rfl, fun b b8 => ?_⟩
  · unfold f_X1_clear
    rw [letm_ap, letm_ap, letm_ap, letm_ap, letv_ap, show f_X1_clear_L22 n 25 13 n 0 _ = _ from r1]
    unfold f_X1_clear_L48
    rw [s1, bnd_some]
  · rw [s2 26 (by omega) (by omega) (by omega), s2 27 (by omega) (by omega) (by omega), (r3 b).1, (r3 b).2, if_pos (show 0 ≤ b ∧ b < 8 by omega), if_pos (show 0 ≤ b ∧ b < 8 by omega)]
    exact ⟨rfl, rfl⟩
/-- all are in the cages at last -/
theorem RQ.rn {M' : JMem} {A : Nat → Int} (hQ : RQ M A) (hP : RP (blk M 13 12) A) (h1 : ∀ c : Nat, c ≠ 25 → c ≠ 28 → c ≠ 29 → M' c = M c) (h2 : ∀ j : Nat, j ≠ 1 → M' 25 j = M 25 j) (h3 : M' 25 1 = 0) (h4 : ∀ t : Nat, t < 8 → M' 29 t = 0) (h5 : ∀ q : Nat, 0 < q → q < 6 → M' 28 q = 0) (h6 : S8 (M' 28 0)) (h7 : ∀ b : Nat, b < 8 → (bit (M' 28 0) b = true ↔ (b : Int) < M 13 2 ∧ ¬ bit (M 25 3) b = true)) : RN (blk M' 25 8) A := by
  obtain ⟨f1, f2, f3, f4, f5, f6, f7, f8, f9, f10, f11⟩ := hQ
  have n2 : M 13 2 = A 2 := hP.2.2.1.1
  have a0 := hP.2.2.2.2.1
  have b0 : ∀ j : Nat, blk M' 25 8 0 j = M' 25 j := fun j => rfl
  have b1 : ∀ j : Nat, blk M' 25 8 1 j = M 26 j := fun j => by rw [blk_at (by omega), h1 _ (by omega) (by omega) (by omega)]
  have b2 : ∀ j : Nat, j < 8 → blk M' 25 8 2 j = 0 := fun j hj => by rw [blk_at (by omega), h1 _ (by omega) (by omega) (by omega)]; exact f9 j hj
  have b3 : ∀ j : Nat, blk M' 25 8 3 j = M' 28 j := fun j => rfl
  have b4 : ∀ j : Nat, j < 8 → blk M' 25 8 4 j = 0 := fun j hj => h4 j hj
  have z0 : ∀ {P : Prop} (b : Nat), ¬ P → (bit 0 b = true ↔ P) := fun b hb => by rw [bit0]; exact ⟨fun q => absurd q (by decide), fun q => absurd q hb⟩
  unfold RN
  rw [b0 0, b0 1, b0 2, b0 3, b0 4, h2 0 (by omega), h3, h2 2 (by omega), h2 3 (by omega), h2 4 (by omega), f1, f2, f3, f4, f5, f6, b2 0 (by omega), b2 1 (by omega), b2 2 (by omega), b2 3 (by omega), b2 4 (by omega), b2 5 (by omega), b2 6 (by omega), b2 7 (by omega)]
  have al : ∀ b : Nat, b < 8 → A (59 + 10 * b) = 0 := fun b b8 => by
    by_cases c : (b : Int) < A 2
    · exact (f10 b b8 c).2.1
    · exact (f11 b b8 (by omega)).2.1
  refine ⟨⟨rfl, by omega, by omega⟩, ⟨rfl, by omega, by omega⟩, f7, fun b b8 hb => (f10 b b8 hb).1, ⟨S8_0, fun b b8 => z0 b (fun q => by have := al b b8; omega)⟩, fun b b8 hb => Or.inl (al b b8), ⟨S8_0, fun t t8 => z0 t (fun q => by have := f8 t t8; omega)⟩, fun t t8 _ => Or.inl (f8 t t8), fun b b8 hb => ?_, fun b b8 hb => ?_, fun b b8 _ => b2 b b8, fun b b8 => ?_, rfl, fun p p6 => ?_, fun t t8 => ?_, fun b b8 hb _ => ?_, fun t t8 b b8 hb => ?_⟩
  · rw [b1 b]
    obtain ⟨g1, g2, g3, g4, g5, g6, g7⟩ := f10 b b8 hb
    exact ⟨g4, g5, g6⟩
  · rw [b2 b b8, (f10 b b8 hb).2.2.1]
  · rw [b2 b b8]; omega
  · rw [b3 p]
    by_cases c : p = 0
    · subst c
      refine ⟨h6, fun b b8 => ?_⟩
      rw [h7 b b8, n2, f2, bit0]
      constructor
      · intro q
        exact ⟨q.1, by rw [al b b8]; decide, (f10 b b8 q.1).2.2.2.2.2.2⟩
      · intro q
        exact ⟨q.1, by decide⟩
    · rw [h5 p (by omega) p6]
      refine ⟨S8_0, fun b b8 => z0 b (fun q => ?_)⟩
      have := (f10 b b8 q.1).2.2.2.2.2.2
      omega
  · rw [b4 t t8]
    refine ⟨S8_0, fun b b8 => z0 b (fun q => ?_)⟩
    have := (f10 b b8 q.1).2.2.2.2.2.2
    omega
  · have := (f10 b b8 hb).2.2.2.2.2.2
    have := a0 (by omega)
    exact Or.inl ⟨by omega, by omega⟩
  · rw [b4 t t8, bit0] at hb
    cases hb
end PPARK

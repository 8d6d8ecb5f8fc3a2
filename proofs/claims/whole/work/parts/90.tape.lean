section PTAPE
variable {n : Nat} {M : JMem}
/-! feed -/
def fb (x : Int) (j : Nat) : Int := jw8 (jw8 (jshr x (24 - 8 * (j : Int))))
theorem jw8_range (x : Int) : -128 ≤ jw8 x ∧ jw8 x < 128 := by
  have h1 := @Int.le_bmod x (2 ^ 8) (by decide)
  have h2 := @Int.bmod_lt x (2 ^ 8) (by decide)
  unfold jw8
  omega
theorem c_add_L {x : Int} {f : Nat} (hf : f + 4 ≤ 900) : ∀ (d i k : Nat) (v : Int) (M : JMem), i + d = 4 → d < k → v = 24 - 8 * (i : Int) → M 9 1 = ((f + i : Nat) : Int) → ∃ M', f_X6_add_L3 n k x v M = some (0, M') ∧ M' 9 1 = ((f + 4 : Nat) : Int) ∧ (∀ j : Nat, j ≠ 1 → M' 9 j = M 9 j) ∧ (∀ c : Nat, c ≠ 9 → c ≠ 10 → M' c = M c) ∧ ∀ q : Nat, M' 10 q = if f + i ≤ q ∧ q < f + 4 then fb x (q - f) else M 10 q := by
  intro d
  induction d with
  | zero =>
    intro i k v M hi hk hv h9
    obtain ⟨k, rfl⟩ : ∃ q, k = q + 1 := ⟨k - 1, by omega⟩
    obtain rfl : i = 4 := by omega
    refine ⟨M, ?_, h9, fun _ _ => rfl, fun _ _ _ => rfl, fun q => by rw [if_neg (by omega)]⟩
    rw [f_X6_add_L3, if_pos (by rw [hv]; decide)]
  | succ d ih =>
    intro i k v M hi hk hv h9
    obtain ⟨k, rfl⟩ : ∃ q, k = q + 1 := ⟨k - 1, by omega⟩
    obtain ⟨M', r1, r2, r3, r4, r5⟩ := ih (i + 1) k (v + (-8)) (jup (jup M 10 (f + i) (fb x i)) 9 1 ((f + i : Nat) + 1)) (by omega) (by omega) (by omega) (by rw [jup_if, if_pos rfl]; omega)
    refine ⟨M', ?_, r2, fun j hj => by rw [r3 j hj, jup_if, if_neg hj, jup_cell (by omega)], fun c c1 c2 => by rw [r4 c c1 c2, jup_cell c1, jup_cell c2], fun q => ?_⟩
    · rw [f_X6_add_L3, if_neg (by rw [jw_of (x := v) (by omega) (by omega)]; omega), if_neg (by rw [h9, show jw 900 = 900 by decide, jw_of (x := ((f + i : Nat) : Int)) (by omega) (by omega)]; omega), h9, chk_pos (jin_of (by omega) (by omega) (by omega)), show (jw ((f + i : Nat) : Int)).toNat = f + i from jwb (by omega)]
      simp only [letv_ap, letm_ap]
      rw [show jup M 10 (f + i) (jw8 (jw8 (jshr x v))) 9 1 = M 9 1 by rw [jup_cell (by omega)], h9, show jw8 (jw8 (jshr x v)) = fb x i by rw [hv]; rfl]
      exact r1
    · rw [r5 q, jup_cell (by omega), jup_if]
      by_cases e : q = f + i
      · rw [if_neg (by omega), if_pos e, if_pos (by omega), show q - f = i by omega]
      · by_cases c : f + (i + 1) ≤ q ∧ q < f + 4
        · rw [if_pos c, if_pos (by omega)]
        · rw [if_neg c, if_neg e, if_neg (by omega)]
theorem q_four_L {x : Int} {f : Nat} (hf : f + 4 ≤ 900) : ∀ (d i k : Nat) (v : Int) (M : JMem), i + d = 4 → d < k → v = 24 - 8 * (i : Int) → M 167 10 = ((f + i : Nat) : Int) → ∃ M', f_X12_four_L3 n k x v M = some (0, M') ∧ M' 167 10 = ((f + 4 : Nat) : Int) ∧ (∀ j : Nat, j ≠ 10 → M' 167 j = M 167 j) ∧ (∀ c : Nat, c ≠ 167 → c ≠ 173 → M' c = M c) ∧ ∀ q : Nat, M' 173 q = if f + i ≤ q ∧ q < f + 4 then fb x (q - f) else M 173 q := by
  intro d
  induction d with
  | zero =>
    intro i k v M hi hk hv h9
    obtain ⟨k, rfl⟩ : ∃ q, k = q + 1 := ⟨k - 1, by omega⟩
    obtain rfl : i = 4 := by omega
    refine ⟨M, ?_, h9, fun _ _ => rfl, fun _ _ _ => rfl, fun q => by rw [if_neg (by omega)]⟩
    rw [f_X12_four_L3, if_pos (by rw [hv]; decide)]
  | succ d ih =>
    intro i k v M hi hk hv h9
    obtain ⟨k, rfl⟩ : ∃ q, k = q + 1 := ⟨k - 1, by omega⟩
    obtain ⟨M', r1, r2, r3, r4, r5⟩ := ih (i + 1) k (v + (-8)) (jup (jup M 173 (f + i) (fb x i)) 167 10 ((f + i : Nat) + 1)) (by omega) (by omega) (by omega) (by rw [jup_if, if_pos rfl]; omega)
    refine ⟨M', ?_, r2, fun j hj => by rw [r3 j hj, jup_if, if_neg hj, jup_cell (by omega)], fun c c1 c2 => by rw [r4 c c1 c2, jup_cell c1, jup_cell c2], fun q => ?_⟩
    · rw [f_X12_four_L3, if_neg (by rw [jw_of (x := v) (by omega) (by omega)]; omega), h9, chk_pos (jin_of (by omega) (by omega) (by omega)), show (jw ((f + i : Nat) : Int)).toNat = f + i from jwb (by omega)]
      simp only [letv_ap, letm_ap]
      rw [show jup M 173 (f + i) (jw8 (jw8 (jshr x v))) 167 10 = M 167 10 by rw [jup_cell (by omega)], h9, show jw8 (jw8 (jshr x v)) = fb x i by rw [hv]; rfl]
      exact r1
    · rw [r5 q, jup_cell (by omega), jup_if]
      by_cases e : q = f + i
      · rw [if_neg (by omega), if_pos e, if_pos (by omega), show q - f = i by omega]
      · by_cases c : f + (i + 1) ≤ q ∧ q < f + 4
        · rw [if_pos c, if_pos (by omega)]
        · rw [if_neg c, if_neg e, if_neg (by omega)]
theorem c_add {x : Int} {f : Nat} (hn : 100 ≤ n) (hf : f + 4 ≤ 900) (h9 : M 9 1 = (f : Int)) : ∃ M', f_X6_add n x M = some (0, M') ∧ M' 9 1 = ((f + 4 : Nat) : Int) ∧ (∀ j : Nat, j ≠ 1 → M' 9 j = M 9 j) ∧ (∀ c : Nat, c ≠ 9 → c ≠ 10 → M' c = M c) ∧ ∀ q : Nat, M' 10 q = if f ≤ q ∧ q < f + 4 then fb x (q - f) else M 10 q :=
  c_add_L (n := n) hf 4 0 n 24 M (by omega) (by omega) (by omega) h9
theorem q_four {x : Int} {f : Nat} (hn : 100 ≤ n) (hf : f + 4 ≤ 900) (h9 : M 167 10 = (f : Int)) : ∃ M', f_X12_four n x M = some (0, M') ∧ M' 167 10 = ((f + 4 : Nat) : Int) ∧ (∀ j : Nat, j ≠ 10 → M' 167 j = M 167 j) ∧ (∀ c : Nat, c ≠ 167 → c ≠ 173 → M' c = M c) ∧ ∀ q : Nat, M' 173 q = if f ≤ q ∧ q < f + 4 then fb x (q - f) else M 173 q :=
  q_four_L (n := n) hf 4 0 n 24 M (by omega) (by omega) (by omega) h9
/-- both tapes, so far -/
def TX (f : Nat) (M X : JMem) : Prop := ∀ k : Nat, k < f → M 10 k = X 173 k ∧ -128 ≤ M 10 k ∧ M 10 k < 128
theorem TX.next {f : Nat} {x : Int} {M X M' X' : JMem} (h : TX f M X) (h1 : ∀ q : Nat, M' 10 q = if f ≤ q ∧ q < f + 4 then fb x (q - f) else M 10 q) (h2 : ∀ q : Nat, X' 173 q = if f ≤ q ∧ q < f + 4 then fb x (q - f) else X 173 q) : TX (f + 4) M' X' := by
  intro k hk
  rw [h1 k, h2 k]
  by_cases c : f ≤ k ∧ k < f + 4
  · rw [if_pos c, if_pos c]
    exact ⟨rfl, jw8_range _⟩
  · rw [if_neg c, if_neg c]
    exact h k (by omega)
theorem p_feed (hf : 100 ≤ n) : jO_feed JR n := by
  intro x1 x2 x3 x4 x5 _ _ _ _ _ M h
  have g3 := h.2.2.1
  obtain ⟨⟨t1, t2, t3⟩, t4, t5, t6, t7⟩ := g3
  obtain ⟨f, f900, ef⟩ := natOf (x := M 9 1) (k := 901) t2 (by omega)
  have er : M 167 10 = (f : Int) := by rw [← t1]; exact ef
  have c9 : jw 900 = 900 := by decide
  by_cases c : f + 20 ≤ 900
  · obtain ⟨M1, a1, a2, a3, a4, a5⟩ := c_add (n := n) (M := M) (x := x1) hf (f := f) (by omega) ef
    obtain ⟨M2, b1, b2, b3, b4, b5⟩ := c_add (n := n) (M := M1) (x := x2) hf (f := f + 4) (by omega) a2
    obtain ⟨M3, d1, d2, d3, d4, d5⟩ := c_add (n := n) (M := M2) (x := x3) hf (f := f + 4 + 4) (by omega) b2
    obtain ⟨M4, e1, e2, e3, e4, e5⟩ := c_add (n := n) (M := M3) (x := x4) hf (f := f + 4 + 4 + 4) (by omega) d2
    obtain ⟨M5, g1, g2, g3, g4, g5⟩ := c_add (n := n) (M := M4) (x := x5) hf (f := f + 4 + 4 + 4 + 4) (by omega) e2
    have k5 : ∀ c : Nat, c ≠ 9 → c ≠ 10 → M5 c = M c := fun c c1 c2 => by rw [g4 c c1 c2, e4 c c1 c2, d4 c c1 c2, b4 c c1 c2, a4 c c1 c2]
    obtain ⟨X1, p1, p2, p3, p4, p5⟩ := q_four (n := n) (M := M5) (x := x1) hf (f := f) (by omega) (by rw [k5 167 (by omega) (by omega)]; exact er)
    obtain ⟨X2, q1, q2, q3, q4, q5⟩ := q_four (n := n) (M := X1) (x := x2) hf (f := f + 4) (by omega) p2
    obtain ⟨X3, r1, r2, r3, r4, r5⟩ := q_four (n := n) (M := X2) (x := x3) hf (f := f + 4 + 4) (by omega) q2
    obtain ⟨X4, s1, s2, s3, s4, s5⟩ := q_four (n := n) (M := X3) (x := x4) hf (f := f + 4 + 4 + 4) (by omega) r2
    obtain ⟨X5, u1, u2, u3, u4, u5⟩ := q_four (n := n) (M := X4) (x := x5) hf (f := f + 4 + 4 + 4 + 4) (by omega) s2
    have T0 : TX f M M5 := fun k hk => by
      rw [k5 173 (by omega) (by omega)]
      exact t4 k (by omega) (by omega)
    have T5 := ((((T0.next a5 p5).next b5 q5).next d5 r5).next e5 s5).next g5 u5
    have kX : ∀ c : Nat, c ≠ 167 → c ≠ 173 → X5 c = M5 c := fun c c1 c2 => by rw [u4 c c1 c2, s4 c c1 c2, r4 c c1 c2, q4 c c1 c2, p4 c c1 c2]
    have k67 : ∀ j : Nat, j ≠ 10 → X5 167 j = M 167 j := fun j hj => by rw [u3 j hj, s3 j hj, r3 j hj, q3 j hj, p3 j hj, k5 167 (by omega) (by omega)]
    have k9 : ∀ j : Nat, j ≠ 1 → M5 9 j = M 9 j := fun j hj => by rw [g3 j hj, e3 j hj, d3 j hj, b3 j hj, a3 j hj]
    refine ⟨((f + 4 + 4 + 4 + 4 + 4 : Nat) : Int), M5, ((f + 4 + 4 + 4 + 4 + 4 : Nat) : Int), X5, ?_, ?_, rfl, h.rest ?_ (fun j hj => ?_) (fun j hj => k67 j (by omega)) (fun c hc => by rw [kX c (by omega) (by omega), k5 c (by omega) (by omega)]) ?_ ?_⟩
    · unfold f_X11_feed
      rw [ef, if_pos (by rw [c9, jw_of (x := (f : Int) + 20) (by omega) (by omega)]; omega), a1, bnd_some, b1, bnd_some, d1, bnd_some, e1, bnd_some, g1, bnd_some, g2]
    · unfold f_X12_feed
      rw [show M5 167 10 = (f : Int) by rw [k5 167 (by omega) (by omega)]; exact er, if_pos (by rw [c9, jw_of (x := (f : Int) + 20) (by omega) (by omega)]; omega), p1, bnd_some, q1, bnd_some, r1, bnd_some, s1, bnd_some, u1, bnd_some, u2]
    · rw [kX 0 (by omega) (by omega), k5 0 (by omega) (by omega), k67 2 (by omega)]; exact h.1.1
    · rw [kX 0 (by omega) (by omega), k5 0 (by omega) (by omega)]
    · rw [kX 7 (by omega) (by omega), kX 8 (by omega) (by omega), kX 170 (by omega) (by omega), kX 171 (by omega) (by omega), kX 172 (by omega) (by omega), k5 7 (by omega) (by omega), k5 8 (by omega) (by omega), k5 170 (by omega) (by omega), k5 171 (by omega) (by omega), k5 172 (by omega) (by omega), jwt_congr (M := M) (fun c c1 c2 => by rw [kX c (by omega) (by omega), k5 c (by omega) (by omega)])]
      exact h.2.1
    · rw [kX 9 (by omega) (by omega), kX 10 (by omega) (by omega), kX 11 (by omega) (by omega)]
      refine ⟨⟨by rw [g2, u2], by rw [g2]; omega, by rw [g2]; omega⟩, fun k k9 hk => ?_, ?_, ?_, fun k hk => ?_⟩
      · rw [g2] at hk
        exact T5 k (by omega)
      · rw [k9 2 (by omega), k67 16 (by omega)]; exact t5
      · rw [k9 3 (by omega), k67 17 (by omega)]; exact t6
      · rw [k5 11 (by omega) (by omega)]; exact t7 k hk
  · refine ⟨-1, M, -1, M, ?_, ?_, rfl, h⟩
    · unfold f_X11_feed
      rw [ef, if_neg (by rw [c9, jw_of (x := (f : Int) + 20) (by omega) (by omega)]; omega)]
    · unfold f_X12_feed
      rw [er, if_neg (by rw [c9, jw_of (x := (f : Int) + 20) (by omega) (by omega)]; omega)]
end PTAPE

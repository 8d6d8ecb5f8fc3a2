section PUNDO
variable {n : Nat} {M : JMem}
theorem q_copies_N {a b : Nat} (ha : a < 4) (hb : b < 4) (hab : a ≠ b) {K : Nat → Int} : ∀ (d i k : Nat) (M : JMem), i + d = 22 → d < k → (∀ q : Nat, M 169 q = if 22 * b ≤ q ∧ q < 22 * b + i then K (22 * a + (q - 22 * b)) else K q) → ∃ M', f_X12_copies_L41 n k (a : Int) (b : Int) (i : Int) M = some (0, M') ∧ (∀ c : Nat, c ≠ 169 → M' c = M c) ∧ ∀ q : Nat, M' 169 q = if 22 * b ≤ q ∧ q < 22 * b + 22 then K (22 * a + (q - 22 * b)) else K q := by
  intro d
  induction d with
  | zero =>
    intro i k M hi hk hq
    obtain ⟨k, rfl⟩ : ∃ q, k = q + 1 := ⟨k - 1, by omega⟩
    obtain rfl : i = 22 := by omega
    refine ⟨M, ?_, fun _ _ => rfl, hq⟩
    rw [f_X12_copies_L41, if_pos (by decide)]
  | succ d ih =>
    intro i k M hi hk hq
    obtain ⟨k, rfl⟩ : ∃ q, k = q + 1 := ⟨k - 1, by omega⟩
    have rd : M 169 (22 * a + i) = K (22 * a + i) := by rw [hq, if_neg (by omega)]
    obtain ⟨M', r1, r2, r3⟩ := ih (i + 1) k (jup M 169 (22 * b + i) (K (22 * a + i))) (by omega) (by omega) (fun q => by
      rw [jup_if]
      by_cases e : q = 22 * b + i
      · rw [if_pos e, if_pos (by omega), show 22 * a + (q - 22 * b) = 22 * a + i by omega]
      · rw [if_neg e, hq q]
        by_cases c : 22 * b ≤ q ∧ q < 22 * b + i
        · rw [if_pos c, if_pos (by omega)]
        · rw [if_neg c, if_neg (by omega)])
    refine ⟨M', ?_, fun c hc => by rw [r2 c hc, jup_cell hc], r3⟩
    rw [f_X12_copies_L41, if_neg (by rw [show jw 22 = 22 by decide, jw_of (x := (i : Int)) (by omega) (by omega)]; omega), show 22 * (a : Int) + (i : Int) = ((22 * a + i : Nat) : Int) by omega, show 22 * (b : Int) + (i : Int) = ((22 * b + i : Nat) : Int) by omega, chk_pos (jin_of (by omega) (by omega) (by omega)), chk_pos (jin_of (by omega) (by omega) (by omega)), show (jw ((22 * a + i : Nat) : Int)).toNat = 22 * a + i from jwb (by omega), show (jw ((22 * b + i : Nat) : Int)).toNat = 22 * b + i from jwb (by omega), rd]
    simp only [letv_ap, letm_ap]
    exact r1
theorem q_copies_A {a b : Nat} (ha : a < 4) (hb : b < 4) (hab : a ≠ b) {K : Nat → Int} : ∀ (d i k : Nat) (M : JMem), i + d = 504 → d < k → (∀ q : Nat, M 168 q = if 504 * b ≤ q ∧ q < 504 * b + i then K (504 * a + (q - 504 * b)) else K q) → ∃ M', f_X12_copies_L2 n k (a : Int) (b : Int) (i : Int) M = f_X12_copies_L39 n (a : Int) (b : Int) M' ∧ (∀ c : Nat, c ≠ 168 → M' c = M c) ∧ ∀ q : Nat, M' 168 q = if 504 * b ≤ q ∧ q < 504 * b + 504 then K (504 * a + (q - 504 * b)) else K q := by
  intro d
  induction d with
  | zero =>
    intro i k M hi hk hq
    obtain ⟨k, rfl⟩ : ∃ q, k = q + 1 := ⟨k - 1, by omega⟩
    obtain rfl : i = 504 := by omega
    refine ⟨M, ?_, fun _ _ => rfl, hq⟩
    rw [f_X12_copies_L2, if_pos (by decide)]
  | succ d ih =>
    intro i k M hi hk hq
    obtain ⟨k, rfl⟩ : ∃ q, k = q + 1 := ⟨k - 1, by omega⟩
    have rd : M 168 (504 * a + i) = K (504 * a + i) := by rw [hq, if_neg (by omega)]
    obtain ⟨M', r1, r2, r3⟩ := ih (i + 1) k (jup M 168 (504 * b + i) (K (504 * a + i))) (by omega) (by omega) (fun q => by
      rw [jup_if]
      by_cases e : q = 504 * b + i
      · rw [if_pos e, if_pos (by omega), show 504 * a + (q - 504 * b) = 504 * a + i by omega]
      · rw [if_neg e, hq q]
        by_cases c : 504 * b ≤ q ∧ q < 504 * b + i
        · rw [if_pos c, if_pos (by omega)]
        · rw [if_neg c, if_neg (by omega)])
    refine ⟨M', ?_, fun c hc => by rw [r2 c hc, jup_cell hc], r3⟩
    rw [f_X12_copies_L2, if_neg (by rw [show jw 504 = 504 by decide, jw_of (x := (i : Int)) (by omega) (by omega)]; omega), show 504 * (a : Int) + (i : Int) = ((504 * a + i : Nat) : Int) by omega, show 504 * (b : Int) + (i : Int) = ((504 * b + i : Nat) : Int) by omega, chk_pos (jin_of (by omega) (by omega) (by omega)), chk_pos (jin_of (by omega) (by omega) (by omega)), show (jw ((504 * a + i : Nat) : Int)).toNat = 504 * a + i from jwb (by omega), show (jw ((504 * b + i : Nat) : Int)).toNat = 504 * b + i from jwb (by omega), rd]
    simp only [letv_ap, letm_ap]
    exact r1
theorem q_copies {a b : Nat} (hf : 600 ≤ n) (ha : a < 4) (hb : b < 4) (hab : a ≠ b) : ∃ M', f_X12_copies n (a : Int) (b : Int) M = some (0, M') ∧ (∀ c : Nat, c ≠ 168 → c ≠ 169 → M' c = M c) ∧ (∀ q : Nat, M' 168 q = if 504 * b ≤ q ∧ q < 504 * b + 504 then M 168 (504 * a + (q - 504 * b)) else M 168 q) ∧ ∀ q : Nat, M' 169 q = if 22 * b ≤ q ∧ q < 22 * b + 22 then M 169 (22 * a + (q - 22 * b)) else M 169 q := by
  obtain ⟨M1, a1, a2, a3⟩ := q_copies_A (n := n) ha hb hab (K := M 168) 504 0 n M (by omega) (by omega) (fun q => by rw [if_neg (by omega)])
  obtain ⟨M2, b1, b2, b3⟩ := q_copies_N (n := n) ha hb hab (K := M 169) 22 0 n M1 (by omega) (by omega) (fun q => by rw [if_neg (by omega), a2 169 (by omega)])
  refine ⟨M2, ?_, fun c c1 c2 => by rw [b2 c c2, a2 c c1], fun q => by rw [b2 168 (by omega)]; exact a3 q, b3⟩
  unfold f_X12_copies
  simp only [letv_ap]
  rw [show f_X12_copies_L2 n n (a : Int) (b : Int) 0 M = _ from a1]
  unfold f_X12_copies_L39
  simp only [letv_ap]
  exact b1
theorem jRn65 : ∀ m : Nat, m < 3 → jRn 65 m = 92 + 25 * m ∧ jRn 66 m = 104 + 25 * m ∧ jRn 67 m = 112 + 25 * m := by decide
/-- a whole park is copied by the class -/
theorem c_copyPark {p nw w p' nw' w' : Nat} (s1 : p' + 12 ≤ p ∨ p + 12 ≤ p') (s2 : nw' + 8 ≤ nw ∨ nw + 8 ≤ nw') (s3 : w' + 5 ≤ w ∨ w + 5 ≤ w') (x1 : nw + 8 ≤ p' ∨ p' + 12 ≤ nw) (x2 : w + 5 ≤ p' ∨ p' + 12 ≤ w) (x3 : w + 5 ≤ nw' ∨ nw' + 8 ≤ w) (y1 : p' + 12 ≤ nw' ∧ nw' + 8 ≤ w') (hb : jw (M w 0) = 0 ∨ jw (M w 0) = 1) :
    ∃ M1 M2 M3, f_X4_copyFrom n p' p M = some (0, M1) ∧ f_X1_copyFrom n nw' nw M1 = some (0, M2) ∧ f_X9_copyFrom n w' w M2 = some (0, M3) ∧ (∀ c : Nat, (c < p' ∨ p' + 12 ≤ c) → (c < nw' ∨ nw' + 8 ≤ c) → (c < w' ∨ w' + 5 ≤ c) → M3 c = M c) ∧ (∀ c : Nat, (c < p' ∨ p' + 12 ≤ c) → M1 c = M c) ∧ (∀ c : Nat, (c < p' ∨ p' + 12 ≤ c) → (c < nw' ∨ nw' + 8 ≤ c) → M2 c = M c) ∧ PlanEq M p M3 p' ∧ NowEq M nw M3 nw' ∧ WeeksEq M w M3 w' := by
  obtain ⟨M1, a1, a2, a3, a4, a5⟩ := c_copyPlan (n := n) (M := M) (th := p') (p := p) (by omega)
  obtain ⟨M2, b1, b2, b3, b4⟩ := c_copyNow (n := n) (M := M1) (th := nw') (p := nw) (by omega)
  have e2 : ∀ c : Nat, (c < p' ∨ p' + 12 ≤ c) → (c < nw' ∨ nw' + 8 ≤ c) → M2 c = M c := fun c c1 c2 => by rw [b2 c c2, a2 c c1]
  obtain ⟨M3, d1, d2, d3, d4⟩ := c_copyWeeks (n := n) (M := M2) (th := w') (p := w) (by omega) (by rw [e2 w (by omega) (by omega)]; exact hb)
  refine ⟨M1, M2, M3, a1, b1, d1, fun c c1 c2 c3 => by rw [d2 c c3, e2 c c1 c2], a2, e2, ⟨fun k hk => ?_, fun j k j1 j2 hk => ?_, fun j k j1 j2 hk => ?_⟩, ⟨fun k hk => ?_, fun j k j1 j2 hk => ?_⟩, ⟨fun k hk => ?_, fun j k j1 j2 hk => ?_⟩⟩
  · rw [d2 _ (by omega), b2 _ (by omega)]; exact a3 k hk
  · rw [d2 _ (by omega), b2 _ (by omega)]; exact a4 j k j1 j2 hk
  · rw [d2 _ (by omega), b2 _ (by omega)]; exact a5 j k j1 j2 hk
  · rw [d2 _ (by omega), b3 k hk, a2 _ (by omega)]
  · rw [d2 _ (by omega), b4 j k j1 j2 hk, a2 _ (by omega)]
  · rw [d3 k hk, e2 _ (by omega) (by omega)]
  · rw [d4 j k j1 j2 hk, e2 _ (by omega) (by omega)]
theorem Rpark.told {p nw w s kn : Nat} (h : Rpark M p nw w s kn) : jw (M w 0) = 0 ∨ jw (M w 0) = 1 := by
  have r : RW (M p 2) (M p 1) (M p 0) (blk M w 5) (slot M s) := h.2.2.2
  unfold RW at r
  have e : blk M w 5 0 0 = M w 0 := blk_at (by omega)
  rcases r with r | r
  · rw [← e, r.1]; exact Or.inl rfl
  · rw [← e, r.1]; exact Or.inr rfl
theorem p_mark (hf : 600 ≤ n) : jO_mark JR n := by
  intro M h
  obtain ⟨g1, g2, g3, g4, g5, g6⟩ := h
  have h : JR M := ⟨g1, g2, g3, g4, g5, g6⟩
  have g6' := g6
  unfold Rmrk at g6'
  obtain ⟨m1, m2, m3, m4⟩ := g6'
  obtain ⟨m, m4', em⟩ := natOf (x := M 0 13) (k := 4) m2 (by omega)
  have er : M 167 38 = (m : Int) := by rw [← m1]; exact em
  by_cases c : m < 3
  · obtain ⟨j65, j66, j67⟩ := jRn65 m c
    obtain ⟨M1, M2, M3, a1, a2, a3, a4, a5, a6, a7, a8, a9⟩ := c_copyPark (n := n) (M := M) (p := 40) (nw := 52) (w := 60) (p' := 92 + 25 * m) (nw' := 104 + 25 * m) (w' := 112 + 25 * m) (by omega) (by omega) (by omega) (by omega) (by omega) (by omega) (by omega) g5.told
    have k3 : ∀ c : Nat, c < 92 + 25 * m ∨ 117 + 25 * m ≤ c → M3 c = M c := fun c hc => a4 c (by omega) (by omega) (by omega)
    obtain ⟨X, x1, x2, x3, x4⟩ := q_copies (n := n) (M := jup (jup (jup M3 0 13 ((m : Int) + 1)) 0 0 0) 167 38 ((m : Int) + 1)) (a := 0) (b := m + 1) hf (by omega) (by omega) (by omega)
    -- what the memory is at last
    have f0 : ∀ j : Nat, j ≠ 0 → j ≠ 13 → jup X 167 2 0 0 j = M 0 j := fun j j0 j1 => by
      rw [jup_cell (by omega), x2 0 (by omega) (by omega), jup_cell (by omega), jup_if, if_neg j0, jup_if, if_neg j1, k3 0 (by omega)]
    have f00 : jup X 167 2 0 0 0 = 0 := by rw [jup_cell (by omega), x2 0 (by omega) (by omega), jup_cell (by omega), jup_if, if_pos rfl]
    have f13 : jup X 167 2 0 0 13 = (m : Int) + 1 := by rw [jup_cell (by omega), x2 0 (by omega) (by omega), jup_cell (by omega), jup_if, if_neg (by omega), jup_if, if_pos rfl]
    have f67 : ∀ j : Nat, j ≠ 2 → j ≠ 38 → jup X 167 2 0 167 j = M 167 j := fun j j0 j1 => by
      rw [jup_if, if_neg j0, x2 167 (by omega) (by omega), jup_if, if_neg j1, jup_cell (by omega), jup_cell (by omega), k3 167 (by omega)]
    have f38 : jup X 167 2 0 167 38 = (m : Int) + 1 := by rw [jup_if, if_neg (by omega), x2 167 (by omega) (by omega), jup_if, if_pos rfl]
    have fc : ∀ c : Nat, c ≠ 0 → c ≠ 167 → c ≠ 168 → c ≠ 169 → jup X 167 2 0 c = M3 c := fun c c0 c1 c2 c3 => by rw [jup_cell c1, x2 c c2 c3, jup_cell c1, jup_cell c0, jup_cell c0]
    have fk : ∀ c : Nat, c ≠ 0 → c ≠ 167 → c ≠ 168 → c ≠ 169 → (c < 92 + 25 * m ∨ 117 + 25 * m ≤ c) → jup X 167 2 0 c = M c := fun c c0 c1 c2 c3 hc => by rw [fc c c0 c1 c2 c3, k3 c hc]
    have f168 : ∀ q : Nat, jup X 167 2 0 168 q = if 504 * (m + 1) ≤ q ∧ q < 504 * (m + 1) + 504 then M 168 (q - 504 * (m + 1)) else M 168 q := fun q => by
      rw [jup_cell (by omega), x3 q, jup_cell (by omega), jup_cell (by omega), jup_cell (by omega), k3 168 (by omega), Nat.mul_zero, Nat.zero_add]
    have f169 : ∀ q : Nat, jup X 167 2 0 169 q = if 22 * (m + 1) ≤ q ∧ q < 22 * (m + 1) + 22 then M 169 (q - 22 * (m + 1)) else M 169 q := fun q => by
      rw [jup_cell (by omega), x4 q, jup_cell (by omega), jup_cell (by omega), jup_cell (by omega), k3 169 (by omega), Nat.mul_zero, Nat.zero_add]
    have same : ∀ (p nw w s kn : Nat), Rpark M p nw w s kn → (∀ c : Nat, (p ≤ c ∧ c < p + 12) ∨ (nw ≤ c ∧ c < nw + 8) ∨ (w ≤ c ∧ c < w + 5) → c ≠ 0 ∧ c ≠ 167 ∧ c ≠ 168 ∧ c ≠ 169 ∧ (c < 92 + 25 * m ∨ 117 + 25 * m ≤ c)) → s + 504 ≤ 504 * (m + 1) → kn + 22 ≤ 22 * (m + 1) → Rpark (jup X 167 2 0) p nw w s kn := fun p nw w s kn hr hc hs hk => by
      have e : ∀ c : Nat, (p ≤ c ∧ c < p + 12) ∨ (nw ≤ c ∧ c < nw + 8) ∨ (w ≤ c ∧ c < w + 5) → jup X 167 2 0 c = M c := fun c q => by
        obtain ⟨z1, z2, z3, z4, z5⟩ := hc c q
        exact fk c z1 z2 z3 z4 z5
      exact hr.gen ⟨fun k _ => by rw [e p (by omega)], fun j k _ _ _ => by rw [e (p + j) (by omega)], fun j k _ _ _ => by rw [e (p + j) (by omega)]⟩ ⟨fun k _ => by rw [e nw (by omega)], fun j k _ _ _ => by rw [e (nw + j) (by omega)]⟩ ⟨fun k _ => by rw [e w (by omega)], fun j k _ _ _ => by rw [e (w + j) (by omega)]⟩ (fun k hk => by rw [f168, if_neg (by omega)]) (fun k hk => by rw [f169, if_neg (by omega)])
    refine ⟨(m : Int) + 1, jup (jup M3 0 13 ((m : Int) + 1)) 0 0 0, (m : Int) + 1, jup X 167 2 0, ?_, ?_, rfl, ⟨?_, ?_, ?_⟩, ?_, ?_, ?_, ?_, ?_⟩
    · unfold f_X11_mark
      simp only [letm_ap]
      rw [em, if_pos (by rw [show jw 3 = 3 by decide, jw_of (x := (m : Int)) (by omega) (by omega)]; omega), chk_pos (jin_of (by omega) (by omega) (by omega)), show (jw (m : Int)).toNat = m from jwb (by omega), j65, a1, bnd_some, show M1 0 13 = (m : Int) by rw [a5 0 (by omega)]; exact em, chk_pos (jin_of (by omega) (by omega) (by omega)), show (jw (m : Int)).toNat = m from jwb (by omega), j66, a2, bnd_some, show M2 0 13 = (m : Int) by rw [a6 0 (by omega) (by omega)]; exact em, chk_pos (jin_of (by omega) (by omega) (by omega)), show (jw (m : Int)).toNat = m from jwb (by omega), j67, a3, bnd_some, show M3 0 13 = (m : Int) by rw [k3 0 (by omega)]; exact em, jup_if, if_pos rfl, q_answer, bnd_some]
    · unfold f_X12_mark
      simp only [letm_ap]
      rw [show jup (jup M3 0 13 ((m : Int) + 1)) 0 0 0 167 38 = (m : Int) by rw [jup_cell (by omega), jup_cell (by omega), k3 167 (by omega)]; exact er, if_neg (by rw [show jw 3 = 3 by decide, jw_of (x := (m : Int)) (by omega) (by omega)]; omega), jup_if, if_pos rfl, show (m : Int) + 1 = ((m + 1 : Nat) : Int) by omega]
      rw [show (m : Int) + 1 = ((m + 1 : Nat) : Int) by omega] at x1
      rw [show f_X12_copies n 0 ((m + 1 : Nat) : Int) _ = _ from x1, bnd_some, show X 167 38 = ((m + 1 : Nat) : Int) by rw [x2 167 (by omega) (by omega), jup_if, if_pos rfl]; omega, q_gives, bnd_some]
    · rw [f00, jup_if, if_pos rfl]
    · rw [f0 1 (by omega) (by omega), f67 3 (by omega) (by omega)]; exact g1.2.1
    · rw [f0 2 (by omega) (by omega), f67 4 (by omega) (by omega)]; exact g1.2.2
    · rw [fk 7 (by omega) (by omega) (by omega) (by omega) (by omega), fk 8 (by omega) (by omega) (by omega) (by omega) (by omega), fk 170 (by omega) (by omega) (by omega) (by omega) (by omega), fk 171 (by omega) (by omega) (by omega) (by omega) (by omega), fk 172 (by omega) (by omega) (by omega) (by omega) (by omega), jwt_congr (M := M) (fun c c1 c2 => fk c (by omega) (by omega) (by omega) (by omega) (by omega))]
      exact g2
    · rw [fk 9 (by omega) (by omega) (by omega) (by omega) (by omega), fk 10 (by omega) (by omega) (by omega) (by omega) (by omega), fk 11 (by omega) (by omega) (by omega) (by omega) (by omega), fk 173 (by omega) (by omega) (by omega) (by omega) (by omega)]
      unfold Rtxt at g3 ⊢
      rw [f67 10 (by omega) (by omega), f67 16 (by omega) (by omega), f67 17 (by omega) (by omega)]
      exact g3
    · rw [fk 86 (by omega) (by omega) (by omega) (by omega) (by omega), fk 87 (by omega) (by omega) (by omega) (by omega) (by omega), fk 185 (by omega) (by omega) (by omega) (by omega) (by omega), f67 37 (by omega) (by omega)]; exact g4
    · exact same 40 52 60 0 0 g5 (fun c hc => by omega) (by omega) (by omega)
    · unfold Rmrk
      rw [f13, f38]
      refine ⟨rfl, by omega, by omega, fun i i3 hi => ?_⟩
      by_cases ei : i = m
      · subst ei
        refine g5.gen ⟨fun k hk => ?_, fun j k j1 j2 hk => ?_, fun j k j1 j2 hk => ?_⟩ ⟨fun k hk => ?_, fun j k j1 j2 hk => ?_⟩ ⟨fun k hk => ?_, fun j k j1 j2 hk => ?_⟩ (fun k hk => by rw [f168, if_pos (by omega), show 504 * (i + 1) + k - 504 * (i + 1) = 0 + k by omega]) (fun k hk => by rw [f169, if_pos (by omega), show 22 * (i + 1) + k - 22 * (i + 1) = 0 + k by omega])
        · rw [fc _ (by omega) (by omega) (by omega) (by omega)]; exact a7.1 k hk
        · rw [fc _ (by omega) (by omega) (by omega) (by omega)]; exact a7.2.1 j k j1 j2 hk
        · rw [fc _ (by omega) (by omega) (by omega) (by omega)]; exact a7.2.2 j k j1 j2 hk
        · rw [fc _ (by omega) (by omega) (by omega) (by omega)]; exact a8.1 k hk
        · rw [fc _ (by omega) (by omega) (by omega) (by omega)]; exact a8.2 j k j1 j2 hk
        · rw [fc _ (by omega) (by omega) (by omega) (by omega)]; exact a9.1 k hk
        · rw [fc _ (by omega) (by omega) (by omega) (by omega)]; exact a9.2 j k j1 j2 hk
      · exact same _ _ _ _ _ (m4 i i3 (by omega)) (fun c hc => by omega) (by omega) (by omega)
  · refine Pr.end (r := -1) (s := -1) (x := 4) (y := 4) h ?_ ?_ rfl rfl
    · unfold f_X11_mark
      rw [em, if_neg (by rw [show jw 3 = 3 by decide, jw_of (x := (m : Int)) (by omega) (by omega)]; omega)]; rfl
    · unfold f_X12_mark
      rw [show jup M 0 0 4 167 38 = (m : Int) from er, show m = 3 by omega, if_pos (by decide)]; rfl
theorem p_undo (hf : 600 ≤ n) : jO_undo JR n := by
  intro M h
  obtain ⟨g1, g2, g3, g4, g5, g6⟩ := h
  have h : JR M := ⟨g1, g2, g3, g4, g5, g6⟩
  have g6' := g6
  unfold Rmrk at g6'
  obtain ⟨m1, m2, m3, m4⟩ := g6'
  obtain ⟨m, m4', em⟩ := natOf (x := M 0 13) (k := 4) m2 (by omega)
  have er : M 167 38 = (m : Int) := by rw [← m1]; exact em
  by_cases c : 0 < m
  · obtain ⟨u, rfl⟩ : ∃ u, m = u + 1 := ⟨m - 1, by omega⟩
    obtain ⟨j65, j66, j67⟩ := jRn65 u (by omega)
    have hu := m4 u (by omega) (by omega)
    have em1 : M 0 13 - 1 = (u : Int) := by omega
    have hb : jw (jup M 0 13 (u : Int) (112 + 25 * u) 0) = 0 ∨ jw (jup M 0 13 (u : Int) (112 + 25 * u) 0) = 1 := by
      rw [jup_cell (by omega)]; exact hu.told
    obtain ⟨M1, M2, M3, a1, a2, a3, a4, a5, a6, a7, a8, a9⟩ := c_copyPark (n := n) (M := jup M 0 13 (u : Int)) (p := 92 + 25 * u) (nw := 104 + 25 * u) (w := 112 + 25 * u) (p' := 40) (nw' := 52) (w' := 60) (by omega) (by omega) (by omega) (by omega) (by omega) (by omega) (by omega) hb
    have k3 : ∀ c : Nat, c ≠ 0 → c < 40 ∨ 65 ≤ c → M3 c = M c := fun c c0 hc => by rw [a4 c (by omega) (by omega) (by omega), jup_cell c0]
    have k30 : ∀ j : Nat, M3 0 j = if j = 13 then (u : Int) else M 0 j := fun j => by rw [a4 0 (by omega) (by omega) (by omega), jup_if]
    obtain ⟨X, x1, x2, x3, x4⟩ := q_copies (n := n) (M := jup M3 0 0 0) (a := u + 1) (b := 0) hf (by omega) (by omega) (by omega)
    have f0 : ∀ j : Nat, j ≠ 0 → j ≠ 13 → jup (jup X 167 38 (u : Int)) 167 2 0 0 j = M 0 j := fun j j0 j1 => by
      rw [jup_cell (by omega), jup_cell (by omega), x2 0 (by omega) (by omega), jup_if, if_neg j0, k30, if_neg j1]
    have f00 : jup (jup X 167 38 (u : Int)) 167 2 0 0 0 = 0 := by rw [jup_cell (by omega), jup_cell (by omega), x2 0 (by omega) (by omega), jup_if, if_pos rfl]
    have f13 : jup (jup X 167 38 (u : Int)) 167 2 0 0 13 = (u : Int) := by rw [jup_cell (by omega), jup_cell (by omega), x2 0 (by omega) (by omega), jup_if, if_neg (by omega), k30, if_pos rfl]
    have f67 : ∀ j : Nat, j ≠ 2 → j ≠ 38 → jup (jup X 167 38 (u : Int)) 167 2 0 167 j = M 167 j := fun j j0 j1 => by
      rw [jup_if, if_neg j0, jup_if, if_neg j1, x2 167 (by omega) (by omega), jup_cell (by omega), k3 167 (by omega) (by omega)]
    have f38 : jup (jup X 167 38 (u : Int)) 167 2 0 167 38 = (u : Int) := by rw [jup_if, if_neg (by omega), jup_if, if_pos rfl]
    have fc : ∀ c : Nat, c ≠ 0 → c ≠ 167 → c ≠ 168 → c ≠ 169 → jup (jup X 167 38 (u : Int)) 167 2 0 c = M3 c := fun c c0 c1 c2 c3 => by rw [jup_cell c1, jup_cell c1, x2 c c2 c3, jup_cell c0]
    have fk : ∀ c : Nat, c ≠ 0 → c ≠ 167 → c ≠ 168 → c ≠ 169 → (c < 40 ∨ 65 ≤ c) → jup (jup X 167 38 (u : Int)) 167 2 0 c = M c := fun c c0 c1 c2 c3 hc => by rw [fc c c0 c1 c2 c3, k3 c c0 hc]
    have f168 : ∀ q : Nat, jup (jup X 167 38 (u : Int)) 167 2 0 168 q = if q < 504 then M 168 (504 * (u + 1) + q) else M 168 q := fun q => by
      rw [jup_cell (by omega), jup_cell (by omega), x3 q, jup_cell (by omega), k3 168 (by omega) (by omega), Nat.mul_zero, Nat.sub_zero]
      by_cases w : q < 504
      · rw [if_pos (by omega), if_pos w]
      · rw [if_neg (by omega), if_neg w]
    have f169 : ∀ q : Nat, jup (jup X 167 38 (u : Int)) 167 2 0 169 q = if q < 22 then M 169 (22 * (u + 1) + q) else M 169 q := fun q => by
      rw [jup_cell (by omega), jup_cell (by omega), x4 q, jup_cell (by omega), k3 169 (by omega) (by omega), Nat.mul_zero, Nat.sub_zero]
      by_cases w : q < 22
      · rw [if_pos (by omega), if_pos w]
      · rw [if_neg (by omega), if_neg w]
    have mM : ∀ c : Nat, c ≠ 0 → jup M 0 13 (u : Int) c = M c := fun c hc => jup_cell hc
    refine ⟨(u : Int), jup M3 0 0 0, (u : Int), jup (jup X 167 38 (u : Int)) 167 2 0, ?_, ?_, rfl, ⟨?_, ?_, ?_⟩, ?_, ?_, ?_, ?_, ?_⟩
    · unfold f_X11_undo
      simp only [letm_ap]
      rw [em1, if_pos (by rw [em, jw_of (x := ((u + 1 : Nat) : Int)) (by omega) (by omega)]; omega), show jup M 0 13 (u : Int) 0 13 = (u : Int) by rw [jup_if, if_pos rfl], chk_pos (jin_of (by omega) (by omega) (by omega)), show (jw (u : Int)).toNat = u from jwb (by omega), j65, a1, bnd_some, show M1 0 13 = (u : Int) by rw [a5 0 (by omega), jup_if, if_pos rfl], chk_pos (jin_of (by omega) (by omega) (by omega)), show (jw (u : Int)).toNat = u from jwb (by omega), j66, a2, bnd_some, show M2 0 13 = (u : Int) by rw [a6 0 (by omega) (by omega), jup_if, if_pos rfl], chk_pos (jin_of (by omega) (by omega) (by omega)), show (jw (u : Int)).toNat = u from jwb (by omega), j67, a3, bnd_some, show M3 0 13 = (u : Int) by rw [k30, if_pos rfl], q_answer, bnd_some]
    · unfold f_X12_undo
      simp only [letm_ap]
      rw [show jup M3 0 0 0 167 38 = ((u + 1 : Nat) : Int) by rw [jup_cell (by omega), k3 167 (by omega) (by omega)]; exact er, if_neg (by rw [jw_of (x := ((u + 1 : Nat) : Int)) (by omega) (by omega)]; omega), show f_X12_copies n ((u + 1 : Nat) : Int) 0 _ = _ from x1, bnd_some, show X 167 38 - 1 = (u : Int) by rw [x2 167 (by omega) (by omega), jup_cell (by omega), k3 167 (by omega) (by omega), er]; omega, jup_if, if_pos rfl, q_gives, bnd_some]
    · rw [f00, jup_if, if_pos rfl]
    · rw [f0 1 (by omega) (by omega), f67 3 (by omega) (by omega)]; exact g1.2.1
    · rw [f0 2 (by omega) (by omega), f67 4 (by omega) (by omega)]; exact g1.2.2
    · rw [fk 7 (by omega) (by omega) (by omega) (by omega) (by omega), fk 8 (by omega) (by omega) (by omega) (by omega) (by omega), fk 170 (by omega) (by omega) (by omega) (by omega) (by omega), fk 171 (by omega) (by omega) (by omega) (by omega) (by omega), fk 172 (by omega) (by omega) (by omega) (by omega) (by omega), jwt_congr (M := M) (fun c c1 c2 => fk c (by omega) (by omega) (by omega) (by omega) (by omega))]
      exact g2
    · rw [fk 9 (by omega) (by omega) (by omega) (by omega) (by omega), fk 10 (by omega) (by omega) (by omega) (by omega) (by omega), fk 11 (by omega) (by omega) (by omega) (by omega) (by omega), fk 173 (by omega) (by omega) (by omega) (by omega) (by omega)]
      unfold Rtxt at g3 ⊢
      rw [f67 10 (by omega) (by omega), f67 16 (by omega) (by omega), f67 17 (by omega) (by omega)]
      exact g3
    · rw [fk 86 (by omega) (by omega) (by omega) (by omega) (by omega), fk 87 (by omega) (by omega) (by omega) (by omega) (by omega), fk 185 (by omega) (by omega) (by omega) (by omega) (by omega), f67 37 (by omega) (by omega)]; exact g4
    · refine hu.gen ⟨fun k hk => ?_, fun j k j1 j2 hk => ?_, fun j k j1 j2 hk => ?_⟩ ⟨fun k hk => ?_, fun j k j1 j2 hk => ?_⟩ ⟨fun k hk => ?_, fun j k j1 j2 hk => ?_⟩ (fun k hk => by rw [f168, if_pos (by omega), Nat.zero_add]) (fun k hk => by rw [f169, if_pos (by omega), Nat.zero_add])
      · rw [fc _ (by omega) (by omega) (by omega) (by omega), a7.1 k hk, mM _ (by omega)]
      · rw [fc _ (by omega) (by omega) (by omega) (by omega), a7.2.1 j k j1 j2 hk, mM _ (by omega)]
      · rw [fc _ (by omega) (by omega) (by omega) (by omega), a7.2.2 j k j1 j2 hk, mM _ (by omega)]
      · rw [fc _ (by omega) (by omega) (by omega) (by omega), a8.1 k hk, mM _ (by omega)]
      · rw [fc _ (by omega) (by omega) (by omega) (by omega), a8.2 j k j1 j2 hk, mM _ (by omega)]
      · rw [fc _ (by omega) (by omega) (by omega) (by omega), a9.1 k hk, mM _ (by omega)]
      · rw [fc _ (by omega) (by omega) (by omega) (by omega), a9.2 j k j1 j2 hk, mM _ (by omega)]
    · unfold Rmrk
      rw [f13, f38]
      refine ⟨rfl, by omega, by omega, fun i i3 hi => ?_⟩
      have hr := m4 i i3 (by omega)
      have e : ∀ c : Nat, 92 ≤ c → c < 167 → jup (jup X 167 38 (u : Int)) 167 2 0 c = M c := fun c c1 c2 => fk c (by omega) (by omega) (by omega) (by omega) (by omega)
      exact hr.gen ⟨fun k _ => by rw [e _ (by omega) (by omega)], fun j k _ _ _ => by rw [e _ (by omega) (by omega)], fun j k _ _ _ => by rw [e _ (by omega) (by omega)]⟩ ⟨fun k _ => by rw [e _ (by omega) (by omega)], fun j k _ _ _ => by rw [e _ (by omega) (by omega)]⟩ ⟨fun k _ => by rw [e _ (by omega) (by omega)], fun j k _ _ _ => by rw [e _ (by omega) (by omega)]⟩ (fun k hk => by rw [f168, if_neg (by omega)]) (fun k hk => by rw [f169, if_neg (by omega)])
  · refine Pr.end (r := -1) (s := -1) (x := 6) (y := 6) h ?_ ?_ rfl rfl
    · unfold f_X11_undo
      rw [em, show m = 0 by omega, if_neg (by decide)]; rfl
    · unfold f_X12_undo
      rw [show jup M 0 0 6 167 38 = (m : Int) from er, show m = 0 by omega, if_pos (by decide)]; rfl
end PUNDO

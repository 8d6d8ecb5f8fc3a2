section PFRAC
variable {n : Nat} {M : JMem}
theorem jldiv_of {x y : Int} (hx : 0 ≤ x ∧ x < 4611686018427387904) (hy : 0 < y ∧ y < 4611686018427387904) : jldiv x y = x / y := by
  have h1 : 0 ≤ x / y := Int.ediv_nonneg hx.1 (by omega)
  have h2 : x / y ≤ x := Int.ediv_le_self y hx.1
  unfold jldiv
  rw [Int64.toInt_div, jw_l, jw_l, jwl_of (x := x) (by omega) (by omega), jwl_of (x := y) (by omega) (by omega), Int.tdiv_eq_ediv_of_nonneg hx.1]
  exact jwl_of (by omega) (by omega)
theorem jlrem_of {x y : Int} (hx : 0 ≤ x ∧ x < 4611686018427387904) (hy : 0 < y ∧ y < 4611686018427387904) : jlrem x y = x % y := by
  have e := jldiv_of hx hy
  unfold jldiv at e
  have m1 : 0 ≤ x % y := Int.emod_nonneg x (by omega)
  have m2 : x % y < y := Int.emod_lt_of_pos x hy.1
  have m3 : x % y = x - y * (x / y) := Int.emod_def x y
  have m4 : y * (x / y) = x / y * y := Int.mul_comm _ _
  unfold jlrem
  rw [Int64.toInt_sub, Int64.toInt_mul, e, jw_l, jw_l, jwl_of (x := x) (by omega) (by omega), jwl_of (x := y) (by omega) (by omega)]
  have b1 : (x / y * y).bmod (2 ^ 64) = x / y * y := jwl_of (x := x / y * y) (by omega) (by omega)
  rw [b1]
  have b2 : (x - x / y * y).bmod (2 ^ 64) = x - x / y * y := jwl_of (x := x - x / y * y) (by omega) (by omega)
  rw [b2]
  omega
theorem gcd_step {a b : Int} (ha : 0 ≤ a ∧ a < 4611686018427387904) (hb : 0 < b ∧ b < 4611686018427387904) {i k : Nat} (hi : i < 200) : f_X11_commonDivisor_L3 n (k + 1) a b (i : Int) M = f_X11_commonDivisor_L3 n k b (a % b) ((i + 1 : Nat) : Int) M := by
  have j := (jcmp_sign (x := b) (y := 0)).2.2
  rw [jwl_of (x := b) (by omega) (by omega), jwl_0] at j
  rw [f_X11_commonDivisor_L3, if_neg (by rw [show jw 200 = 200 by decide, jw_of (x := (i : Int)) (by omega) (by omega)]; omega), if_neg (fun q => by have := j.1 q; omega), chk_pos (by rw [jwl_of (x := b) (by omega) (by omega)]; omega)]
  simp only [letv_ap]
  rw [jlrem_of ha hb, show (i : Int) + 1 = ((i + 1 : Nat) : Int) by omega]
theorem gcd_stepM {a b n0 d0 : Int} (ha : 0 ≤ a ∧ a < 4611686018427387904) (hb : 0 < b ∧ b < 4611686018427387904) {k : Nat} : f_X12_tellsBy_L6 n (k + 1) n0 d0 a b M = f_X12_tellsBy_L6 n k n0 d0 b (a % b) M := by
  have j := (jcmp_sign (x := b) (y := 0)).2.2
  rw [jwl_of (x := b) (by omega) (by omega), jwl_0] at j
  rw [f_X12_tellsBy_L6, if_neg (fun q => by have := j.1 q; omega), chk_pos (by rw [jwl_of (x := b) (by omega) (by omega)]; omega)]
  simp only [letv_ap]
  rw [jlrem_of ha hb]
theorem gcd_end {a : Int} {i k : Nat} (hi : i < 200) : f_X11_commonDivisor_L3 n (k + 1) a 0 (i : Int) M = some (a, M) := by
  rw [f_X11_commonDivisor_L3, if_neg (by rw [show jw 200 = 200 by decide, jw_of (x := (i : Int)) (by omega) (by omega)]; omega), if_pos ((jcmp_sign (x := 0) (y := 0)).2.2.2 rfl)]
theorem gcd_endM {a n0 d0 : Int} {k : Nat} : f_X12_tellsBy_L6 n (k + 1) n0 d0 a 0 M = f_X12_tellsBy_L31 n n0 d0 a M := by
  rw [f_X12_tellsBy_L6, if_pos ((jcmp_sign (x := 0) (y := 0)).2.2.2 rfl)]
theorem gcd_L {n0 d0 : Int} : ∀ (e i k k' : Nat) (a b : Int), (0 ≤ a ∧ a < 4611686018427387904) → 0 ≤ b → b < ((2 ^ e : Nat) : Int) → b < 4611686018427387904 → i + 2 * e < 200 → 2 * e < k → 2 * e < k' →
    ∃ G, (∀ M : JMem, f_X11_commonDivisor_L3 n k a b (i : Int) M = some (G, M)) ∧ (∀ M : JMem, f_X12_tellsBy_L6 n k' n0 d0 a b M = f_X12_tellsBy_L31 n n0 d0 G M) ∧ 0 ≤ G ∧ G < 4611686018427387904 ∧ (0 < a ∨ 0 < b → 0 < G) := by
  intro e
  induction e with
  | zero =>
    intro i k k' a b ha hb hb2 _ hi hk hk'
    obtain ⟨k, rfl⟩ : ∃ z, k = z + 1 := ⟨k - 1, by omega⟩
    obtain ⟨k', rfl⟩ : ∃ z, k' = z + 1 := ⟨k' - 1, by omega⟩
    have : b = 0 := by rw [show (2 : Nat) ^ 0 = 1 from rfl] at hb2; omega
    subst this
    exact ⟨a, fun M => gcd_end (by omega), fun M => gcd_endM, ha.1, ha.2, fun q => by omega⟩
  | succ e ih =>
    intro i k k' a b ha hb hb2 hb3 hi hk hk'
    obtain ⟨k, rfl⟩ : ∃ z, k = z + 1 := ⟨k - 1, by omega⟩
    obtain ⟨k', rfl⟩ : ∃ z, k' = z + 1 := ⟨k' - 1, by omega⟩
    by_cases c : b = 0
    · subst c
      exact ⟨a, fun M => gcd_end (by omega), fun M => gcd_endM, ha.1, ha.2, fun q => by omega⟩
    · have hb0 : 0 < b ∧ b < 4611686018427387904 := ⟨by omega, hb3⟩
      have m1 : 0 ≤ a % b := Int.emod_nonneg a (by omega)
      have m2 : a % b < b := Int.emod_lt_of_pos a hb0.1
      by_cases c2 : a % b < ((2 ^ e : Nat) : Int)
      · obtain ⟨G, g1, g2, g3, g4, g5⟩ := ih (i + 1) k k' b (a % b) ⟨by omega, by omega⟩ m1 c2 (by omega) (by omega) (by omega) (by omega)
        exact ⟨G, fun M => by rw [gcd_step ha hb0 (by omega)]; exact g1 M, fun M => by rw [gcd_stepM ha hb0]; exact g2 M, g3, g4, fun _ => g5 (Or.inl hb0.1)⟩
      · rw [Nat.pow_succ] at hb2
        obtain ⟨k, rfl⟩ : ∃ z, k = z + 1 := ⟨k - 1, by omega⟩
        obtain ⟨k', rfl⟩ : ∃ z, k' = z + 1 := ⟨k' - 1, by omega⟩
        have hp : 0 < 2 ^ e := Nat.two_pow_pos e
        have hr : 0 < a % b ∧ a % b < 4611686018427387904 := ⟨by omega, by omega⟩
        have q1 : 0 ≤ b % (a % b) := Int.emod_nonneg b (by omega)
        have q2 : b % (a % b) = b - a % b := by
          have : b = (b - a % b) + a % b := by omega
          have q3 : ((b - a % b) + a % b) % (a % b) = (b - a % b) % (a % b) := by simp
          rw [← this] at q3
          rw [q3]
          exact Int.emod_eq_of_lt (by omega) (by omega)
        obtain ⟨G, g1, g2, g3, g4, g5⟩ := ih (i + 1 + 1) k k' (a % b) (b % (a % b)) ⟨by omega, by omega⟩ q1 (by omega) (by omega) (by omega) (by omega) (by omega)
        exact ⟨G, fun M => by rw [gcd_step ha hb0 (by omega), gcd_step (i := i + 1) ⟨by omega, by omega⟩ hr (by omega)]; exact g1 M, fun M => by rw [gcd_stepM ha hb0, gcd_stepM ⟨by omega, by omega⟩ hr]; exact g2 M, g3, g4, fun _ => g5 (Or.inl hr.1)⟩
/-- both tell the same fraction -/
theorem Pr.tell {f g : JMem → Option (Int × JMem)} (h : JR M) (hn : 1000 ≤ n) {a b : Int} (ha : 0 ≤ a ∧ a < 4611686018427387904) (hb : 0 < b ∧ b < 35184372088832) {M1 : JMem} (hf : f M = bnd (f_X11_tellFraction n a b M1) fun r M4 => chk (jw r = 0 ∨ jw r = 1) (some (r, M4))) (h1 : Pf M M1)
    (hg : ∀ M1' : JMem, (∀ c : Nat, c ≠ 0 → M1' c = M1 c) → ∃ M2, Pf M1' M2 ∧ M2 0 = M1' 0 ∧ g M1' = bnd (f_X12_tellsBy n a b M2) fun r M4 => chk (jw r = 0 ∨ jw r = 1) (some (r, M4))) : ∃ r M1 s M2, f M = some (r, M1) ∧ g M1 = some (s, M2) ∧ jw r = jw s ∧ JR M2 := by
  obtain ⟨G, g1, g2, g3, g4, g5⟩ := gcd_L (n := n) (n0 := a) (d0 := b) 45 0 n n a b ha (by omega) (by rw [show ((2 ^ 45 : Nat) : Int) = 35184372088832 by decide]; exact hb.2) (by omega) (by omega) (by omega) (by omega)
  have G0 : 0 < G := g5 (Or.inr hb.1)
  have jG : ¬ jwl G = 0 := by rw [jwl_of (x := G) (by omega) (by omega)]; omega
  have jc : ¬ jw (jcmp G 0) ≤ 0 := by
    have := (jcmp_sign (x := G) (y := 0)).2.1
    rw [jwl_of (x := G) (by omega) (by omega), jwl_0] at this
    have := this.2 G0
    omega
  have e1 : f M = some (1, jup (jup (jup M1 0 1 (jldiv a G)) 0 2 (jldiv b G)) 0 0 0) := by
    rw [hf]
    unfold f_X11_tellFraction f_X11_commonDivisor f_X11_tellFraction_L30
    simp only [letv_ap, letm_ap]
    rw [show f_X11_commonDivisor_L3 n n a b 0 M1 = _ from g1 M1, bnd_some, if_neg jc, chk_pos jG, chk_pos jG]
    rfl
  obtain ⟨M2, k1, k2, k3⟩ := hg (jup (jup (jup M1 0 1 (jldiv a G)) 0 2 (jldiv b G)) 0 0 0) (fun c hc => by rw [jup_cell hc, jup_cell hc, jup_cell hc])
  have e2 : g (jup (jup (jup M1 0 1 (jldiv a G)) 0 2 (jldiv b G)) 0 0 0) = some (1, jup (jup (jup M2 167 3 (jldiv a G)) 167 4 (jldiv b G)) 167 2 0) := by
    rw [k3]
    unfold f_X12_tellsBy
    simp only [letv_ap]
    rw [g2 M2]
    unfold f_X12_tellsBy_L31
    simp only [letm_ap]
    rw [chk_pos jG, chk_pos jG, show ∀ X : JMem, f_X12_is n 0 X = some (1, jup X 167 2 0) from fun X => rfl, bnd_some, chk_pos (by decide), bnd_some, chk_pos (by decide)]
  refine ⟨1, _, 1, _, e1, e2, rfl, ?_⟩
  obtain ⟨p1, p2, p3, p4⟩ := h1
  obtain ⟨q1, q2, q3, q4⟩ := k1
  have hc := h.cur
  have keep : ∀ c : Nat, c ≠ 0 → c ≠ 167 → jup (jup (jup M2 167 3 (jldiv a G)) 167 4 (jldiv b G)) 167 2 0 c = M2 c := fun c _ c2 => by rw [jup_cell c2, jup_cell c2, jup_cell c2]
  have full : ∀ c : Nat, ((1 ≤ c ∧ c < 68) ∨ c = 86 ∨ c = 87 ∨ (92 ≤ c ∧ c < 167) ∨ (169 ≤ c ∧ c ≤ 173) ∨ c = 185) → jup (jup (jup M2 167 3 (jldiv a G)) 167 4 (jldiv b G)) 167 2 0 c = M c := fun c c1 => by
    rw [keep c (by omega) (by omega), q1 c c1, jup_cell (by omega), jup_cell (by omega), jup_cell (by omega), p1 c c1]
  have at0 : jup (jup (jup M2 167 3 (jldiv a G)) 167 4 (jldiv b G)) 167 2 0 0 = jup (jup (jup M1 0 1 (jldiv a G)) 0 2 (jldiv b G)) 0 0 0 0 := by
    rw [jup_cell (by omega), jup_cell (by omega), jup_cell (by omega), k2]
  have at168 : ∀ i : Nat, i < 2016 → jup (jup (jup M2 167 3 (jldiv a G)) 167 4 (jldiv b G)) 167 2 0 168 i = M 168 i := fun i hi => by
    rw [keep 168 (by omega) (by omega), q4 i hi, jup_cell (by omega), jup_cell (by omega), jup_cell (by omega), p4 i hi]
  have at67 : ∀ j : Nat, j ≠ 2 → j ≠ 3 → j ≠ 4 → j ≠ 27 → jup (jup (jup M2 167 3 (jldiv a G)) 167 4 (jldiv b G)) 167 2 0 167 j = M 167 j := fun j j1 j2 j3 j4 => by
    rw [jup_at, if_neg (fun z => j1 z.2), jup_at, if_neg (fun z => j3 z.2), jup_at, if_neg (fun z => j2 z.2), q3 j j1 j4, jup_cell (by omega), jup_cell (by omega), jup_cell (by omega), p3 j j1 j4]
  refine h.frame ⟨?_, ?_, ?_⟩ ?_ (fun c hb => full c (by unfold keepC at hb; omega)) (fun j hj => at67 j (by omega) (by omega) (by omega) (by omega)) (fun k k1 k2 => at168 k k2) ?_ ?_ ?_ ?_
  · rw [at0]; rfl
  · rw [at0]; rfl
  · rw [at0]; rfl
  · rw [at0, jup_at, if_neg (by omega), jup_at, if_neg (by omega), jup_at, if_neg (by omega)]; exact p2 13 (by omega)
  · rw [blk_congr (by decide) (M := M) (a := 40) (z := 12) (fun j hj => full _ (by omega))]
    exact hc.1.low (fun i hi => at168 i (by omega))
  · rw [blk_congr (by decide) (M := M) (a := 52) (z := 8) (fun j hj => full _ (by omega))]
    exact hc.2.1.low (fun i hi => at168 i (by omega))
  · rw [blk_congr (by decide) (M := M) (a := 40) (z := 12) (fun j hj => full _ (by omega)), full 169 (by omega)]
    exact hc.2.2.1
  · rw [full 40 (by omega), blk_congr (by decide) (M := M) (a := 60) (z := 5) (fun j hj => full _ (by omega))]
    exact hc.2.2.2.congr2 (at168 7 (by omega)) (fun k j hk hj => at168 _ (by omega))
end PFRAC

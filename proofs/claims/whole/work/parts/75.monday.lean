section PMONDAY
variable {n : Nat} {M : JMem}
/-! how many bits -/
def pc (m : Nat) : Nat := (m.testBit 0).toNat + (m.testBit 1).toNat + (m.testBit 2).toNat + (m.testBit 3).toNat + (m.testBit 4).toNat + (m.testBit 5).toNat + (m.testBit 6).toNat + (m.testBit 7).toNat
def pcI (x : Int) : Int := (pc x.toNat : Nat)
theorem pc0 : ∀ m : Nat, m < 256 → (m = 0 → pc m = 0) ∧ (m ≠ 0 → jand (m : Int) ((m : Int) - 1) = ((m &&& (m - 1) : Nat) : Int) ∧ pc (m &&& (m - 1)) + 1 = pc m) ∧ pc m ≤ 8 := by decide +kernel
theorem q_bits_L : ∀ (d m k : Nat) (v : Int), m < 256 → pc m = d → d < k → f_X12_bits_L4 n k v (m : Int) M = some (v + d, M) := by
  intro d
  induction d with
  | zero =>
    intro m k v hm hd hk
    obtain ⟨k, rfl⟩ : ∃ q, k = q + 1 := ⟨k - 1, by omega⟩
    have r := pc0 m hm
    have hz : m = 0 := by
      apply Classical.byContradiction
      intro z
      have := (r.2.1 z).2
      omega
    rw [f_X12_bits_L4, hz, if_pos (by decide), show v + ((0 : Nat) : Int) = v by omega]
  | succ d ih =>
    intro m k v hm hd hk
    obtain ⟨k, rfl⟩ : ∃ q, k = q + 1 := ⟨k - 1, by omega⟩
    have r := pc0 m hm
    have hz : m ≠ 0 := fun z => by have := r.1 z; omega
    have r2 := r.2.1 hz
    have hl : m &&& (m - 1) ≤ m := Nat.and_le_left
    rw [f_X12_bits_L4, if_neg (by rw [jw_of (by omega) (by omega)]; omega)]
    simp only [letv_ap, letm_ap]
    rw [r2.1, ih _ k (v + 1) (by omega) (by omega) (by omega), show v + 1 + (d : Int) = v + ((d + 1 : Nat) : Int) by omega]
theorem q_bits {x : Int} (hf : 100 ≤ n) (h : S8 x) : f_X12_bits n x M = some (pcI x, M) := by
  obtain ⟨m, hm, rfl⟩ := h.nat
  have := (pc0 m hm).2.2
  unfold f_X12_bits
  simp only [letv_ap, letm_ap]
  rw [q_bits_L (pc m) m n 0 hm rfl (by omega), Int.zero_add]
  rfl
theorem bc0 : ∀ m : Nat, m < 256 → f_J6_bitCount_0f7a4 0 (m : Int) = fun M => some (pcI (m : Int), M) := fun m hm => by
  have h : ∀ m : Nat, m < 256 → (letv ((m : Int) - (jand (jushr (m : Int) 1) 1431655765)) fun y1 => letv ((jand y1 858993459) + (jand (jushr y1 2) 858993459)) fun y2 => letv (jand (y2 + (jushr y2 4)) 252645135) fun y3 => letv (y3 + (jushr y3 8)) fun y4 => letv (y4 + (jushr y4 16)) fun y5 => jand y5 63) = pcI (m : Int) := by decide +kernel
  funext M
  rw [← h m hm]
  rfl
theorem q_bc {x : Int} (h : S8 x) : f_J6_bitCount_0f7a4 n x M = some (pcI x, M) := by
  obtain ⟨m, hm, rfl⟩ := h.nat
  exact congrFun (bc0 m hm) M
theorem pcI_range {x : Int} (h : S8 x) : 0 ≤ pcI x ∧ pcI x ≤ 8 := by
  obtain ⟨m, hm, rfl⟩ := h.nat
  have := (pc0 m hm).2.2
  unfold pcI
  rw [Int.toNat_natCast]
  omega
def b01 (x : Int) (i : Nat) : Int := if bit x i = true then 1 else 0
theorem pcI_sum {x : Int} (h : S8 x) : pcI x = b01 x 0 + b01 x 1 + b01 x 2 + b01 x 3 + b01 x 4 + b01 x 5 + b01 x 6 + b01 x 7 := by
  have e : ∀ c : Bool, ((c.toNat : Nat) : Int) = if c = true then 1 else 0 := by decide
  unfold pcI pc b01 bit
  rw [← e, ← e, ← e, ← e, ← e, ← e, ← e, ← e]
  omega
theorem b01_range (x : Int) (i : Nat) : 0 ≤ b01 x i ∧ b01 x i ≤ 1 := by
  unfold b01
  split <;> decide
/-- the first k beasts -/
theorem low0 : ∀ k : Nat, k < 9 → jshl 1 (k : Int) - 1 = ((2 ^ k - 1 : Nat) : Int) ∧ 2 ^ k - 1 < 256 ∧ ∀ j : Nat, j < 8 → (2 ^ k - 1).testBit j = decide (j < k) := by decide +kernel
theorem jlow {x : Int} (h : 0 ≤ x ∧ x ≤ 8) : S8 (jshl 1 x - 1) ∧ ∀ j : Nat, j < 8 → (bit (jshl 1 x - 1) j = true ↔ (j : Int) < x) := by
  obtain ⟨k, hk, rfl⟩ := natOf (x := x) (k := 9) h.1 (by omega)
  have r := low0 k hk
  rw [r.1]
  refine ⟨⟨by omega, by omega⟩, fun j hj => ?_⟩
  rw [bit_nat, r.2.2 j hj, decide_eq_true_eq]
  omega
/-- a park caged -/
theorem RN.cage {N N' : JV} {A A' : Nat → Int} (h : RN N A) (h0 : 0 < A 2 → 0 < A 0) (hN1 : N' 1 = N 1) (hN3 : N' 0 3 = N 0 3) (hN4 : N' 0 4 = N 0 4) (hw : N' 0 0 = A' 4 ∧ 0 ≤ A' 4 ∧ A' 4 ≤ 999) (hh : N' 0 1 = 0 ∧ A' 5 = 0)
    (ho : S8 (N' 0 2) ∧ ∀ b : Nat, b < 8 → (bit (N' 0 2) b = true ↔ (b : Int) < A 2 ∧ A' (58 + 10 * b) = 1)) (ho2 : ∀ b : Nat, b < 8 → (b : Int) < A 2 → A' (58 + 10 * b) = 0 ∨ A' (58 + 10 * b) = 1)
    (hl1 : ∀ b : Nat, b < 8 → (b : Int) < A 2 → N' 2 b = A' (60 + 10 * b)) (hl2 : ∀ b : Nat, b < 8 → A 2 ≤ (b : Int) → N' 2 b = 0) (hl3 : ∀ b : Nat, b < 8 → 0 ≤ N' 2 b ∧ N' 2 b ≤ A' 4) (hl4 : A' 6 = N' 2 0 + N' 2 1 + N' 2 2 + N' 2 3 + N' 2 4 + N' 2 5 + N' 2 6 + N' 2 7)
    (hp0 : S8 (N' 3 0) ∧ ∀ b : Nat, b < 8 → (bit (N' 3 0) b = true ↔ (b : Int) < A 2 ∧ ¬ A (59 + 10 * b) = 1)) (hp : ∀ p : Nat, 0 < p → p < 6 → N' 3 p = 0) (ht : ∀ t : Nat, t < 8 → N' 4 t = 0) (h63 : ∀ b : Nat, b < 8 → (b : Int) < A 2 → ¬ A (59 + 10 * b) = 1 → A' (63 + 10 * b) = 0)
    (hA : A' 0 = A 0 ∧ A' 1 = A 1 ∧ A' 2 = A 2) (hA9 : ∀ b : Nat, b < 8 → A' (59 + 10 * b) = A (59 + 10 * b) ∧ A' (61 + 10 * b) = A (61 + 10 * b)) (hA13 : ∀ t : Nat, t < 8 → A' (13 + 6 * t) = A (13 + 6 * t)) : RN N' A' := by
  unfold RN at h ⊢
  obtain ⟨q0, q1, ⟨a2, q2⟩, q3, ⟨a4, q4⟩, q5, ⟨a6, q6⟩, q7, q8, q9, q10, q11, q12, q13, q14, q15, q16⟩ := h
  rw [hN1, hN3, hN4, hA.1, hA.2.1, hA.2.2]
  refine ⟨hw, ⟨by rw [hh.1, hh.2], by omega, by omega⟩, ho, ho2, ⟨a4, fun b b8 => ?_⟩, fun b b8 => ?_, ⟨a6, fun t t8 => ?_⟩, fun t t8 => ?_, fun b b8 => ?_, hl1, hl2, hl3, hl4, fun p p6 => ?_, fun t t8 => ?_, fun b b8 hb he => ?_, fun t t8 b b8 hb => ?_⟩
  · rw [(hA9 b b8).1]; exact q4 b b8
  · rw [(hA9 b b8).1]; exact q5 b b8
  · rw [hA13 t t8]; exact q6 t t8
  · rw [hA13 t t8]; exact q7 t t8
  · rw [(hA9 b b8).2]; exact q8 b b8
  · by_cases c : p = 0
    · subst c
      refine ⟨hp0.1, fun b b8 => ?_⟩
      rw [hp0.2 b b8, (hA9 b b8).1]
      exact ⟨fun q => ⟨q.1, q.2, h63 b b8 q.1 q.2⟩, fun q => ⟨q.1, q.2.1⟩⟩
    · rw [hp p (by omega) p6]
      refine ⟨S8_0, fun b b8 => ?_⟩
      rw [bit0, (hA9 b b8).1]
      exact ⟨fun q => absurd q (by decide), fun q => by have := h63 b b8 q.1 q.2.1; omega⟩
  · rw [ht t t8]
    refine ⟨S8_0, fun b b8 => ?_⟩
    rw [bit0, (hA9 b b8).1]
    exact ⟨fun q => absurd q (by decide), fun q => by have := h63 b b8 q.1 q.2.1; omega⟩
  · rw [(hA9 b b8).1] at he
    rw [h63 b b8 hb he]
    exact Or.inl ⟨by omega, h0 (by omega)⟩
  · rw [ht t t8, bit0] at hb
    exact absurd hb (by decide)
theorem c_cage_T {th p : Nat} : ∀ (d t k : Nat) (M : JMem), t + d = 8 → d < k → ∃ M1, f_X1_cageAll_L28 n th p k (t : Int) M = f_X1_cageAll_L47 n th p M1 ∧ (∀ c : Nat, c ≠ th + 4 → M1 c = M c) ∧ ∀ u : Nat, M1 (th + 4) u = if t ≤ u ∧ u < 8 then 0 else M (th + 4) u := by
  intro d
  induction d with
  | zero =>
    intro t k M hi hk
    obtain ⟨k, rfl⟩ : ∃ q, k = q + 1 := ⟨k - 1, by omega⟩
    refine ⟨M, ?_, fun _ _ => rfl, fun u => by rw [if_neg (by omega)]⟩
    rw [f_X1_cageAll_L28, if_pos (by rw [show jw 8 = 8 by decide, jw_of (by omega) (by omega)]; omega)]
  | succ d ih =>
    intro t k M hi hk
    obtain ⟨k, rfl⟩ : ∃ q, k = q + 1 := ⟨k - 1, by omega⟩
    rw [f_X1_cageAll_L28, if_neg (by rw [show jw 8 = 8 by decide, jw_of (by omega) (by omega)]; omega), chk_pos (jin_of (by omega) (by omega) (by omega)), jwb (by omega)]
    simp only [letv_ap, letm_ap]
    obtain ⟨M1, r1, r2, r3⟩ := ih (t + 1) k (jup M (th + 4) t 0) (by omega) (by omega)
    refine ⟨M1, r1, fun c hc => by rw [r2 c hc, jup_cell hc], fun u => ?_⟩
    rw [r3 u, jup_at]
    by_cases e : u = t
    · rw [if_neg (by omega), if_pos ⟨rfl, e⟩, if_pos (by omega)]
    · by_cases c : t + 1 ≤ u ∧ u < 8
      · rw [if_pos c, if_pos (by omega)]
      · rw [if_neg c, if_neg (fun w => e w.2), if_neg (by omega)]
theorem c_cage_P {th p : Nat} : ∀ (d t k : Nat) (M : JMem), t + d = 6 → d < k → ∃ M1, f_X1_cageAll_L7 n th p k (t : Int) M = f_X1_cageAll_L26 n th p M1 ∧ (∀ c : Nat, c ≠ th + 3 → M1 c = M c) ∧ ∀ u : Nat, M1 (th + 3) u = if t ≤ u ∧ u < 6 then 0 else M (th + 3) u := by
  intro d
  induction d with
  | zero =>
    intro t k M hi hk
    obtain ⟨k, rfl⟩ : ∃ q, k = q + 1 := ⟨k - 1, by omega⟩
    refine ⟨M, ?_, fun _ _ => rfl, fun u => by rw [if_neg (by omega)]⟩
    rw [f_X1_cageAll_L7, if_pos (by rw [show jw 6 = 6 by decide, jw_of (by omega) (by omega)]; omega)]
  | succ d ih =>
    intro t k M hi hk
    obtain ⟨k, rfl⟩ : ∃ q, k = q + 1 := ⟨k - 1, by omega⟩
    rw [f_X1_cageAll_L7, if_neg (by rw [show jw 6 = 6 by decide, jw_of (by omega) (by omega)]; omega), chk_pos (jin_of (by omega) (by omega) (by omega)), jwb (by omega)]
    simp only [letv_ap, letm_ap]
    obtain ⟨M1, r1, r2, r3⟩ := ih (t + 1) k (jup M (th + 3) t 0) (by omega) (by omega)
    refine ⟨M1, r1, fun c hc => by rw [r2 c hc, jup_cell hc], fun u => ?_⟩
    rw [r3 u, jup_at]
    by_cases e : u = t
    · rw [if_neg (by omega), if_pos ⟨rfl, e⟩, if_pos (by omega)]
    · by_cases c : t + 1 ≤ u ∧ u < 6
      · rw [if_pos c, if_pos (by omega)]
      · rw [if_neg c, if_neg (fun w => e w.2), if_neg (by omega)]
theorem c_cage {th p : Nat} (hf : 100 ≤ n) (hs : p + 12 ≤ th ∨ th + 8 ≤ p) (h2 : 0 ≤ M p 2 ∧ M p 2 ≤ 8) (h3 : S8 (M th 3)) : ∃ M', f_X1_cageAll n th p M = some (0, M') ∧ (∀ c : Nat, c ≠ th → c ≠ th + 3 → c ≠ th + 4 → M' c = M c) ∧ (∀ j : Nat, j ≠ 1 → M' th j = M th j) ∧ M' th 1 = 0 ∧ (∀ t : Nat, t < 8 → M' (th + 4) t = 0) ∧ (∀ q : Nat, 0 < q → q < 6 → M' (th + 3) q = 0) ∧ S8 (M' (th + 3) 0) ∧ ∀ b : Nat, b < 8 → (bit (M' (th + 3) 0) b = true ↔ (b : Int) < M p 2 ∧ ¬ bit (M th 3) b = true) := by
  unfold f_X1_cageAll
  simp only [letv_ap, letm_ap]
  obtain ⟨M1, a1, a2, a3⟩ := c_cage_P (n := n) (th := th) (p := p) 6 0 n (jup M th 1 0) (by omega) (by omega)
  obtain ⟨M2, b1, b2, b3⟩ := c_cage_T (n := n) (th := th) (p := p) 8 0 n M1 (by omega) (by omega)
  have e2 : M2 p 2 = M p 2 := by rw [b2 p (by omega), a2 p (by omega), jup_cell (by omega)]
  have e3 : ∀ j : Nat, j ≠ 1 → M2 th j = M th j := fun j hj => by rw [b2 th (by omega), a2 th (by omega), jup_at, if_neg (fun q => hj q.2)]
  rw [show f_X1_cageAll_L7 n th p n 0 (jup M th 1 0) = _ from a1]
  unfold f_X1_cageAll_L26
  simp only [letv_ap, letm_ap]
  rw [show f_X1_cageAll_L28 n th p n 0 M1 = _ from b1]
  unfold f_X1_cageAll_L47
  simp only [letv_ap, letm_ap]
  rw [chk_pos (by decide), show (jw 0).toNat = 0 by decide, e2, e3 3 (by omega)]
  have r := jlow h2
  have s := jandn r.1 h3
  refine ⟨_, rfl, fun c c1 c2 c3 => by rw [jup_cell c2, b2 c c3, a2 c c2, jup_cell c1], fun j hj => by rw [jup_cell (by omega), e3 j hj], ?_, fun t t8 => ?_, fun q q0 q6 => ?_, ?_, fun b b8 => ?_⟩
  · rw [jup_cell (by omega), b2 th (by omega), a2 th (by omega), jup_at, if_pos ⟨rfl, rfl⟩]
  · rw [jup_cell (by omega), b3 t, if_pos (by omega)]
  · rw [jup_at, if_neg (by omega), b2 _ (by omega), a3 q, if_pos (by omega)]
  · rw [jup_at, if_pos ⟨rfl, rfl⟩]; exact s.1
  · rw [jup_at, if_pos ⟨rfl, rfl⟩, s.2 b b8, r.2 b b8]
theorem c_fetch_L {th p : Nat} {s : Int} (hS : S8 s) {nb : Nat} (h8 : nb ≤ 8) : ∀ (d i k : Nat) (M : JMem), i + d = nb → d < k → M p 2 = nb → th + 2 ≠ p → ∃ M1, f_X1_fetchAll_L32 n th p k s (i : Int) M = f_X1_fetchAll_L64 n th p s M1 ∧ (∀ c : Nat, c ≠ th + 2 → M1 c = M c) ∧ ∀ u : Nat, M1 (th + 2) u = if i ≤ u ∧ u < nb then M (th + 2) u + b01 s u else M (th + 2) u := by
  intro d
  induction d with
  | zero =>
    intro i k M hi hk h2 hp
    obtain ⟨k, rfl⟩ : ∃ q, k = q + 1 := ⟨k - 1, by omega⟩
    refine ⟨M, ?_, fun _ _ => rfl, fun u => by rw [if_neg (by omega)]⟩
    rw [f_X1_fetchAll_L32, h2, if_pos (by rw [jw_of (x := (nb : Int)) (by omega) (by omega), jw_of (x := (i : Int)) (by omega) (by omega)]; omega)]
  | succ d ih =>
    intro i k M hi hk h2 hp
    obtain ⟨k, rfl⟩ : ∃ q, k = q + 1 := ⟨k - 1, by omega⟩
    have i8 : i < 8 := by omega
    rw [f_X1_fetchAll_L32, h2, if_neg (by rw [jw_of (x := (nb : Int)) (by omega) (by omega), jw_of (x := (i : Int)) (by omega) (by omega)]; omega), q_isIn hS i8, bnd_some]
    unfold f_X1_fetchAll_L58
    simp only [letv_ap, letm_ap]
    by_cases c : bit s i = true
    · rw [if_pos c, if_neg (by decide), chk_pos (jin_of (by omega) (by omega) (by omega)), chk_pos (jin_of (by omega) (by omega) (by omega)), jwb (by omega)]
      obtain ⟨M1, r1, r2, r3⟩ := ih (i + 1) k (jup M (th + 2) i (M (th + 2) i + 1)) (by omega) (by omega) (by rw [jup_cell (by omega)]; exact h2) hp
      refine ⟨M1, r1, fun c hc => by rw [r2 c hc, jup_cell hc], fun u => ?_⟩
      rw [r3 u, jup_at]
      by_cases e : u = i
      · subst e
        rw [if_neg (by omega), if_pos ⟨rfl, rfl⟩, if_pos (by omega)]
        unfold b01
        rw [if_pos c]
      · by_cases c : i + 1 ≤ u ∧ u < nb
        · rw [if_pos c, if_neg (fun w => e w.2), if_pos (by omega)]
        · rw [if_neg c, if_neg (fun w => e w.2), if_neg (by omega)]
    · rw [if_neg c, if_pos (by decide)]
      obtain ⟨M1, r1, r2, r3⟩ := ih (i + 1) k M (by omega) (by omega) h2 hp
      refine ⟨M1, r1, r2, fun u => ?_⟩
      rw [r3 u]
      by_cases e : u = i
      · subst e
        rw [if_neg (by omega), if_pos (by omega)]
        unfold b01
        rw [if_neg c]; omega
      · by_cases c : i + 1 ≤ u ∧ u < nb
        · rw [if_pos c, if_pos (by omega)]
        · rw [if_neg c, if_neg (by omega)]
end PMONDAY

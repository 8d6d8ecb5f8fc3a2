section PFEWEST
variable {n : Nat} {M : JMem}
theorem lowbit0 : ∀ m : Nat, m < 256 → m ≠ 0 → ∃ j : Nat, j < 8 ∧ jand (m : Int) (-(m : Int)) = ((2 ^ j : Nat) : Int) ∧ m.testBit j = true ∧ ∀ t : Nat, t < j → m.testBit t = false := by decide +kernel
theorem zN_more {Z : Nat → Nat} {x k : Nat} (h : ∀ t : Nat, k ≤ t → x.testBit t = false) : ∀ d : Nat, zN Z x (k + d) = zN Z x k := by
  intro d
  induction d with
  | zero => rfl
  | succ d ih =>
    show zN Z x (k + d) + (if x.testBit (k + d) = true then Z (k + d) else 0) = zN Z x k
    rw [ih, h (k + d) (by omega)]; rfl
theorem WS.room {A : Nat → Int} {nb : Nat} (n8 : nb ≤ 8) {m : Nat → Int} (h : WS A nb m) {x s : Nat} (hx : x < 2 ^ nb) (hs : s < 1000) : m x ≤ (s : Int) ↔ isR (hF A) (hZ A) s x := by
  obtain ⟨w1, w2⟩ := h x hx
  have ez : zN (hZ A) x 8 = zN (hZ A) x nb := by
    have := zN_more (Z := hZ A) (x := x) (k := nb) (fun t ht => Nat.testBit_lt_two_pow (Nat.lt_of_lt_of_le hx (Nat.pow_le_pow_right (n := 2) (by decide) ht))) (8 - nb)
    rw [← this, show nb + (8 - nb) = 8 by omega]
  rcases w2 with ⟨a, a2⟩ | ⟨a, a2⟩
  · constructor
    · exact fun q => ⟨a, by rw [ez]; omega⟩
    · exact fun q => by have := q.2; rw [ez] at this; omega
  · exact ⟨fun q => by omega, fun q => absurd q.1 a⟩
/-- the best so far, when the rooms of a kind have been tried -/
def BI (R : Nat → Prop) (x : Nat) (inf b : Int) (V : Nat → Prop) : Prop := (b = inf ∨ ∃ k : Nat, b = k ∧ k ≤ 8 ∧ Part R k x) ∧ ∀ y : Nat, y < 256 → V y → R y → ∀ k : Nat, Part R k (less x y) → b ≤ k + 1
theorem BI.old {R : Nat → Prop} {x : Nat} {inf b : Int} {V V' : Nat → Prop} (h : BI R x inf b V) (hv : ∀ y : Nat, y < 256 → V' y → V y ∨ ¬ R y) : BI R x inf b V' := ⟨h.1, fun y hy v r => by
  rcases hv y hy v with a | a
  · exact h.2 y hy a r
  · exact absurd r a⟩
theorem BI.new {R : Nat → Prop} {x : Nat} (hx : x < 256) {inf b w : Int} (hi : 1000 ≤ inf) {V V' : Nat → Prop} (h : BI R x inf b V) {y : Nat} (hy : y < 256) (hs : sub8 y x) (hn : y ≠ 0) (hr : R y) (hw : LK R (less x y) inf w) (hv : ∀ z : Nat, z < 256 → V' z → V z ∨ z = y ∨ ¬ R z) : BI R x inf (if w + 1 < b then w + 1 else b) V' := by
  have kle : ∀ k : Nat, Part R k x → k ≤ 8 := fun k q => by
    have := Part.le k x q
    have h8 : S8 (x : Int) := ⟨by omega, by omega⟩
    have := cntN_8 h8
    have := pcI_range h8
    omega
  have bi : b ≤ inf := by
    rcases h.1 with a | ⟨k, a, c, d⟩ <;> omega
  constructor
  · by_cases c : w + 1 < b
    · rw [if_pos c]
      rcases hw with ⟨a, _⟩ | ⟨k, a, c2, d, _⟩
      · omega
      · have p : Part R (k + 1) x := ⟨y, hy, hs, hn, hr, d⟩
        exact Or.inr ⟨k + 1, by omega, kle _ p, p⟩
    · rw [if_neg c]; exact h.1
  · intro z hz vz rz k pk
    have le : (if w + 1 < b then w + 1 else b) ≤ b ∧ (if w + 1 < b then w + 1 else b) ≤ w + 1 := by
      by_cases c : w + 1 < b
      · rw [if_pos c]; omega
      · rw [if_neg c]; omega
    rcases hv z hz vz with a | a | a
    · exact Int.le_trans le.1 (h.2 z hz a rz k pk)
    · rw [a] at pk
      rcases hw with ⟨_, e⟩ | ⟨j, e, _, _, e2⟩
      · exact absurd pk (e k)
      · have := e2 k pk
        omega
    · exact absurd rz a
theorem BI.fin {R : Nat → Prop} {x : Nat} {inf b : Int} (hi : 1000 ≤ inf) (hx : x < 256) (x0 : x ≠ 0) {V : Nat → Prop} (h : BI R x inf b V) (hall : ∀ k : Nat, Part R (k + 1) x → ∃ y : Nat, y < 256 ∧ V y ∧ R y ∧ Part R k (less x y)) : LK R x inf b := by
  have kle : ∀ k : Nat, Part R k x → k ≤ 8 := fun k q => by
    have := Part.le k x q
    have h8 : S8 (x : Int) := ⟨by omega, by omega⟩
    have := cntN_8 h8
    have := pcI_range h8
    omega
  have low : ∀ k : Nat, Part R k x → b ≤ k := fun k q => by
    cases k with
    | zero => exact absurd q x0
    | succ k =>
      obtain ⟨y, y1, y2, y3, y4⟩ := hall k q
      have := h.2 y y1 y2 y3 k y4
      omega
  rcases h.1 with a | ⟨k, a, c, d⟩
  · refine Or.inl ⟨a, fun k q => ?_⟩
    have := low k q
    have := kle k q
    omega
  · exact Or.inr ⟨k, a, c, d, fun j q => by have := low j q; omega⟩
theorem LK.zero {R : Nat → Prop} {inf : Int} : LK R 0 inf 0 := Or.inr ⟨0, rfl, by omega, rfl, fun j _ => Nat.zero_le j⟩
theorem LK.range {R : Nat → Prop} {x : Nat} {inf v : Int} (h : LK R x inf v) : v = inf ∨ (0 ≤ v ∧ v ≤ 8) := by
  rcases h with ⟨a, _⟩ | ⟨k, a, c, _⟩
  · exact Or.inl a
  · exact Or.inr (by omega)
/-! the class: the room of the lowest one with any of the others -/
theorem c_fewestL {A : Nat → Int} {nb : Nat} (n8 : nb ≤ 8) (hW : WS A nb (M 80)) {s : Nat} (hs : s < 1000) {x j : Nat} (hx : x < 2 ^ nb) (hj : lowB x j) (hN : ∀ w : Nat, w < x → sub8 w x → LK (isR (hF A) (hZ A) s) w 1000 (M 81 w)) :
    ∀ (v q : Nat) (b : Int) (tn : Nat), v < 256 → v + tn ≤ 255 → sub8 v (less x (2 ^ j)) → v < q → (0 ≤ b ∧ b ≤ 1000) → BI (isR (hF A) (hZ A) s) x 1000 b (fun y => sub8 y x ∧ y.testBit j = true ∧ v < less y (2 ^ j)) →
    ∃ r, f_X5_fewestOf_L22 n q (s : Int) ((2 ^ j : Nat) : Int) (less x (2 ^ j) : Nat) b (v : Int) (tn : Int) M = some (r, M) ∧ LK (isR (hF A) (hZ A) s) x 1000 r := by
  have p8 := pow8 nb (by omega)
  have x8 : x < 256 := by omega
  have x0 : x ≠ 0 := fun e => by have := hj.2.1; rw [e, Nat.zero_testBit] at this; cases this
  have j8 := hj.1
  have f8 : 2 ^ j < 256 := Nat.lt_of_le_of_lt (Nat.pow_le_pow_right (n := 2) (by decide) (show j ≤ 7 by omega)) (by decide)
  have fb : ∀ t : Nat, (2 ^ j).testBit t = decide (j = t) := fun t => Nat.testBit_two_pow
  have o8 : less x (2 ^ j) < 256 := less_lt x8
  intro v
  induction v using Nat.strongRecOn with
  | ind v ih =>
    intro q b tn hv ht hsv hq hb hB
    obtain ⟨q, rfl⟩ : ∃ z, q = z + 1 := ⟨q - 1, by omega⟩
    have ob : ∀ t : Nat, t < 8 → (less x (2 ^ j)).testBit t = (x.testBit t && !decide (j = t)) := fun t t8 => by rw [less_bit _ _ t8, fb]
    -- the room
    have y8 : 2 ^ j ||| v < 256 := or_lt8 f8 hv
    have yb : ∀ t : Nat, (2 ^ j ||| v).testBit t = (decide (j = t) || v.testBit t) := fun t => by rw [Nat.testBit_or, fb]
    have vx : ∀ t : Nat, t < 8 → v.testBit t = true → x.testBit t = true ∧ j ≠ t := fun t t8 h => by
      have := hsv t t8 h
      rw [ob t t8, Bool.and_eq_true] at this
      refine ⟨this.1, fun e => ?_⟩
      rw [decide_eq_true e] at this
      exact absurd this.2 (by decide)
    have ys : sub8 (2 ^ j ||| v) x := fun t t8 h => by
      rw [yb t, Bool.or_eq_true, decide_eq_true_eq] at h
      rcases h with h | h
      · rw [← h]; exact hj.2.1
      · exact (vx t t8 h).1
    have yj : (2 ^ j ||| v).testBit j = true := by rw [yb j, decide_eq_true rfl]; rfl
    have ye : ∀ y : Nat, y < 256 → y.testBit j = true → less y (2 ^ j) = v → y = 2 ^ j ||| v := fun y hy h1 h2 => by
      refine ext8 hy y8 fun t t8 => ?_
      rw [yb t, ← h2, less_bit _ _ t8, fb]
      by_cases e : j = t
      · rw [← e, h1, decide_eq_true rfl]; rfl
      · rw [decide_eq_false e]; simp
    have w1 : less x (2 ^ j) ^^^ v = less x (2 ^ j ||| v) := by
      refine ext8 (xor_lt8 o8 hv) (less_lt x8) fun t t8 => ?_
      rw [Nat.testBit_xor, ob t t8, less_bit _ _ t8, yb t]
      have := vx t t8
      cases hvt : v.testBit t <;> cases hxt : x.testBit t <;> by_cases e : j = t <;> simp_all
    have wsub : sub8 (less x (2 ^ j ||| v)) x := fun t t8 h => by
      rw [less_bit _ _ t8, Bool.and_eq_true] at h
      exact h.1
    have wlt : less x (2 ^ j ||| v) < x := by
      have a := sub8_le (less_lt x8) wsub
      have b : less x (2 ^ j ||| v) ≠ x := fun e => by
        have h1 := less_bit x (2 ^ j ||| v) j8
        rw [e, hj.2.1, yj] at h1
        exact absurd h1 (by decide)
      omega
    have w256 : less x (2 ^ j ||| v) < 256 := less_lt x8
    have ylt : 2 ^ j ||| v < 2 ^ nb := Nat.lt_of_le_of_lt (sub8_le y8 ys) hx
    have rm := hW.room n8 ylt hs
    have wr := hW _ ylt
    have need := hN _ wlt wsub
    have nr := need.range
    -- what comes next
    have next : ∀ b2 : Int, (0 ≤ b2 ∧ b2 ≤ 1000) → BI (isR (hF A) (hZ A) s) x 1000 b2 (fun y => sub8 y x ∧ y.testBit j = true ∧ v ≤ less y (2 ^ j)) → ∃ r, f_X5_fewestOf_L62 n (f_X5_fewestOf_L22 n q) (s : Int) ((2 ^ j : Nat) : Int) (less x (2 ^ j) : Nat) b2 (v : Int) (tn : Int) M = some (r, M) ∧ LK (isR (hF A) (hZ A) s) x 1000 r := fun b2 hb2 h2 => by
      unfold f_X5_fewestOf_L62 f_X5_fewestOf_L67 f_X5_fewestOf_L85
      simp only [letv_ap]
      by_cases c : v = 0
      · subst c
        refine ⟨b2, by rw [if_pos (by rfl)], h2.fin (by omega) x8 x0 fun k pk => ?_⟩
        obtain ⟨y, j', q1, q2, q3, q4, q5, q6⟩ := Part.front (k + 1) x x8 pk
        have ej : j' = j := by
          by_cases c1 : j' < j
          · have := hj.2.2 j' c1; rw [q3.2.1] at this; cases this
          · by_cases c2 : j < j'
            · have := q3.2.2 j c2; rw [hj.2.1] at this; cases this
            · omega
        exact ⟨y, q1, ⟨q2, by rw [← ej]; exact q4, Nat.zero_le _⟩, q5, PartF.part _ _ q6⟩
      · have nl : (v - 1) &&& less x (2 ^ j) ≤ v - 1 := Nat.and_le_left
        obtain ⟨r, r1, r2⟩ := ih ((v - 1) &&& less x (2 ^ j)) (by omega) q b2 (tn + 1) (by omega) (by omega) (fun t t8 h => by
          rw [Nat.testBit_and, Bool.and_eq_true] at h
          exact h.2) (by omega) hb2 (h2.old fun y hy ⟨a1, a2, a3⟩ => Or.inl ⟨a1, a2, by
          by_cases z : v ≤ less y (2 ^ j)
          · exact z
          · have ysub : sub8 (less y (2 ^ j)) (less x (2 ^ j)) := fun t t8 h => by
              rw [less_bit _ _ t8, Bool.and_eq_true] at h
              rw [less_bit _ _ t8, a1 t t8 h.1, h.2]; rfl
            have := next0 (less x (2 ^ j)) (less y (2 ^ j)) v ((and_sub (less_lt hy)).2 ysub) ((and_sub hv).2 hsv) (by omega)
            omega⟩)
        refine ⟨r, ?_, r2⟩
        rw [if_neg (by rw [jw_of (x := (v : Int)) (by omega) (by omega)]; omega), show (v : Int) - 1 = ((v - 1 : Nat) : Int) by omega, jand_nat (by omega), show (tn : Int) + 1 = ((tn + 1 : Nat) : Int) by omega]
        exact r1
    rw [f_X5_fewestOf_L22, if_neg (by rw [show jw 256 = 256 by decide, jw_of (x := (tn : Int)) (by omega) (by omega)]; omega), jor_nat (by omega) (by omega), chk_pos (jin_of (by omega) (by omega) (by omega)), show (jw ((2 ^ j ||| v : Nat) : Int)).toNat = 2 ^ j ||| v from jwb (by omega), jw_of (x := (s : Int)) (by omega) (by omega), jw_of (x := M 80 (2 ^ j ||| v)) (by omega) (by omega)]
    by_cases c : (s : Int) < M 80 (2 ^ j ||| v)
    · rw [if_pos c]
      refine next b hb (hB.old fun y hy ⟨a1, a2, a3⟩ => ?_)
      by_cases z : v = less y (2 ^ j)
      · refine Or.inr fun r => ?_
        rw [ye y hy a2 z.symm] at r
        have := rm.2 r
        omega
      · exact Or.inl ⟨a1, a2, by omega⟩
    · rw [if_neg c, jxor_nat (by omega) (by omega), w1, chk_pos (jin_of (by omega) (by omega) (by omega)), show (jw ((less x (2 ^ j ||| v) : Nat) : Int)).toNat = less x (2 ^ j ||| v) from jwb (by omega)]
      simp only [letv_ap]
      have em : jmin b (M 81 (less x (2 ^ j ||| v)) + 1) = if M 81 (less x (2 ^ j ||| v)) + 1 < b then M 81 (less x (2 ^ j ||| v)) + 1 else b := by
        unfold jmin
        rw [jw_of (x := M 81 (less x (2 ^ j ||| v)) + 1) (by omega) (by omega), jw_of (x := b) (by omega) (by omega)]
      rw [em]
      refine next _ ?_ (hB.new x8 (by omega) y8 ys (fun e => by rw [e, Nat.zero_testBit] at yj; cases yj) (rm.1 (by omega)) need fun y hy ⟨a1, a2, a3⟩ => ?_)
      · by_cases z : M 81 (less x (2 ^ j ||| v)) + 1 < b
        · rw [if_pos z]; omega
        · rw [if_neg z]; exact hb
      · by_cases z : v = less y (2 ^ j)
        · exact Or.inr (Or.inl (ye y hy a2 z.symm))
        · exact Or.inl ⟨a1, a2, by omega⟩
end PFEWEST

section PMONDAY2
variable {n : Nat} {M : JMem}
theorem RN.lates {N : JV} {A : Nat → Int} (h : RN N A) : (∀ b : Nat, b < 8 → (b : Int) < A 2 → N 2 b = A (60 + 10 * b)) ∧ (∀ b : Nat, b < 8 → A 2 ≤ (b : Int) → N 2 b = 0) ∧ (∀ b : Nat, b < 8 → 0 ≤ N 2 b ∧ N 2 b ≤ A 4) ∧ A 6 = N 2 0 + N 2 1 + N 2 2 + N 2 3 + N 2 4 + N 2 5 + N 2 6 + N 2 7 := by
  unfold RN at h
  obtain ⟨q0, q1, ⟨a2, q2⟩, q3, ⟨a4, q4⟩, q5, ⟨a6, q6⟩, q7, q8, q9, q10, q11, q12, q13, q14, q15, q16⟩ := h
  exact ⟨q9, q10, q11, q12⟩
/-- a monday's numbers -/
def MonA (A : Nat → Int) (r : Int) (A' : Nat → Int) : Prop := A' 4 = A 4 + 1 ∧ A' 5 = 0 ∧ A' 6 = A 6 + pcI r ∧ (∀ b : Nat, b < 8 → (b : Int) < A 2 → A' (60 + 10 * b) = A (60 + 10 * b) + b01 r b ∧ A' (63 + 10 * b) = 0) ∧ ∀ i : Nat, i ≠ 4 → i ≠ 5 → i ≠ 6 → (∀ b : Nat, b < 8 → i ≠ 60 + 10 * b ∧ i ≠ 63 + 10 * b) → A' i = A i
theorem c_fetch {th p : Nat} (hf : 100 ≤ n) (hs : p + 12 ≤ th ∨ th + 8 ≤ p) {A : Nat → Int} (hP : RP (blk M p 12) A) (hR : RN (blk M th 8) A) : ∃ r M', f_X1_fetchAll n th p M = some (r, M') ∧ (∀ c : Nat, c < th ∨ th + 8 ≤ c → M' c = M c) ∧ S8 r ∧ (∀ b : Nat, b < 8 → (bit r b = true ↔ (b : Int) < A 2 ∧ 0 < wh (offs A (A 2).toNat) b)) ∧ (A 4 ≤ 998 → ∀ A', MonA A r A' → RN (blk M' th 8) A') := by
  have hA := SA.of hP hR
  have h2 := hA.2.2.1
  have h0 := hA.1
  obtain ⟨M1, a1, a2, a3⟩ := c_arrive (n := n) hf hs hP hR
  have o2 : offs A (A 2).toNat 2 = A 2 := offs_ne (by omega)
  have o0 : offs A (A 2).toNat 0 = A 0 := offs_ne (by omega)
  have o9 : ∀ b : Nat, offs A (A 2).toNat (59 + 10 * b) = A (59 + 10 * b) := fun b => offs_ne (by omega)
  obtain ⟨g1, g2, g3, g4, g5, g6⟩ := a3.heads
  obtain ⟨q13, q14, q15, q16⟩ := a3.spots
  have g4 : S8 (M1 th 3) ∧ ∀ b : Nat, b < 8 → (bit (M1 th 3) b = true ↔ (b : Int) < offs A (A 2).toNat 2 ∧ offs A (A 2).toNat (59 + 10 * b) = 1) := g4
  have r13 : S8 (M1 (th + 3) 0) ∧ ∀ b : Nat, b < 8 → (bit (M1 (th + 3) 0) b = true ↔ (b : Int) < offs A (A 2).toNat 2 ∧ ¬ offs A (A 2).toNat (59 + 10 * b) = 1 ∧ offs A (A 2).toNat (63 + 10 * b) = ((0 : Nat) : Int)) := q13 0 (by omega)
  have e2 : M1 p 2 = A 2 := by
    have : blk M1 p 12 0 2 = blk M p 12 0 2 := by rw [a2.plan hs]
    rw [blk_at (by omega), blk_at (by omega)] at this
    rw [show M1 p 2 = M p 2 from this]; exact hP.2.2.1.1
  have s1 := jlow h2
  have s2 := jandn s1.1 g4.1
  have s3 := jandn s2.1 r13.1
  have bits : ∀ b : Nat, b < 8 → (bit (jand (jand (jshl 1 (A 2) - 1) (jxor (M1 th 3) (-1))) (jxor (M1 (th + 3) 0) (-1))) b = true ↔ (b : Int) < A 2 ∧ 0 < wh (offs A (A 2).toNat) b) := fun b b8 => by
    rw [s3.2 b b8, s2.2 b b8, s1.2 b b8, g4.2 b b8, r13.2 b b8, o2]
    unfold wh
    by_cases he : offs A (A 2).toNat (59 + 10 * b) = 1
    · rw [if_pos he]
      exact ⟨fun q => absurd ⟨q.1.1, he⟩ q.1.2, fun q => by omega⟩
    · rw [if_neg he]
      constructor
      · rintro ⟨⟨z1, z2⟩, z3⟩
        have r := q15 b b8 (by rw [o2]; exact z1) he
        have : ¬ offs A (A 2).toNat (63 + 10 * b) = 0 := fun w => z3 ⟨z1, he, w⟩
        exact ⟨z1, by omega⟩
      · rintro ⟨z1, z2⟩
        exact ⟨⟨z1, fun w => he w.2⟩, fun w => by omega⟩
  obtain ⟨M2, b1, b2, b3⟩ := c_fetch_L (n := n) (th := th) (p := p) s3.1 (nb := (A 2).toNat) (by omega) (A 2).toNat 0 n M1 (by omega) (by omega) (by rw [e2]; omega) (by omega)
  obtain ⟨M3, k1, k2, k3, k4, k5, k6, k7, k8⟩ := c_cage (n := n) (M := M2) (th := th) (p := p) hf hs (by rw [b2 p (by omega), e2]; exact h2) (by rw [b2 th (by omega)]; exact g4.1)
  refine ⟨jand (jand (jshl 1 (A 2) - 1) (jxor (M1 th 3) (-1))) (jxor (M1 (th + 3) 0) (-1)), jup M3 th 0 (M3 th 0 + 1), ?_, fun c hc => ?_, s3.1, bits, fun hw A' hM => ?_⟩
  · unfold f_X1_fetchAll
    simp only [letv_ap, letm_ap]
    rw [a1, bnd_some, chk_pos (by decide), show (jw 0).toNat = 0 by decide, e2]
    rw [show f_X1_fetchAll_L32 n th p n (jand (jand (jshl 1 (A 2) - 1) (jxor (M1 th 3) (-1))) (jxor (M1 (th + 3) 0) (-1))) 0 M1 = _ from b1]
    unfold f_X1_fetchAll_L64
    simp only [letv_ap, letm_ap]
    rw [k1, bnd_some]
  · rw [jup_cell (by omega), k2 c (by omega) (by omega) (by omega), b2 c (by omega), a2 c (by omega) (by omega) (by omega)]
  · obtain ⟨m4, m5, m6, m7, m8⟩ := hM
    obtain ⟨l1, l2, l3, l4⟩ := a3.lates
    have ne : ∀ i : Nat, i ≠ 4 → i ≠ 5 → i ≠ 6 → (∀ b : Nat, b < 8 → i ≠ 60 + 10 * b ∧ i ≠ 63 + 10 * b) → A' i = offs A (A 2).toNat i := fun i i4 i5 i6 hi => by
      rw [m8 i i4 i5 i6 hi, offs_ne (fun b hb => (hi b (by omega)).2)]
    have o4 : offs A (A 2).toNat 4 = A 4 := offs_ne (by omega)
    have o6 : offs A (A 2).toNat 6 = A 6 := offs_ne (by omega)
    have la : ∀ b : Nat, b < 8 → blk (jup M3 th 0 (M3 th 0 + 1)) th 8 2 b = blk M1 th 8 2 b + b01 (jand (jand (jshl 1 (A 2) - 1) (jxor (M1 th 3) (-1))) (jxor (M1 (th + 3) 0) (-1))) b := fun b b8 => by
      rw [blk_at (by omega), blk_at (by omega), jup_cell (by omega), k2 _ (by omega) (by omega) (by omega), b3 b]
      by_cases c : 0 ≤ b ∧ b < (A 2).toNat
      · rw [if_pos c]
      · rw [if_neg c]
        unfold b01
        rw [if_neg (fun q => by have := ((bits b b8).1 q).1; omega)]; omega
    have t3 : ∀ j : Nat, j ≠ 0 → j ≠ 1 → blk (jup M3 th 0 (M3 th 0 + 1)) th 8 0 j = blk M1 th 8 0 j := fun j j0 j1 => by
      rw [blk_at (by omega), blk_at (by omega), jup_at, if_neg (by omega)]
      show M3 th j = M1 th j
      rw [k3 j j1, b2 th (by omega)]
    have h60 : ∀ b : Nat, b < 8 → (b : Int) < A 2 → offs A (A 2).toNat (60 + 10 * b) = A (60 + 10 * b) := fun b b8 hb => offs_ne (by omega)
    refine RN.cage a3 (by rw [o2, o0]; exact hP.2.2.2.2.1) (funext fun k => ?_) (t3 3 (by omega) (by omega)) (t3 4 (by omega) (by omega)) ⟨?_, by omega, by omega⟩ ⟨?_, m5⟩ ⟨?_, fun b b8 => ?_⟩ (fun b b8 hb => ?_) (fun b b8 hb => ?_) (fun b b8 hb => ?_) (fun b b8 => ?_) ?_ ⟨?_, fun b b8 => ?_⟩ (fun q q0 q6 => ?_) (fun t t8 => ?_) (fun b b8 hb he => ?_) ⟨?_, ?_, ?_⟩ (fun b b8 => ⟨?_, ?_⟩) (fun t t8 => ?_)
    · rw [blk_at (by omega), blk_at (by omega), jup_cell (by omega), k2 _ (by omega) (by omega) (by omega), b2 _ (by omega)]
    · rw [blk_at (by omega), jup_at, if_pos ⟨rfl, rfl⟩, k3 0 (by omega), b2 th (by omega), m4]
      have : M1 th 0 = offs A (A 2).toNat 4 := g1.1
      rw [this, o4]
    · rw [blk_at (by omega), jup_at, if_neg (by omega)]; exact k4
    · rw [t3 2 (by omega) (by omega)]; exact g3.1
    · rw [t3 2 (by omega) (by omega), ne (58 + 10 * b) (by omega) (by omega) (by omega) (by omega)]; exact g3.2 b b8
    · rw [o2] at hb
      rw [m8 (58 + 10 * b) (by omega) (by omega) (by omega) (by omega)]
      exact (hA.2.2.2.2.2.2 b b8 hb).1
    · rw [o2] at hb
      rw [la b b8, l1 b b8 (by rw [o2]; exact hb), (m7 b b8 hb).1, h60 b b8 hb]
    · rw [la b b8, l2 b b8 hb]
      rw [o2] at hb
      unfold b01
      rw [if_neg (fun q => by have := ((bits b b8).1 q).1; omega)]; omega
    · have := l3 b b8
      have := b01_range (jand (jand (jshl 1 (A 2) - 1) (jxor (M1 th 3) (-1))) (jxor (M1 (th + 3) 0) (-1))) b
      rw [la b b8]
      omega
    · rw [la 0 (by omega), la 1 (by omega), la 2 (by omega), la 3 (by omega), la 4 (by omega), la 5 (by omega), la 6 (by omega), la 7 (by omega), m6, pcI_sum s3.1]
      omega
    · rw [blk_at (by omega), jup_cell (by omega)]; exact k7
    · rw [blk_at (by omega), jup_cell (by omega), k8 b b8, b2 p (by omega), e2, b2 th (by omega), g4.2 b b8, o2]
      exact ⟨fun q => ⟨q.1, fun w => q.2 ⟨q.1, w⟩⟩, fun q => ⟨q.1, fun w => q.2 w.2⟩⟩
    · rw [blk_at (by omega), jup_cell (by omega)]; exact k6 q q0 q6
    · rw [blk_at (by omega), jup_cell (by omega)]; exact k5 t t8
    · rw [o2] at hb
      exact (m7 b b8 hb).2
    · exact ne 0 (by omega) (by omega) (by omega) (by omega)
    · exact ne 1 (by omega) (by omega) (by omega) (by omega)
    · exact ne 2 (by omega) (by omega) (by omega) (by omega)
    · exact ne _ (by omega) (by omega) (by omega) (by omega)
    · exact ne _ (by omega) (by omega) (by omega) (by omega)
    · exact ne _ (by omega) (by omega) (by omega) (by omega)
/-! the reference's monday -/
theorem q_lateNow_L (h : SA (M 168)) : ∀ (d i k : Nat) (v : Int), i + d = (M 168 2).toNat → d < k → S8 v → ∃ r, f_X12_lateNow_L4 n k v (i : Int) M = some (r, M) ∧ S8 r ∧ ∀ b : Nat, b < 8 → (bit r b = true ↔ bit v b = true ∨ (i ≤ b ∧ (b : Int) < M 168 2 ∧ 0 < wh (M 168) b)) := by
  have h2 := h.2.2.1
  intro d
  induction d with
  | zero =>
    intro i k v hi hk hv
    obtain ⟨k, rfl⟩ : ∃ q, k = q + 1 := ⟨k - 1, by omega⟩
    refine ⟨v, ?_, hv, fun b b8 => ⟨Or.inl, fun q => q.elim id (fun w => by omega)⟩⟩
    rw [f_X12_lateNow_L4, chk_pos (by decide), show (jw 2).toNat = 2 by decide, if_pos (by rw [jw_of (x := M 168 2) (by omega) (by omega), jw_of (x := (i : Int)) (by omega) (by omega)]; omega)]
  | succ d ih =>
    intro i k v hi hk hv
    obtain ⟨k, rfl⟩ : ∃ q, k = q + 1 := ⟨k - 1, by omega⟩
    have i8 : i < 8 := by omega
    have il : (i : Int) < M 168 2 := by omega
    have hw := h.whK i8 il
    rw [f_X12_lateNow_L4, chk_pos (by decide), show (jw 2).toNat = 2 by decide, if_neg (by rw [jw_of (x := M 168 2) (by omega) (by omega), jw_of (x := (i : Int)) (by omega) (by omega)]; omega), q_whS h i8 il, bnd_some, jw_of (x := wh (M 168) i) (by omega) (by omega)]
    unfold f_X12_lateNow_L30
    simp only [letv_ap, letm_ap]
    by_cases c : wh (M 168) i ≤ 0
    · have s := jorS hv S8_0
      rw [if_pos c]
      obtain ⟨r, r1, r2, r3⟩ := ih (i + 1) k (jor v 0) (by omega) (by omega) s.1
      refine ⟨r, r1, r2, fun b b8 => ?_⟩
      rw [r3 b b8, s.2 b, bit0, Bool.or_false]
      constructor
      · rintro (q | q)
        · exact Or.inl q
        · exact Or.inr ⟨by omega, q.2⟩
      · rintro (q | q)
        · exact Or.inl q
        · by_cases e : b = i
          · subst e; omega
          · exact Or.inr ⟨by omega, q.2⟩
    · have s := jset hv i8
      rw [if_neg c]
      obtain ⟨r, r1, r2, r3⟩ := ih (i + 1) k (jor v (jshl 1 (i : Int))) (by omega) (by omega) s.1
      refine ⟨r, r1, r2, fun b b8 => ?_⟩
      rw [r3 b b8, s.2 b b8, Bool.or_eq_true, decide_eq_true_eq]
      constructor
      · rintro ((q | q) | q)
        · exact Or.inl q
        · rw [q]; exact Or.inr ⟨by omega, il, by omega⟩
        · exact Or.inr ⟨by omega, q.2⟩
      · rintro (q | q)
        · exact Or.inl (Or.inl q)
        · by_cases e : b = i
          · exact Or.inl (Or.inr e)
          · exact Or.inr ⟨by omega, q.2⟩
theorem q_lateNow (hf : 100 ≤ n) (h : SA (M 168)) : ∃ r, f_X12_lateNow n M = some (r, M) ∧ S8 r ∧ ∀ b : Nat, b < 8 → (bit r b = true ↔ (b : Int) < M 168 2 ∧ 0 < wh (M 168) b) := by
  obtain ⟨r, r1, r2, r3⟩ := q_lateNow_L (n := n) h (M 168 2).toNat 0 n 0 (by omega) (by have := h.2.2.1; omega) S8_0
  refine ⟨r, r1, r2, fun b b8 => ?_⟩
  rw [r3 b b8, bit0]
  simp
theorem q_monOffs {A : Nat → Int} (hA : SA A) : ∀ (d i k : Nat) (M : JMem), i + d = (A 2).toNat → d < k → M 168 = offs A i → f_X12_mondayComes_L2 n k (i : Int) M = f_X12_mondayComes_L23 n (jrow M 168 (offs A (A 2).toNat)) := by
  have h := hA
  obtain ⟨s0, s1, s2, s4, s5, st, sb⟩ := h
  intro d
  induction d with
  | zero =>
    intro i k M hi hk hM
    obtain ⟨k, rfl⟩ : ∃ q, k = q + 1 := ⟨k - 1, by omega⟩
    have e2 : M 168 2 = A 2 := by rw [hM]; exact offs_ne (by omega)
    rw [f_X12_mondayComes_L2, chk_pos (by decide), show (jw 2).toNat = 2 by decide, e2, if_pos (by rw [jw_of (x := A 2) (by omega) (by omega), jw_of (x := (i : Int)) (by omega) (by omega)]; omega), show (A 2).toNat = i by omega, ← hM, jrow_self]
  | succ d ih =>
    intro i k M hi hk hM
    obtain ⟨k, rfl⟩ : ∃ q, k = q + 1 := ⟨k - 1, by omega⟩
    have e2 : M 168 2 = A 2 := by rw [hM]; exact offs_ne (by omega)
    rw [f_X12_mondayComes_L2, chk_pos (by decide), show (jw 2).toNat = 2 by decide, e2, if_neg (by rw [jw_of (x := A 2) (by omega) (by omega), jw_of (x := (i : Int)) (by omega) (by omega)]; omega), q_getsOff hA (by omega) (by omega) hM, bnd_some]
    simp only [letv_ap, letm_ap]
    rw [show ((i : Int) + 1) = ((i + 1 : Nat) : Int) by omega, ih (i + 1) k _ (by omega) (by omega) (jrow_same _ _), jrow_jrow]
theorem q_mon_L (hf : 100 ≤ n) {o : Nat → Int} {r : Int} (h2 : 0 ≤ o 2 ∧ o 2 ≤ 8) (hr : S8 r) : ∀ (d i k : Nat) (M : JMem), i + d = (o 2).toNat → d < k → (∀ b : Nat, b < i → M 168 (60 + 10 * b) = o (60 + 10 * b) + b01 r b ∧ M 168 (63 + 10 * b) = 0) → (∀ j : Nat, (∀ b : Nat, b < i → j ≠ 60 + 10 * b ∧ j ≠ 63 + 10 * b) → M 168 j = o j) →
    ∃ A', f_X12_mondayComes_L30 n k r (i : Int) M = some (r, jrow M 168 A') ∧ A' 4 = o 4 + 1 ∧ A' 5 = 0 ∧ A' 6 = o 6 + pcI r ∧ (∀ b : Nat, (b : Int) < o 2 → A' (60 + 10 * b) = o (60 + 10 * b) + b01 r b ∧ A' (63 + 10 * b) = 0) ∧ ∀ j : Nat, j ≠ 4 → j ≠ 5 → j ≠ 6 → (∀ b : Nat, (b : Int) < o 2 → j ≠ 60 + 10 * b ∧ j ≠ 63 + 10 * b) → A' j = o j := by
  intro d
  induction d with
  | zero =>
    intro i k M hi hk h1 h3
    obtain ⟨k, rfl⟩ : ∃ q, k = q + 1 := ⟨k - 1, by omega⟩
    have e2 : M 168 2 = o 2 := h3 2 (by omega)
    refine ⟨upA (upA (upA (M 168) 6 (M 168 6 + pcI r)) 4 (M 168 4 + 1)) 5 0, ?_, ?_, ?_, ?_, fun b hb => ?_, fun j j4 j5 j6 hj => ?_⟩
    · rw [f_X12_mondayComes_L30, chk_pos (by decide), show (jw 2).toNat = 2 by decide, e2, if_pos (by rw [jw_of (x := o 2) (by omega) (by omega), jw_of (x := (i : Int)) (by omega) (by omega)]; omega)]
      unfold f_X12_mondayComes_L87
      simp only [letv_ap, letm_ap]
      rw [chk_pos (by decide), q_bits hf hr, bnd_some, chk_pos (by decide), chk_pos (by decide), chk_pos (by decide), chk_pos (by decide), show (jw 6).toNat = 6 by decide, show (jw 4).toNat = 4 by decide, show (jw 5).toNat = 5 by decide, jup_jrow 168 6, jup_row_up, jrow_same, upA_ne (k := 4) (by omega), jup_row_up]
    · rw [upA_ne (by omega), upA_same, h3 4 (by omega)]
    · exact upA_same _ _ _
    · rw [upA_ne (by omega), upA_ne (by omega), upA_same, h3 6 (by omega)]
    · rw [upA_ne (by omega), upA_ne (by omega), upA_ne (by omega), upA_ne (by omega), upA_ne (by omega), upA_ne (by omega)]
      exact h1 b (by omega)
    · rw [upA_ne j5, upA_ne j4, upA_ne j6]
      exact h3 j (fun b hb => hj b (by omega))
  | succ d ih =>
    intro i k M hi hk h1 h3
    obtain ⟨k, rfl⟩ : ∃ q, k = q + 1 := ⟨k - 1, by omega⟩
    have i8 : i < 8 := by omega
    have e2 : M 168 2 = o 2 := h3 2 (by omega)
    have key : ∀ w : Int, w = b01 r i → ∃ A', f_X12_mondayComes_L66 n (f_X12_mondayComes_L30 n k) r (i : Int) (56 + 10 * (i : Int) + 4) (M 168 (60 + 10 * i)) w M = some (r, jrow M 168 A') ∧ A' 4 = o 4 + 1 ∧ A' 5 = 0 ∧ A' 6 = o 6 + pcI r ∧ (∀ b : Nat, (b : Int) < o 2 → A' (60 + 10 * b) = o (60 + 10 * b) + b01 r b ∧ A' (63 + 10 * b) = 0) ∧ ∀ j : Nat, j ≠ 4 → j ≠ 5 → j ≠ 6 → (∀ b : Nat, (b : Int) < o 2 → j ≠ 60 + 10 * b ∧ j ≠ 63 + 10 * b) → A' j = o j := fun w hw => by
      unfold f_X12_mondayComes_L66
      simp only [letv_ap, letm_ap]
      rw [chk_pos (ixj4 i8), ixb4 i8, q_beastRow, bnd_some, chk_pos (ixj7 i8), ixb7 i8, jup2]
      obtain ⟨A', r1, r2⟩ := ih (i + 1) k (jrow M 168 (upA (upA (M 168) (60 + 10 * i) (M 168 (60 + 10 * i) + w)) (63 + 10 * i) 0)) (by omega) (by omega) (fun b hb => by
        rw [jrow_same]
        by_cases e : b = i
        · subst e
          rw [upA_ne (by omega), upA_same, upA_same, h3 _ (by omega), hw]
          exact ⟨rfl, rfl⟩
        · rw [upA_ne (by omega), upA_ne (by omega), upA_ne (by omega), upA_ne (by omega)]
          exact h1 b (by omega)) (fun j hj => by
        rw [jrow_same, upA_ne (hj i (by omega)).2, upA_ne (hj i (by omega)).1]
        exact h3 j (fun b hb => hj b (by omega)))
      rw [jrow_jrow] at r1
      exact ⟨A', r1, r2⟩
    rw [f_X12_mondayComes_L30, chk_pos (by decide), show (jw 2).toNat = 2 by decide, e2, if_neg (by rw [jw_of (x := o 2) (by omega) (by omega), jw_of (x := (i : Int)) (by omega) (by omega)]; omega), q_beastRow, bnd_some, chk_pos (ixj4 i8), q_isInM hr i8, bnd_some, ixb4 i8]
    by_cases c : bit r i = true
    · rw [if_pos c, if_neg (by decide)]
      exact key 1 (by unfold b01; rw [if_pos c])
    · rw [if_neg c, if_pos (by decide)]
      exact key 0 (by unfold b01; rw [if_neg c])
theorem q_monday (hf : 100 ≤ n) (hA : SA (M 168)) : ∃ r A', f_X12_mondayComes n M = some (r, jrow M 168 A') ∧ S8 r ∧ (∀ b : Nat, b < 8 → (bit r b = true ↔ (b : Int) < M 168 2 ∧ 0 < wh (offs (M 168) (M 168 2).toNat) b)) ∧ MonA (M 168) r A' := by
  have h2 := hA.2.2.1
  have o2 : offs (M 168) (M 168 2).toNat 2 = M 168 2 := offs_ne (by omega)
  have e := q_monOffs (n := n) hA (M 168 2).toNat 0 n M (by omega) (by omega) (upB_0 _ _ _).symm
  have hS : SA (offs (M 168) (M 168 2).toNat) := hA.offsK (by omega)
  obtain ⟨r, r1, r2, r3⟩ := q_lateNow (n := n) (M := jrow M 168 (offs (M 168) (M 168 2).toNat)) hf (by rw [jrow_same]; exact hS)
  rw [jrow_same, o2] at r3
  obtain ⟨A', k1, k2, k3, k4, k5, k6⟩ := q_mon_L (n := n) hf (o := offs (M 168) (M 168 2).toNat) (by rw [o2]; exact h2) r2 (M 168 2).toNat 0 n (jrow M 168 (offs (M 168) (M 168 2).toNat)) (by rw [o2]; omega) (by omega) (fun b hb => by omega) (fun j _ => by rw [jrow_same])
  refine ⟨r, A', ?_, r2, r3, ?_, k3, ?_, fun b b8 hb => ?_, fun i i4 i5 i6 hi => ?_⟩
  · unfold f_X12_mondayComes
    simp only [letv_ap, letm_ap]
    rw [show f_X12_mondayComes_L2 n n 0 M = _ from e]
    unfold f_X12_mondayComes_L23
    simp only [letv_ap, letm_ap]
    rw [r1, bnd_some, show f_X12_mondayComes_L30 n n r 0 (jrow M 168 (offs (M 168) (M 168 2).toNat)) = _ from k1, jrow_jrow]
  · rw [k2, offs_ne (by omega)]
  · rw [k4, offs_ne (by omega)]
  · rw [(k5 b (by rw [o2]; exact hb)).1, (k5 b (by rw [o2]; exact hb)).2, offs_ne (by omega)]
    exact ⟨rfl, rfl⟩
  · rw [k6 i i4 i5 i6 (fun b hb => hi b (by rw [o2] at hb; omega)), offs_ne (fun b hb => (hi b (by omega)).2)]
theorem p_monday (hf : 100 ≤ n) : jO_monday JR n := by
  intro M h
  have c999 : jw 999 = 999 := by decide
  have c64 : jw 64 = 64 := by decide
  have hc := h.cur
  have hR := hc.2.1
  have hP := hc.1
  have hA := SA.of hP hR
  have s5 := hA.2.2.2.2.1
  have s4 := hA.2.2.2.1
  have h2 := hA.2.2.1
  have eh : M 52 1 = M 168 5 := hR.heads.2.1.1
  have ew : M 52 0 = M 168 4 := hR.heads.1.1
  have j5 : jw (M 168 5) = M 168 5 := jw_of (by omega) (by omega)
  have j4 : jw (M 168 4) = M 168 4 := jw_of (by omega) (by omega)
  by_cases h1 : M 168 4 < 999
  · by_cases h3 : M 168 5 = 64
    · obtain ⟨r, M1, r1, r2, r3, r4, r5⟩ := c_fetch (n := n) (M := M) (th := 52) (p := 40) hf (by omega) hP hR
      have e68 : (jup M1 0 0 0) 168 = M 168 := by rw [jup_cell (by omega), r2 168 (by omega)]
      obtain ⟨s, A', t1, t2, t3, t4⟩ := q_monday (n := n) (M := jup M1 0 0 0) hf (by rw [e68]; exact hA)
      rw [e68] at t3 t4
      have ers : r = s := S8.ext r3 t2 fun b b8 => by rw [Bool.eq_iff_iff, r4 b b8, t3 b b8]
      rw [← ers] at t1 t4
      have in' := t4.2.2.2.2
      have ec : ∀ c : Nat, c < 52 ∨ 60 ≤ c → c ≠ 0 → c ≠ 167 → c ≠ 168 → jup (jrow (jup M1 0 0 0) 168 A') 167 2 0 c = M c := fun c q1 q2 q3 q4 => by
        rw [jup_cell q3, jrow_ne _ q4, jup_cell q2, r2 c q1]
      have e168 : jup (jrow (jup M1 0 0 0) 168 A') 167 2 0 168 = A' := by rw [jup_cell (by omega), jrow_same]
      have e0 : ∀ j : Nat, j ≠ 0 → jup (jrow (jup M1 0 0 0) 168 A') 167 2 0 0 j = M 0 j := fun j hj => by
        rw [jup_cell (by omega), jrow_ne _ (by omega), jup_at, if_neg (by omega), r2 0 (by omega)]
      have e67 : ∀ j : Nat, j ≠ 2 → jup (jrow (jup M1 0 0 0) 168 A') 167 2 0 167 j = M 167 j := fun j hj => by
        rw [jup_at, if_neg (by omega), jrow_ne _ (by omega), jup_cell (by omega), r2 167 (by omega)]
      refine ⟨r, jup M1 0 0 0, r, jup (jrow (jup M1 0 0 0) 168 A') 167 2 0, ?_, ?_, rfl, ?_⟩
      · unfold f_X11_monday
        rw [ew, eh, if_pos (by omega), if_pos (by omega), r1, bnd_some, q_answer, bnd_some]
      · unfold f_X12_monday f_X12_isMonday
        rw [chk_pos (by decide), chk_pos (by decide), show (jw 4).toNat = 4 by decide, show (jw 5).toNat = 5 by decide, e68, if_neg (by omega), if_pos (by omega), chk_pos (by decide), if_neg (by omega), bnd_some, if_neg (by decide), t1, bnd_some, q_gives, bnd_some]
      · refine h.frame ⟨?_, ?_, ?_⟩ (e0 13 (by omega)) (fun b hb => ?_) (fun j hj => e67 j (by omega)) (fun k k1 k2 => by rw [e168]; exact in' k (by omega) (by omega) (by omega) (by omega)) ?_ ?_ ?_ ?_
        · rw [show jup (jrow (jup M1 0 0 0) 168 A') 167 2 0 0 0 = 0 by rw [jup_cell (by omega), jrow_ne _ (by omega), jup_at, if_pos ⟨rfl, rfl⟩], jup_at, if_pos ⟨rfl, rfl⟩]
        · rw [e0 1 (by omega), e67 3 (by omega)]; exact h.1.2.1
        · rw [e0 2 (by omega), e67 4 (by omega)]; exact h.1.2.2
        · unfold keepC at hb
          exact ec b (by omega) (by omega) (by omega) (by omega)
        · rw [e168, blk_congr (by decide) (M := M) (a := 40) (z := 12) (fun j hj => ec _ (by omega) (by omega) (by omega) (by omega))]
          exact hP.congr2 (fun k hk => in' k (by omega) (by omega) (by omega) (by omega)) (fun t k ht hk => in' _ (by omega) (by omega) (by omega) (by omega)) (fun b hb => ⟨in' _ (by omega) (by omega) (by omega) (by omega), in' _ (by omega) (by omega) (by omega) (by omega), in' _ (by omega) (by omega) (by omega) (by omega)⟩)
        · rw [e168, blk_congr (by decide) (M := M1) (a := 52) (z := 8) (fun j hj => by rw [jup_cell (by omega), jrow_ne _ (by omega), jup_cell (by omega)])]
          exact r5 (by omega) A' t4
        · rw [blk_congr (by decide) (M := M) (a := 40) (z := 12) (fun j hj => ec _ (by omega) (by omega) (by omega) (by omega)), ec 169 (by omega) (by omega) (by omega) (by omega)]
          exact hc.2.2.1
        · rw [e168, ec 40 (by omega) (by omega) (by omega) (by omega), blk_congr (by decide) (M := M) (a := 60) (z := 5) (fun j hj => ec _ (by omega) (by omega) (by omega) (by omega))]
          exact hc.2.2.2.congr2 (in' 7 (by omega) (by omega) (by omega) (by omega)) (fun k j hk hj => in' _ (by omega) (by omega) (by omega) (by omega))
    · refine Pr.end (r := -1) (s := -1) (x := 7) (y := 7) h ?_ ?_ rfl rfl
      · unfold f_X11_monday
        rw [ew, eh, if_pos (by omega), if_neg (by omega)]; rfl
      · unfold f_X12_monday f_X12_isMonday
        rw [chk_pos (by decide), chk_pos (by decide), show (jw 4).toNat = 4 by decide, show (jw 5).toNat = 5 by decide, show jup M 0 0 7 168 = M 168 from rfl, if_neg (by omega), if_neg (by omega), bnd_some, if_pos (by decide)]; rfl
  · refine Pr.end (r := -1) (s := -1) (x := 4) (y := 4) h ?_ ?_ rfl rfl
    · unfold f_X11_monday
      rw [ew, if_neg (by omega)]; rfl
    · unfold f_X12_monday
      rw [chk_pos (by decide), show (jw 4).toNat = 4 by decide, show jup M 0 0 4 168 = M 168 from rfl, if_pos (by omega)]; rfl
end PMONDAY2

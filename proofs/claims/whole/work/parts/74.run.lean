section PRUN
variable {n : Nat} {M : JMem}
/-- who was eaten when, by whom, as the class keeps it -/
def Lg (th : Nat) (A : Nat → Int) (m : Nat) (M : JMem) : Prop := ∀ k : Nat, k < m → ∀ b : Nat, b < 8 → (b : Int) < A 2 → ¬ itA A k (59 + 10 * b) = 1 → itA A (k + 1) (59 + 10 * b) = 1 → M (th + 6) b = itA A (k + 1) (65 + 10 * b) ∧ M (th + 7) b = A 5 + k
theorem c_body {th p : Nat} (hf : 100 ≤ n) (hs : p + 12 ≤ th ∨ th + 8 ≤ p) {A : Nat → Int} (hP : RP (blk M p 12) A) (hR : RN (blk M th 8) A) (h5 : A 5 ≤ 63) : ∃ M1 M2 M3, f_X1_arrive n th p M = some (0, M1) ∧ f_X1_depart n th p M1 = some (0, M2) ∧ f_X1_feast n th p M2 = some (0, M3) ∧ RN (blk (jup M3 th 1 (A 5 + 1)) th 8) (hourA A) ∧ (∀ c : Nat, c < th ∨ th + 8 ≤ c → M3 c = M c) ∧
    (∀ b : Nat, b < 8 → (b : Int) < A 2 → ¬ A (59 + 10 * b) = 1 → hourA A (59 + 10 * b) = 1 → M3 (th + 6) b = hourA A (65 + 10 * b) ∧ M3 (th + 7) b = A 5) ∧ (∀ b : Nat, ¬ ((b : Int) < A 2 ∧ ¬ A (59 + 10 * b) = 1 ∧ hourA A (59 + 10 * b) = 1) → M3 (th + 6) b = M (th + 6) b ∧ M3 (th + 7) b = M (th + 7) b) := by
  have hA := SA.of hP hR
  have h1 := hA.2.1
  have h2 := hA.2.2.1
  have s5 := hA.2.2.2.2.1
  obtain ⟨M1, a1, a2, a3⟩ := c_arrive (n := n) hf hs hP hR
  have o5 : offs A (A 2).toNat 5 = A 5 := offs_ne (by omega)
  have o1 : offs A (A 2).toNat 1 = A 1 := offs_ne (by omega)
  have o2 : offs A (A 2).toNat 2 = A 2 := offs_ne (by omega)
  have hP1 : RP (blk M1 p 12) (offs A (A 2).toNat) := by
    rw [a2.plan hs]
    exact hP.same (fun i i5 hi => offs_ne (fun b hb => (hi b (by omega)).2.1))
  obtain ⟨M2, b1, b2, b3⟩ := c_depart (n := n) hf hs hP1 a3 (by omega)
  rw [o1] at b3
  have hS1 := SA.of hP1 a3
  have hS2 : SA (lvN (offs A (A 2).toNat) (A 1).toNat) := hS1.lvK (by omega) _ (by omega)
  have ln : ∀ i : Nat, (∀ b : Nat, b < 8 → i ≠ 63 + 10 * b ∧ i ≠ 64 + 10 * b) → lvN (offs A (A 2).toNat) (A 1).toNat i = A i := fun i hi => by
    rw [lvN_ne (by omega) _ _ hi, offs_ne (fun b hb => (hi b (by omega)).1)]
  have hP2 : RP (blk M2 p 12) (lvN (offs A (A 2).toNat) (A 1).toNat) := by
    rw [b2.plan hs, a2.plan hs]
    exact hP.same (fun i i5 hi => ln i (fun b hb => ⟨(hi b hb).2.1, (hi b hb).2.2.1⟩))
  have l5 : lvN (offs A (A 2).toNat) (A 1).toNat 5 = A 5 := ln 5 (by omega)
  have l2 : lvN (offs A (A 2).toNat) (A 1).toNat 2 = A 2 := ln 2 (by omega)
  have e21 : M2 th 1 = lvN (offs A (A 2).toNat) (A 1).toNat 5 := b3.heads.2.1.1
  obtain ⟨M3, c1, c2⟩ := c_feast_P (n := n) hf hs hS2 e21 hP2 6 1 n M2 (by have := hS2.1; omega) (Or.inl rfl) (by omega) (by omega) ((FE.begin b3).iff (fun w => ⟨fun q => q.elim, fun q => by omega⟩))
  have c3 := RN.ate hS2 b3 c2
  have eh : ∀ i : Nat, i ≠ 5 → hourA A i = eaN (lvN (offs A (A 2).toNat) (A 1).toNat) (A 2).toNat i := fun i hi => upA_ne hi
  have e5 : hourA A = upA (eaN (lvN (offs A (A 2).toNat) (A 1).toNat) (A 2).toNat) 5 (A 5 + 1) := rfl
  obtain ⟨⟨g1, g2⟩, g3, g4, g5, g6, g7⟩ := c2
  rw [l2] at c3 g5 g6
  have fr : ∀ c : Nat, c ≠ th + 3 → c ≠ th + 4 → c ≠ th + 5 → M2 c = M c := fun c q1 q2 q3 => by rw [b2 c q1 q2 q3, a2 c q1 q2 q3]
  refine ⟨M1, M2, M3, a1, b1, c1, by rw [e5]; exact c3.up5 (by omega), fun c hc => ?_, fun b b8 hb he hh => ?_, fun b hb => ?_⟩
  · rw [g7 c (by omega) (by omega) (by omega) (by omega) (by omega), fr c (by omega) (by omega) (by omega)]
  · rw [eh _ (by omega)] at hh ⊢
    rw [← l5]
    refine g5 b b8 hb (by rw [ln _ (by omega)]; exact he) hh ?_
    have w := (eaN_who (A := lvN (offs A (A 2).toNat) (A 1).toNat) (b := b) (by rw [l2]; exact hb) (by rw [ln _ (by omega)]; exact he) (by rw [l2]; exact hh)).1
    have r := (hS2.2.2.2.2.2.2 b b8 (by rw [l2]; exact hb)).2.2.2.2 (by rw [ln _ (by omega)]; exact he)
    omega
  · rw [eh _ (by omega)] at hb
    have r := g6 b (fun w => hb ⟨w.1, by rw [ln _ (by omega)] at w; exact w.2.1, w.2.2⟩)
    rw [r.1, r.2, fr _ (by omega) (by omega) (by omega), fr _ (by omega) (by omega) (by omega)]
    exact ⟨rfl, rfl⟩
theorem Lg.next {th : Nat} {A : Nat → Int} {k : Nat} {M' : JMem} (h : Lg th A k M) (h2 : 0 ≤ A 2 ∧ A 2 ≤ 8) (hn : ∀ b : Nat, b < 8 → (b : Int) < A 2 → ¬ itA A k (59 + 10 * b) = 1 → itA A (k + 1) (59 + 10 * b) = 1 → M' (th + 6) b = itA A (k + 1) (65 + 10 * b) ∧ M' (th + 7) b = A 5 + k)
    (ho : ∀ b : Nat, ¬ ((b : Int) < A 2 ∧ ¬ itA A k (59 + 10 * b) = 1 ∧ itA A (k + 1) (59 + 10 * b) = 1) → M' (th + 6) b = M (th + 6) b ∧ M' (th + 7) b = M (th + 7) b) : Lg th A (k + 1) M' := by
  intro j hj b b8 hb q1 q2
  by_cases e : j = k
  · subst e; exact hn b b8 hb q1 q2
  · have r := h j (by omega) b b8 hb q1 q2
    have z := ho b (fun w => w.2.1 (by
      have := itA_mono h2 q2 (k - (j + 1))
      rw [show j + 1 + (k - (j + 1)) = k by omega] at this
      exact this))
    rw [z.1, z.2]; exact r
theorem c_pass_L {th p : Nat} (hf : 100 ≤ n) (hs : p + 12 ≤ th ∨ th + 8 ≤ p) {A : Nat → Int} (hA : SA A) {v : Int} {m : Nat} (hm : A 5 + m ≤ 64) : ∀ (d k q : Nat) (M : JMem), k + d = m → d < q → RP (blk M p 12) A → RN (blk M th 8) (itA A k) → (k = 0 ∨ Quiet (itA A k)) → Lg th A k M →
    ∃ M', f_X1_passUntil_L15 n th p q (A 5 + m) v (A 5) (A 5 + k) M = some (jand (M' th 3) (jxor v (-1)), M') ∧ (∀ c : Nat, c < th ∨ th + 8 ≤ c → M' c = M c) ∧ RN (blk M' th 8) (itA A m) ∧ Lg th A m M' := by
  have h1 := hA.2.1
  have h2 := hA.2.2.1
  have s5 := hA.2.2.2.2.1
  intro d
  induction d with
  | zero =>
    intro k q M hi hq hP hR hQ hL
    obtain ⟨q, rfl⟩ : ∃ z, q = z + 1 := ⟨q - 1, by omega⟩
    obtain rfl : k = m := by omega
    refine ⟨M, ?_, fun _ _ => rfl, hR, hL⟩
    rw [f_X1_passUntil_L15, if_pos (Int.le_refl _)]
    rfl
  | succ d ih =>
    intro k q M hi hq hP hR hQ hL
    obtain ⟨q, rfl⟩ : ∃ z, q = z + 1 := ⟨q - 1, by omega⟩
    have i5 := itA_5 A k
    have i2 : itA A k 2 = A 2 := itA_ne h2 k 2 (by omega) (by omega)
    have hS := hA.it k (by omega)
    have hP' : RP (blk M p 12) (itA A k) := hP.same (fun i q1 q2 => itA_ne h2 k i q1 q2)
    rw [f_X1_passUntil_L15, if_neg (by rw [jw_of (by omega) (by omega), jw_of (by omega) (by omega)]; omega), jw_of (x := A 5 + k) (by omega) (by omega), jw_of (x := A 5) (by omega) (by omega)]
    have ebd : A 5 + (k : Int) + 1 = A 5 + ((k + 1 : Nat) : Int) := by omega
    have body : ∃ M', f_X1_passUntil_L36 n th p (f_X1_passUntil_L15 n th p q) (A 5 + m) v (A 5) (A 5 + k) M = some (jand (M' th 3) (jxor v (-1)), M') ∧ (∀ c : Nat, c < th ∨ th + 8 ≤ c → M' c = M c) ∧ RN (blk M' th 8) (itA A m) ∧ Lg th A m M' := by
      obtain ⟨M1, M2, M3, a1, a2, a3, a4, a5, a6, a7⟩ := c_body (n := n) hf hs hP' hR (by omega)
      unfold f_X1_passUntil_L36
      rw [a1, bnd_some, a2, bnd_some, a3, bnd_some]
      unfold f_X1_passUntil_L51
      simp only [letv_ap, letm_ap]
      have fr : ∀ c : Nat, c < th ∨ th + 8 ≤ c → jup M3 th 1 (A 5 + k + 1) c = M c := fun c hc => by rw [jup_cell (by omega), a5 c hc]
      rw [i5] at a4 a6
      obtain ⟨M', g1, g2, g3, g4⟩ := ih (k + 1) q (jup M3 th 1 (A 5 + k + 1)) (by omega) (by omega) (by
        rw [blk_congr (by decide) (M := M) (M' := jup M3 th 1 (A 5 + k + 1)) (a := p) (z := 12) (fun j hj => fr _ (by omega))]; exact hP) a4 (Or.inr (Quiet.up5 (by
          have hS1 : SA (lvN (offs (itA A k) (itA A k 2).toNat) (itA A k 1).toNat) := by
            have o5 : offs (itA A k) (itA A k 2).toNat 5 = itA A k 5 := offs_ne (by omega)
            have o1 : offs (itA A k) (itA A k 2).toNat 1 = itA A k 1 := offs_ne (by omega)
            exact (hS.offsK (by omega)).lvK (by omega) _ (by have := hS.2.1; omega)
          have hq := Quiet.ate hS1
          rw [show lvN (offs (itA A k) (itA A k 2).toNat) (itA A k 1).toNat 2 = itA A k 2 by rw [lvN_ne (by rw [offs_ne (by omega)]; omega) _ _ (by omega), offs_ne (by omega)]] at hq
          exact hq))) (hL.next h2 (fun b b8 hb q1 q2 => by
            rw [jup_cell (by omega), jup_cell (by omega)]
            exact a6 b b8 (by rw [i2]; exact hb) q1 q2) (fun b hb => by
            rw [jup_cell (by omega), jup_cell (by omega)]
            exact a7 b (by rw [i2]; exact hb)))
      rw [← ebd] at g1
      exact ⟨M', g1, fun c hc => by rw [g2 c hc, fr c hc], g3, g4⟩
    by_cases c0 : A 5 + (k : Int) = A 5
    · rw [if_pos c0]; exact body
    · rw [if_neg c0]
      unfold f_X1_isBusy
      simp only [letv_ap, letm_ap]
      rcases c_isBusy_L (n := n) hS hP' hR (itA A k 1).toNat 0 n (by omega) (by have := hS.2.1; omega) with r | ⟨r, r2⟩
      · rw [show f_X1_isBusy_L2 n th p n 0 M = _ from r, bnd_some, if_neg (by decide)]; exact body
      · rw [show f_X1_isBusy_L2 n th p n 0 M = _ from r, bnd_some, if_pos (by decide)]
        have hid : itA A (k + 1) = upA (itA A k) 5 (itA A k 5 + 1) := hourA_idle hS hR (hQ.resolve_left (by omega)) (fun t t8 ht => r2 t (by omega) ht)
        unfold f_X1_passUntil_L51
        simp only [letv_ap, letm_ap]
        have fr : ∀ c : Nat, c < th ∨ th + 8 ≤ c → jup M th 1 (A 5 + k + 1) c = M c := fun c hc => by rw [jup_cell (by omega)]
        have n59 : ∀ b : Nat, itA A (k + 1) (59 + 10 * b) = itA A k (59 + 10 * b) := fun b => by rw [hid, upA_ne (by omega)]
        obtain ⟨M', g1, g2, g3, g4⟩ := ih (k + 1) q (jup M th 1 (A 5 + k + 1)) (by omega) (by omega) (by
          rw [blk_congr (by decide) (M := M) (M' := jup M th 1 (A 5 + k + 1)) (a := p) (z := 12) (fun j hj => fr _ (by omega))]; exact hP) (by rw [hid, i5]; exact hR.up5 (by omega)) (Or.inr (by rw [hid]; exact (hQ.resolve_left (by omega)).up5)) (hL.next h2 (fun b b8 hb q1 q2 => absurd (by rw [← n59]; exact q2) q1) (fun b hb => by
            rw [jup_cell (by omega), jup_cell (by omega)]; exact ⟨rfl, rfl⟩))
        rw [← ebd] at g1
        exact ⟨M', g1, fun c hc => by rw [g2 c hc, fr c hc], g3, g4⟩
theorem itA_out {A : Nat → Int} (h2 : 0 ≤ A 2 ∧ A 2 ≤ 8) {b : Nat} (hb : A 2 ≤ (b : Int)) : ∀ k : Nat, itA A k (59 + 10 * b) = A (59 + 10 * b) := by
  intro k
  induction k with
  | zero => rfl
  | succ k ih =>
    have i2 : itA A k 2 = A 2 := itA_ne h2 k 2 (by omega) (by omega)
    show hourA (itA A k) (59 + 10 * b) = _
    unfold hourA
    have o2 : offs (itA A k) (itA A k 2).toNat 2 = itA A k 2 := offs_ne (by omega)
    rw [upA_ne (by omega), eaN_ne _ (by omega), lvN_ne (by omega) _ _ (by omega), offs_ne (by omega), ih]
theorem c_pass {th p : Nat} (hf : 100 ≤ n) (hs : p + 12 ≤ th ∨ th + 8 ≤ p) {A : Nat → Int} (hP : RP (blk M p 12) A) (hR : RN (blk M th 8) A) {m : Nat} (hm : A 5 + m ≤ 64) {x : Int} (hx : x = A 5 + m) : ∃ r M', f_X1_passUntil n th p x M = some (r, M') ∧ (∀ c : Nat, c < th ∨ th + 8 ≤ c → M' c = M c) ∧ RN (blk M' th 8) (itA A m) ∧ Lg th A m M' ∧ S8 r ∧ ∀ b : Nat, b < 8 → (bit r b = true ↔ itA A m (59 + 10 * b) = 1 ∧ ¬ A (59 + 10 * b) = 1) := by
  have hA := SA.of hP hR
  have h2 := hA.2.2.1
  have s5 := hA.2.2.2.2.1
  have e1 : M th 1 = A 5 := hR.heads.2.1.1
  have e3 : S8 (M th 3) ∧ ∀ b : Nat, b < 8 → (bit (M th 3) b = true ↔ (b : Int) < A 2 ∧ A (59 + 10 * b) = 1) := hR.heads.2.2.2.1
  obtain ⟨M', g1, g2, g3, g4⟩ := c_pass_L (n := n) (v := M th 3) hf hs hA hm m 0 n M (by omega) (by omega) hP hR (Or.inl rfl) (fun k hk => by omega)
  have e3' : S8 (M' th 3) ∧ ∀ b : Nat, b < 8 → (bit (M' th 3) b = true ↔ (b : Int) < itA A m 2 ∧ itA A m (59 + 10 * b) = 1) := g3.heads.2.2.2.1
  have i2 : itA A m 2 = A 2 := itA_ne h2 m 2 (by omega) (by omega)
  have r := jandn e3'.1 e3.1
  refine ⟨_, M', ?_, g2, g3, g4, r.1, fun b b8 => ?_⟩
  · unfold f_X1_passUntil
    simp only [letv_ap, letm_ap]
    rw [e1, hx]
    rw [show A 5 + ((0 : Nat) : Int) = A 5 by omega] at g1
    exact g1
  · rw [r.2 b b8, e3'.2 b b8, e3.2 b b8, i2]
    constructor
    · rintro ⟨q1, q2⟩
      exact ⟨q1.2, fun z => q2 ⟨q1.1, z⟩⟩
    · rintro ⟨q1, q2⟩
      have hb : (b : Int) < A 2 := by
        apply Classical.byContradiction
        intro z
        rw [itA_out h2 (by omega)] at q1
        exact q2 q1
      exact ⟨⟨hb, q1⟩, fun z => q2 z.2⟩
/-- the reference's hours -/
theorem q_hoursGo_L (hf : 100 ≤ n) {A : Nat → Int} (hA : SA A) {m : Nat} (hm : A 5 + m ≤ 64) : ∀ (d k q : Nat) (v : Int) (M : JMem), k + d = m → d < q → M 168 = itA A k → S8 v → (∀ b : Nat, b < 8 → (bit v b = true ↔ itA A k (59 + 10 * b) = 1 ∧ ¬ A (59 + 10 * b) = 1)) →
    ∃ r, f_X12_hoursGo_L4 n q (m : Int) v (k : Int) M = some (r, jrow M 168 (itA A m)) ∧ S8 r ∧ ∀ b : Nat, b < 8 → (bit r b = true ↔ itA A m (59 + 10 * b) = 1 ∧ ¬ A (59 + 10 * b) = 1) := by
  have h2 := hA.2.2.1
  have s5 := hA.2.2.2.2.1
  intro d
  induction d with
  | zero =>
    intro k q v M hi hq hM hv hb
    obtain ⟨q, rfl⟩ : ∃ z, q = z + 1 := ⟨q - 1, by omega⟩
    obtain rfl : k = m := by omega
    refine ⟨v, ?_, hv, hb⟩
    rw [f_X12_hoursGo_L4, if_pos (Int.le_refl _), ← hM, jrow_self]
  | succ d ih =>
    intro k q v M hi hq hM hv hb
    obtain ⟨q, rfl⟩ : ∃ z, q = z + 1 := ⟨q - 1, by omega⟩
    have hS := hA.it k (by omega)
    obtain ⟨r, r1, r2, r3⟩ := q_hourGoes (n := n) (M := M) hf (by rw [hM]; exact hS) (by rw [hM, itA_5]; omega)
    rw [f_X12_hoursGo_L4, if_neg (by rw [jw_of (by omega) (by omega), jw_of (by omega) (by omega)]; omega), r1, bnd_some]
    simp only [letv_ap, letm_ap]
    have s := jorS hv r2
    obtain ⟨w, w1, w2, w3⟩ := ih (k + 1) q (jor v r) (jrow M 168 (hourA (M 168))) (by omega) (by omega) (by rw [jrow_same, hM]; rfl) s.1 (fun b b8 => by
      rw [s.2 b, Bool.or_eq_true, hb b b8, r3 b b8, hM]
      constructor
      · rintro (z | z)
        · exact ⟨itA_mono h2 z.1 1, z.2⟩
        · exact ⟨z.1, fun y => z.2 (by have := itA_mono (A := A) (k := 0) h2 y k; rw [Nat.zero_add] at this; exact this)⟩
      · rintro ⟨z1, z2⟩
        by_cases c : itA A k (59 + 10 * b) = 1
        · exact Or.inl ⟨c, z2⟩
        · exact Or.inr ⟨z1, c⟩)
    refine ⟨w, ?_, w2, w3⟩
    rw [jrow_jrow] at w1
    rw [show ((k : Int) + 1) = ((k + 1 : Nat) : Int) by omega]
    exact w1
theorem q_hoursGo (hf : 100 ≤ n) (hA : SA (M 168)) {m : Nat} (hm : M 168 5 + m ≤ 64) : ∃ r, f_X12_hoursGo n (m : Int) M = some (r, jrow M 168 (itA (M 168) m)) ∧ S8 r ∧ ∀ b : Nat, b < 8 → (bit r b = true ↔ itA (M 168) m (59 + 10 * b) = 1 ∧ ¬ M 168 (59 + 10 * b) = 1) :=
  q_hoursGo_L hf hA hm m 0 n 0 M (by omega) (by have := hA.2.2.2.2.1; omega) rfl S8_0 (fun b b8 => by rw [bit0]; exact ⟨fun q => absurd q (by decide), fun q => absurd q.1 q.2⟩)
theorem p_hour (hf : 100 ≤ n) : jO_hour JR n := by
  intro x1 hx1 M h
  have e1 := jwI hx1
  have c1 : jw 1 = 1 := by decide
  have c64 : jw 64 = 64 := by decide
  have hc := h.cur
  have hR := hc.2.1
  have hP := hc.1
  have hA := SA.of hP hR
  have s5 := hA.2.2.2.2.1
  have h2 := hA.2.2.1
  have eh : M 52 1 = M 168 5 := hR.heads.2.1.1
  have hfr : ∀ M', f_X12_isFrom n (jw x1) 1 64 M' = some (if 1 ≤ x1 ∧ x1 ≤ 64 then 1 else 0, M') := fun M' => by
    rw [e1]; exact q_isFrom ⟨by have := hx1.1; omega, by have := hx1.2; omega⟩ (by omega) (by omega)
  by_cases h1 : 1 ≤ x1 ∧ x1 ≤ 64
  · have ej : jw (M 168 5 + x1) = M 168 5 + x1 := jw_of (by omega) (by omega)
    by_cases h3 : M 168 5 + x1 ≤ 64
    · obtain ⟨m, m8, rfl⟩ := natOf (x := x1) (k := 65) (by omega) (by omega)
      obtain ⟨r, M1, r1, r2, r3, r4, r5, r6⟩ := c_pass (n := n) (M := M) (th := 52) (p := 40) hf (by omega) hP hR (m := m) h3 (x := M 52 1 + m) (by rw [eh])
      have e68 : (jup M1 0 0 0) 168 = M 168 := by rw [jup_cell (by omega), r2 168 (by omega)]
      obtain ⟨s, t1, t2, t3⟩ := q_hoursGo (n := n) (M := jup M1 0 0 0) hf (by rw [e68]; exact hA) (m := m) (by rw [e68]; exact h3)
      rw [e68] at t1 t3
      have ers : r = s := S8.ext r5 t2 fun b b8 => by rw [Bool.eq_iff_iff, r6 b b8, t3 b b8]
      have in' : ∀ i : Nat, i ≠ 5 → (∀ b : Nat, b < 8 → i ≠ 59 + 10 * b ∧ i ≠ 63 + 10 * b ∧ i ≠ 64 + 10 * b ∧ i ≠ 65 + 10 * b) → itA (M 168) m i = M 168 i := fun i q1 q2 => itA_ne h2 m i q1 q2
      have ec : ∀ c : Nat, c < 52 ∨ 60 ≤ c → c ≠ 0 → c ≠ 167 → c ≠ 168 → jup (jrow (jup M1 0 0 0) 168 (itA (M 168) m)) 167 2 0 c = M c := fun c q1 q2 q3 q4 => by
        rw [jup_cell q3, jrow_ne _ q4, jup_cell q2, r2 c q1]
      have e168 : jup (jrow (jup M1 0 0 0) 168 (itA (M 168) m)) 167 2 0 168 = itA (M 168) m := by rw [jup_cell (by omega), jrow_same]
      have e0 : ∀ j : Nat, j ≠ 0 → jup (jrow (jup M1 0 0 0) 168 (itA (M 168) m)) 167 2 0 0 j = M 0 j := fun j hj => by
        rw [jup_cell (by omega), jrow_ne _ (by omega), jup_at, if_neg (by omega), r2 0 (by omega)]
      have e67 : ∀ j : Nat, j ≠ 2 → jup (jrow (jup M1 0 0 0) 168 (itA (M 168) m)) 167 2 0 167 j = M 167 j := fun j hj => by
        rw [jup_at, if_neg (by omega), jrow_ne _ (by omega), jup_cell (by omega), r2 167 (by omega)]
      refine ⟨r, jup M1 0 0 0, r, jup (jrow (jup M1 0 0 0) 168 (itA (M 168) m)) 167 2 0, ?_, ?_, rfl, ?_⟩
      · unfold f_X11_hour
        rw [if_neg (by omega), if_pos (by omega), if_pos (by rw [eh]; omega), r1, bnd_some, q_answer, bnd_some]
      · unfold f_X12_hour
        rw [hfr, bnd_some, if_pos h1, if_neg (by decide), chk_pos (by decide), show (jw 5).toNat = 5 by decide, e68, if_pos (by omega), t1, bnd_some, q_gives, bnd_some, ers]
      · refine h.frame ⟨?_, ?_, ?_⟩ (e0 13 (by omega)) (fun b hb => ?_) (fun j hj => e67 j (by omega)) (fun k k1 k2 => by rw [e168]; exact in' k (by omega) (by omega)) ?_ ?_ ?_ ?_
        · rw [show jup (jrow (jup M1 0 0 0) 168 (itA (M 168) m)) 167 2 0 0 0 = 0 by rw [jup_cell (by omega), jrow_ne _ (by omega), jup_at, if_pos ⟨rfl, rfl⟩], jup_at, if_pos ⟨rfl, rfl⟩]
        · rw [e0 1 (by omega), e67 3 (by omega)]; exact h.1.2.1
        · rw [e0 2 (by omega), e67 4 (by omega)]; exact h.1.2.2
        · unfold keepC at hb
          exact ec b (by omega) (by omega) (by omega) (by omega)
        · rw [e168, blk_congr (by decide) (M := M) (a := 40) (z := 12) (fun j hj => ec _ (by omega) (by omega) (by omega) (by omega))]
          exact hP.same in'
        · rw [e168, blk_congr (by decide) (M := M1) (a := 52) (z := 8) (fun j hj => by rw [jup_cell (by omega), jrow_ne _ (by omega), jup_cell (by omega)])]
          exact r3
        · rw [blk_congr (by decide) (M := M) (a := 40) (z := 12) (fun j hj => ec _ (by omega) (by omega) (by omega) (by omega)), ec 169 (by omega) (by omega) (by omega) (by omega)]
          exact hc.2.2.1
        · rw [e168, ec 40 (by omega) (by omega) (by omega) (by omega), blk_congr (by decide) (M := M) (a := 60) (z := 5) (fun j hj => ec _ (by omega) (by omega) (by omega) (by omega))]
          exact hc.2.2.2.congr2 (in' 7 (by omega) (by omega)) (fun k j hk hj => in' _ (by omega) (by omega))
    · refine Pr.end (r := -1) (s := -1) (x := 4) (y := 4) h ?_ ?_ rfl rfl
      · unfold f_X11_hour
        rw [if_neg (by omega), if_pos (by omega), if_neg (by rw [eh]; omega)]; rfl
      · unfold f_X12_hour
        rw [hfr, bnd_some, if_pos h1, if_neg (by decide), chk_pos (by decide), show (jw 5).toNat = 5 by decide, show jup M 0 0 4 168 5 = M 168 5 from rfl, if_neg (by omega)]; rfl
  · refine Pr.end (r := -1) (s := -1) (x := 1) (y := 1) h ?_ ?_ rfl rfl
    · unfold f_X11_hour
      by_cases h2 : jw x1 < jw 1
      · rw [if_pos h2]; rfl
      · rw [if_neg h2, if_neg (by omega)]; rfl
    · unfold f_X12_hour
      rw [hfr, bnd_some, if_neg h1, if_pos (by decide)]; rfl
end PRUN

section PPASS
variable {n : Nat} {M : JMem}
/-- who is eaten has an eater where it is -/
theorem eaN_who {A : Nat → Int} {b : Nat} (b8 : (b : Int) < A 2) (ha : ¬ A (59 + 10 * b) = 1) (h : eaN A (A 2).toNat (59 + 10 * b) = 1) : 0 < A (63 + 10 * b) ∧ ∃ o : Nat, (o : Int) < A 2 ∧ o ≠ b ∧ ¬ A (59 + 10 * o) = 1 ∧ A (63 + 10 * o) = A (63 + 10 * b) ∧ eaN A (A 2).toNat (65 + 10 * b) = o := by
  have n59 : eaN A b (59 + 10 * b) = A (59 + 10 * b) := (eaN_early (Nat.le_refl b)).1
  have x63 : ∀ c : Nat, eaN A b (63 + 10 * c) = A (63 + 10 * c) := fun c => eaN_ne b (by omega)
  have x2 : eaN A b 2 = A 2 := eaN_ne b (by omega)
  rw [(eaN_late (A 2).toNat (by omega)).1] at h
  rw [(eaN_late (A 2).toNat (by omega)).2]
  by_cases c : (b : Int) < A 2 ∧ ¬ eaN A b (59 + 10 * b) = 1 ∧ ¬ etr (eaN A b) b = -1
  · rcases etF_spec (A := eaN A b) (b := b) (eaN A b 2).toNat 0 with q | ⟨o, q1, q2, q3, q4, q5⟩
    · exact absurd q.1 c.2.2
    · obtain ⟨r1, r2, r3, r4, r5⟩ := q4
      have wb : wh (eaN A b) b = A (63 + 10 * b) := by
        unfold wh
        rw [if_neg c.2.1, x63]
      have no : ¬ eaN A b (59 + 10 * o) = 1 := fun z => by
        unfold wh at r3
        rw [if_pos z] at r3; omega
      have wo : wh (eaN A b) o = A (63 + 10 * o) := by
        unfold wh
        rw [if_neg no, x63]
      rw [wo] at r3
      rw [wo, wb] at r4
      rw [x2] at r1
      refine ⟨by omega, o, r1, r2, fun z => no (eaN_mono z b), r4, ?_⟩
      rw [eaN_yes c, upA_same]; exact q1
  · rw [eaN_no c, n59] at h
    exact absurd h ha
theorem jand_S0 : ∀ m : Nat, m < 256 → S8 (jand (m : Int) ((m : Int) - 1)) := by
  intro m hm
  rcases Nat.eq_zero_or_pos m with h | h
  · subst h; exact ⟨by decide, by decide⟩
  · rw [show (m : Int) - 1 = ((m - 1 : Nat) : Int) by omega]
    exact (jandS ⟨by omega, by omega⟩ ⟨by omega, by omega⟩).1
theorem jand_S {x : Int} (h : S8 x) : S8 (jand x (x - 1)) := by
  obtain ⟨m, hm, rfl⟩ := h.nat
  exact jand_S0 m hm
theorem c_leftBy {th p : Nat} (hf : 100 ≤ n) (hs : p + 12 ≤ th ∨ th + 8 ≤ p) {A : Nat → Int} (hA : SA A) {g w : Int} (hg : S8 g ∧ ∀ b : Nat, b < 8 → (bit g b = true ↔ (b : Int) < A 2 ∧ ¬ A (59 + 10 * b) = 1 ∧ A (63 + 10 * b) = w)) (hw : 0 < w) {M0 : JMem} (hh : M0 th 1 = A 5) (h3 : S8 (M0 th 3)) (hP : RP (blk M0 p 12) A) :
    ∃ r M', f_X1_leftBy n th p g M0 = some (r, M') ∧ S8 r ∧ (∀ b : Nat, b < 8 → (bit r b = true ↔ bit g b = true ∧ ¬ eaN A (A 2).toNat (59 + 10 * b) = 1)) ∧ GS th g A (eaN A (A 2).toNat) (A 2).toNat M0 M' := by
  have h2 := hA.2.2.1
  have g0 : ∀ i : Nat, (∀ b : Nat, b < i → ¬ (bit g b = true ∧ eaN A (A 2).toNat (59 + 10 * b) = 1)) → GS th g A (eaN A (A 2).toNat) i M0 M0 := fun i hi => by
    refine ⟨⟨h3, fun b b8 => ⟨Or.inl, fun q => q.resolve_right (fun w => hi b w.2.1 ⟨w.1, w.2.2⟩)⟩⟩, fun _ _ => rfl, fun b b8 q1 q2 q3 => absurd ⟨q1, q3⟩ (hi b q2), fun _ _ => ⟨rfl, rfl⟩, fun _ _ _ _ => rfl⟩
  unfold f_X1_leftBy
  simp only [letv_ap, letm_ap]
  have sm := jand_S hg.1
  rw [sm.jw]
  by_cases c : jand g (g - 1) = 0
  · rw [if_pos c]
    have no : ∀ b : Nat, bit g b = true → b < 8 → ¬ eaN A (A 2).toNat (59 + 10 * b) = 1 := fun b q1 b8 q2 => by
      have r := (hg.2 b b8).1 q1
      obtain ⟨z1, o, o1, o2, o3, o4, o5⟩ := eaN_who r.1 r.2.1 q2
      have q3 := (hg.2 o (by omega)).2 ⟨o1, o3, by rw [o4]; exact r.2.2⟩
      exact o2 (jfew hg.1 c (by omega) b8 q3 q1)
    exact ⟨g, M0, rfl, hg.1, fun b b8 => ⟨fun q => ⟨q, no b q b8⟩, fun q => q.1⟩, g0 _ (fun b hb q => no b q.1 (by omega) q.2)⟩
  · rw [if_neg c]
    exact c_leftBy_L hf hs hA hg hw hh hP (A 2).toNat 0 n g M0 (by omega) (by omega) hg.1 (fun b b8 => ⟨fun q => ⟨q, fun w => by omega⟩, fun q => q.1⟩) (g0 0 (fun b hb => by omega))
/-- so far have the spots been gone through: S tells of each whether -/
def FE (th : Nat) (A A2 : Nat → Int) (S : Int → Prop) (M0 M : JMem) : Prop :=
  (S8 (M th 3) ∧ ∀ b : Nat, b < 8 → (bit (M th 3) b = true ↔ (b : Int) < A 2 ∧ (A (59 + 10 * b) = 1 ∨ (A2 (59 + 10 * b) = 1 ∧ S (A (63 + 10 * b)))))) ∧ (∀ j : Nat, j ≠ 3 → M th j = M0 th j) ∧
  (∀ e q : Nat, e < 2 → q < 6 + 2 * e → S8 (M (th + 3 + e) q) ∧ ∀ b : Nat, b < 8 → (bit (M (th + 3 + e) q) b = true ↔ (b : Int) < A 2 ∧ ¬ A (59 + 10 * b) = 1 ∧ A (63 + 10 * b) = (q : Int) + 10 * (e : Int) ∧ ¬ (A2 (59 + 10 * b) = 1 ∧ S ((q : Int) + 10 * (e : Int))))) ∧
  (∀ b : Nat, b < 8 → (b : Int) < A 2 → ¬ A (59 + 10 * b) = 1 → A2 (59 + 10 * b) = 1 → S (A (63 + 10 * b)) → M (th + 6) b = A2 (65 + 10 * b) ∧ M (th + 7) b = A 5) ∧
  (∀ b : Nat, ¬ ((b : Int) < A 2 ∧ ¬ A (59 + 10 * b) = 1 ∧ A2 (59 + 10 * b) = 1) → M (th + 6) b = M0 (th + 6) b ∧ M (th + 7) b = M0 (th + 7) b) ∧ (∀ c : Nat, c ≠ th → c ≠ th + 3 → c ≠ th + 4 → c ≠ th + 6 → c ≠ th + 7 → M c = M0 c)
theorem FE.begin {th : Nat} {A A2 : Nat → Int} (h : RN (blk M th 8) A) : FE th A A2 (fun _ => False) M M := by
  obtain ⟨q13, q14, q15, q16⟩ := h.spots
  have q3 : S8 (M th 3) ∧ ∀ b : Nat, b < 8 → (bit (M th 3) b = true ↔ (b : Int) < A 2 ∧ A (59 + 10 * b) = 1) := h.heads.2.2.2.1
  refine ⟨⟨q3.1, fun b b8 => ?_⟩, fun _ _ => rfl, fun e q he hq => ?_, fun b b8 _ _ _ w => w.elim, fun _ _ => ⟨rfl, rfl⟩, fun _ _ _ _ _ _ => rfl⟩
  · rw [q3.2 b b8]
    exact ⟨fun q => ⟨q.1, Or.inl q.2⟩, fun q => ⟨q.1, q.2.resolve_right (fun w => w.2)⟩⟩
  · have e01 : e = 0 ∨ e = 1 := by omega
    rcases e01 with rfl | rfl
    · have r := q13 q (by omega)
      refine ⟨r.1, fun b b8 => ?_⟩
      rw [show bit (M (th + 3 + 0) q) b = true ↔ _ from r.2 b b8]
      exact ⟨fun z => ⟨z.1, z.2.1, by omega, fun w => w.2⟩, fun z => ⟨z.1, z.2.1, by omega⟩⟩
    · have r := q14 q (by omega)
      refine ⟨r.1, fun b b8 => ?_⟩
      rw [show bit (M (th + 3 + 1) q) b = true ↔ _ from r.2 b b8]
      exact ⟨fun z => ⟨z.1, z.2.1, by omega, fun w => w.2⟩, fun z => ⟨z.1, z.2.1, by omega⟩⟩
/-- one spot more -/
theorem FE.step {th p : Nat} (hf : 100 ≤ n) (hs : p + 12 ≤ th ∨ th + 8 ≤ p) {A : Nat → Int} (hA : SA A) {S : Int → Prop} {M0 : JMem} (hh : M0 th 1 = A 5) (hP : RP (blk M0 p 12) A) (h : FE th A (eaN A (A 2).toNat) S M0 M) {e q : Nat} (e2 : e < 2) (hq : q < 6 + 2 * e) (hw : 0 < (q : Int) + 10 * (e : Int)) (hS : ¬ S ((q : Int) + 10 * (e : Int))) :
    ∃ r M', f_X1_leftBy n th p (M (th + 3 + e) q) M = some (r, M') ∧ FE th A (eaN A (A 2).toNat) (fun w => S w ∨ w = (q : Int) + 10 * (e : Int)) M0 (jup M' (th + 3 + e) q r) := by
  obtain ⟨⟨h1, h2⟩, h3, h4, h5, h6, h7⟩ := h
  have h2' := hA.2.2.1
  have hP' : RP (blk M p 12) A := by
    rw [blk_congr (by decide) (M := M0) (M' := M) (a := p) (z := 12) (fun j hj => h7 _ (by omega) (by omega) (by omega) (by omega) (by omega))]; exact hP
  have g := h4 e q e2 hq
  have hg : ∀ b : Nat, b < 8 → (bit (M (th + 3 + e) q) b = true ↔ (b : Int) < A 2 ∧ ¬ A (59 + 10 * b) = 1 ∧ A (63 + 10 * b) = (q : Int) + 10 * (e : Int)) := fun b b8 => by
    rw [g.2 b b8]
    exact ⟨fun z => ⟨z.1, z.2.1, z.2.2.1⟩, fun z => ⟨z.1, z.2.1, z.2.2, fun w => hS w.2⟩⟩
  obtain ⟨r, M', r1, r2, r3, ⟨k1, k2⟩, k3, k4, k5, k6⟩ := c_leftBy (n := n) hf hs hA ⟨g.1, hg⟩ hw (M0 := M) (by rw [h3 1 (by omega)]; exact hh) h1 hP'
  refine ⟨r, M', r1, ⟨?_, fun b b8 => ?_⟩, fun j hj => ?_, fun e' q' he' hq' => ?_, fun b b8 z1 z2 z3 z4 => ?_, fun b z => ?_, fun c c1 c2 c3 c4 c5 => ?_⟩
  · rw [jup_cell (by omega)]; exact k1
  · rw [jup_cell (by omega), k2 b b8, h2 b b8, hg b b8]
    constructor
    · rintro (z | ⟨z1, z2, z3⟩)
      · exact ⟨z.1, z.2.imp id (fun w => ⟨w.1, Or.inl w.2⟩)⟩
      · exact ⟨z1.1, Or.inr ⟨z3, Or.inr z1.2.2⟩⟩
    · rintro ⟨z1, z2 | ⟨z2, z3 | z3⟩⟩
      · exact Or.inl ⟨z1, Or.inl z2⟩
      · exact Or.inl ⟨z1, Or.inr ⟨z2, z3⟩⟩
      · by_cases z4 : A (59 + 10 * b) = 1
        · exact Or.inl ⟨z1, Or.inl z4⟩
        · exact Or.inr ⟨⟨z1, z4, z3⟩, by omega, z2⟩
  · rw [jup_cell (by omega), k3 j hj, h3 j hj]
  · by_cases c : e' = e ∧ q' = q
    · obtain ⟨rfl, rfl⟩ := c
      rw [jup_at, if_pos ⟨rfl, rfl⟩]
      refine ⟨r2, fun b b8 => ?_⟩
      rw [r3 b b8, hg b b8]
      exact ⟨fun z => ⟨z.1.1, z.1.2.1, z.1.2.2, fun w => z.2 w.1⟩, fun z => ⟨⟨z.1, z.2.1, z.2.2.1⟩, fun w => z.2.2.2 ⟨w, Or.inr rfl⟩⟩⟩
    · have e0 : jup M' (th + 3 + e) q r (th + 3 + e') q' = M (th + 3 + e') q' := by
        rw [jup_at, if_neg (fun w => c ⟨by omega, w.2⟩), k6 _ (by omega) (by omega) (by omega)]
      rw [e0]
      have z := h4 e' q' he' hq'
      refine ⟨z.1, fun b b8 => ?_⟩
      rw [z.2 b b8]
      refine ⟨fun y => ⟨y.1, y.2.1, y.2.2.1, fun w => ?_⟩, fun y => ⟨y.1, y.2.1, y.2.2.1, fun w => y.2.2.2 ⟨w.1, Or.inl w.2⟩⟩⟩
      rcases w.2 with w2 | w2
      · exact y.2.2.2 ⟨w.1, w2⟩
      · exact c (by omega)
  · rw [jup_cell (by omega), jup_cell (by omega)]
    by_cases c : A (63 + 10 * b) = (q : Int) + 10 * (e : Int)
    · exact k4 b b8 ((hg b b8).2 ⟨z1, z2, c⟩) (by omega) z3
    · have y := k5 b (fun w => c ((hg b b8).1 w.1).2.2)
      rw [y.1, y.2]
      exact h5 b b8 z1 z2 z3 (z4.resolve_right c)
  · rw [jup_cell (by omega), jup_cell (by omega)]
    have y := k5 b (fun w => by
      have b8 : b < 8 := by omega
      have v := (hg b b8).1 w.1
      exact z ⟨v.1, v.2.1, w.2.2⟩)
    rw [y.1, y.2]
    exact h6 b z
  · rw [jup_cell (by omega), k6 c c1 c4 c5, h7 c c1 c2 c3 c4 c5]
theorem FE.iff {th : Nat} {A A2 : Nat → Int} {S S' : Int → Prop} {M0 : JMem} (h : FE th A A2 S M0 M) (hS : ∀ w, S w ↔ S' w) : FE th A A2 S' M0 M := by
  rw [show S' = S from funext fun w => propext (hS w).symm]; exact h
theorem c_feast_T {th p : Nat} (hf : 100 ≤ n) (hs : p + 12 ≤ th ∨ th + 8 ≤ p) {A : Nat → Int} (hA : SA A) {M0 : JMem} (hh : M0 th 1 = A 5) (hP : RP (blk M0 p 12) A) :
    ∀ (d t k : Nat) (M : JMem), t + d = (A 1).toNat → d < k → FE th A (eaN A (A 2).toNat) (fun w => (1 ≤ w ∧ w < A 0) ∨ (10 ≤ w ∧ w < 10 + (t : Int))) M0 M →
    ∃ M', f_X1_feast_L35 n th p k (t : Int) M = some (0, M') ∧ FE th A (eaN A (A 2).toNat) (fun w => (1 ≤ w ∧ w < A 0) ∨ (10 ≤ w ∧ w < 10 + A 1)) M0 M' := by
  have h1 := hA.2.1
  have h0 := hA.1
  intro d
  induction d with
  | zero =>
    intro t k M hi hk h
    obtain ⟨k, rfl⟩ : ∃ q, k = q + 1 := ⟨k - 1, by omega⟩
    have e1 : M p 1 = A 1 := by
      rw [h.2.2.2.2.2 p (by omega) (by omega) (by omega) (by omega) (by omega)]; exact hP.2.1.1
    refine ⟨M, ?_, h.iff (fun w => by rw [show (t : Int) = A 1 by omega])⟩
    rw [f_X1_feast_L35, e1, if_pos (by rw [jw_of (x := A 1) (by omega) (by omega), jw_of (x := (t : Int)) (by omega) (by omega)]; omega)]
  | succ d ih =>
    intro t k M hi hk h
    obtain ⟨k, rfl⟩ : ∃ q, k = q + 1 := ⟨k - 1, by omega⟩
    have e1 : M p 1 = A 1 := by
      rw [h.2.2.2.2.2 p (by omega) (by omega) (by omega) (by omega) (by omega)]; exact hP.2.1.1
    obtain ⟨r, M', r1, r2⟩ := FE.step (n := n) hf hs hA hh hP h (e := 1) (q := t) (by omega) (by omega) (by omega) (by omega)
    have r1 : f_X1_leftBy n th p (M (th + 4) t) M = some (r, M') := r1
    rw [f_X1_feast_L35, e1, jw_of (x := A 1) (by omega) (by omega), if_neg (by rw [jw_of (x := (t : Int)) (by omega) (by omega)]; omega), chk_pos (jin_of (by omega) (by omega) (by omega)), jwb (by omega), r1, bnd_some, chk_pos (jin_of (by omega) (by omega) (by omega))]
    exact ih (t + 1) k (jup M' (th + 4) t r) (by omega) (by omega) (r2.iff (fun w => by
      constructor
      · rintro ((q | q) | q)
        · exact Or.inl q
        · exact Or.inr (by omega)
        · exact Or.inr (by omega)
      · rintro (q | q)
        · exact Or.inl (Or.inl q)
        · by_cases c : w = (t : Int) + 10 * ((1 : Nat) : Int)
          · exact Or.inr c
          · exact Or.inl (Or.inr (by omega))))
theorem c_feast_P {th p : Nat} (hf : 100 ≤ n) (hs : p + 12 ≤ th ∨ th + 8 ≤ p) {A : Nat → Int} (hA : SA A) {M0 : JMem} (hh : M0 th 1 = A 5) (hP : RP (blk M0 p 12) A) :
    ∀ (d t k : Nat) (M : JMem), (A 0).toNat ≤ t + d → (t = 1 ∨ (t : Int) ≤ A 0) → 1 ≤ t → d < k → FE th A (eaN A (A 2).toNat) (fun w => 1 ≤ w ∧ w < (t : Int)) M0 M →
    ∃ M', f_X1_feast_L2 n th p k (t : Int) M = some (0, M') ∧ FE th A (eaN A (A 2).toNat) (fun w => (1 ≤ w ∧ w < A 0) ∨ (10 ≤ w ∧ w < 10 + A 1)) M0 M' := by
  have h1 := hA.2.1
  have h0 := hA.1
  have fin : ∀ (t : Nat) (M : JMem), A 0 ≤ (t : Int) → (t = 1 ∨ (t : Int) ≤ A 0) → FE th A (eaN A (A 2).toNat) (fun w => 1 ≤ w ∧ w < (t : Int)) M0 M → ∃ M', f_X1_feast_L33 n th p M = some (0, M') ∧ FE th A (eaN A (A 2).toNat) (fun w => (1 ≤ w ∧ w < A 0) ∨ (10 ≤ w ∧ w < 10 + A 1)) M0 M' := fun t M c1 c2 h => by
    unfold f_X1_feast_L33
    simp only [letv_ap, letm_ap]
    exact c_feast_T hf hs hA hh hP (A 1).toNat 0 n M (by omega) (by omega) (h.iff (fun w => ⟨fun q => Or.inl (by omega), fun q => by omega⟩))
  intro d
  induction d with
  | zero =>
    intro t k M hi ht t1 hk h
    obtain ⟨k, rfl⟩ : ∃ q, k = q + 1 := ⟨k - 1, by omega⟩
    have e1 : M p 0 = A 0 := by
      rw [h.2.2.2.2.2 p (by omega) (by omega) (by omega) (by omega) (by omega)]; exact hP.1.1
    rw [f_X1_feast_L2, e1, if_pos (by rw [jw_of (x := A 0) (by omega) (by omega), jw_of (x := (t : Int)) (by omega) (by omega)]; omega)]
    exact fin t M (by omega) ht h
  | succ d ih =>
    intro t k M hi ht t1 hk h
    obtain ⟨k, rfl⟩ : ∃ q, k = q + 1 := ⟨k - 1, by omega⟩
    have e1 : M p 0 = A 0 := by
      rw [h.2.2.2.2.2 p (by omega) (by omega) (by omega) (by omega) (by omega)]; exact hP.1.1
    rw [f_X1_feast_L2, e1]
    by_cases c : A 0 ≤ (t : Int)
    · rw [if_pos (by rw [jw_of (x := A 0) (by omega) (by omega), jw_of (x := (t : Int)) (by omega) (by omega)]; exact c)]
      exact fin t M c ht h
    · obtain ⟨r, M', r1, r2⟩ := FE.step (n := n) hf hs hA hh hP h (e := 0) (q := t) (by omega) (by omega) (by omega) (by omega)
      have r1 : f_X1_leftBy n th p (M (th + 3) t) M = some (r, M') := r1
      rw [if_neg (by rw [jw_of (x := A 0) (by omega) (by omega), jw_of (x := (t : Int)) (by omega) (by omega)]; exact c), chk_pos (jin_of (by omega) (by omega) (by omega)), jwb (by omega), r1, bnd_some, chk_pos (jin_of (by omega) (by omega) (by omega))]
      exact ih (t + 1) k (jup M' (th + 3) t r) (by omega) (Or.inr (by omega)) (by omega) (by omega) (r2.iff (fun w => by
        constructor
        · rintro (q | q) <;> omega
        · intro q
          by_cases c : w = (t : Int) + 10 * ((0 : Nat) : Int)
          · exact Or.inr c
          · exact Or.inl (by omega)))
/-- all have eaten -/
theorem RN.ate {th : Nat} {A : Nat → Int} {M0 : JMem} (hA : SA A) (h : RN (blk M0 th 8) A) (hF : FE th A (eaN A (A 2).toNat) (fun w => (1 ≤ w ∧ w < A 0) ∨ (10 ≤ w ∧ w < 10 + A 1)) M0 M) : RN (blk M th 8) (eaN A (A 2).toNat) := by
  obtain ⟨⟨h1, h2⟩, h3, h4, h5, h6, h7⟩ := hF
  have na := hA.2.2.1
  have ne : ∀ i : Nat, (∀ b : Nat, b < 8 → i ≠ 59 + 10 * b ∧ i ≠ 65 + 10 * b) → eaN A (A 2).toNat i = A i := fun i hi => eaN_ne _ (fun b hb => hi b (by omega))
  have n63 : ∀ b : Nat, eaN A (A 2).toNat (63 + 10 * b) = A (63 + 10 * b) := fun b => eaN_ne _ (by omega)
  have e1 : blk M th 8 1 = blk M0 th 8 1 := funext fun k => by rw [blk_at (by omega), blk_at (by omega), h7 _ (by omega) (by omega) (by omega) (by omega) (by omega)]
  have e2 : blk M th 8 2 = blk M0 th 8 2 := funext fun k => by rw [blk_at (by omega), blk_at (by omega), h7 _ (by omega) (by omega) (by omega) (by omega) (by omega)]
  have e5 : blk M th 8 5 = blk M0 th 8 5 := funext fun k => by rw [blk_at (by omega), blk_at (by omega), h7 _ (by omega) (by omega) (by omega) (by omega) (by omega)]
  have e0 : ∀ j : Nat, j ≠ 3 → blk M th 8 0 j = blk M0 th 8 0 j := fun j hj => h3 j hj
  obtain ⟨q13', q14', q15', q16'⟩ := h.spots
  have ok : ∀ b : Nat, b < 8 → (b : Int) < A 2 → eaN A (A 2).toNat (59 + 10 * b) = 1 → ¬ A (59 + 10 * b) = 1 → ((1 ≤ A (63 + 10 * b) ∧ A (63 + 10 * b) < A 0) ∨ (10 ≤ A (63 + 10 * b) ∧ A (63 + 10 * b) < 10 + A 1)) := fun b b8 hb z1 z2 => by
    have w := (eaN_who hb z2 z1).1
    have := q15' b b8 hb z2
    omega
  unfold RN at h ⊢
  obtain ⟨q0, q1, ⟨a2, q2⟩, q3, ⟨a4, q4⟩, q5, ⟨a6, q6⟩, q7, q8, q9, q10, q11, q12, q13, q14, q15, q16⟩ := h
  rw [e1, e2, e5, e0 0 (by omega), e0 1 (by omega), e0 2 (by omega), e0 4 (by omega), ne 0 (by omega), ne 1 (by omega), ne 2 (by omega), ne 4 (by omega), ne 5 (by omega), ne 6 (by omega)]
  have fate : ∀ b : Nat, b < 8 → (b : Int) < A 2 → eaN A (A 2).toNat (59 + 10 * b) = 0 ∨ eaN A (A 2).toNat (59 + 10 * b) = 1 := fun b b8 hb => by
    have hs := (hA.eaK (A 2).toNat (by omega)).2.2.2.2.2.2 b b8 (by rw [ne 2 (by omega)]; exact hb)
    exact hs.2.1
  have bits : ∀ (X : Int) (w : Int), (∀ b : Nat, b < 8 → (bit X b = true ↔ (b : Int) < A 2 ∧ ¬ A (59 + 10 * b) = 1 ∧ A (63 + 10 * b) = w ∧ ¬ (eaN A (A 2).toNat (59 + 10 * b) = 1 ∧ ((1 ≤ w ∧ w < A 0) ∨ (10 ≤ w ∧ w < 10 + A 1))))) → ∀ b : Nat, b < 8 → (bit X b = true ↔ (b : Int) < A 2 ∧ ¬ eaN A (A 2).toNat (59 + 10 * b) = 1 ∧ eaN A (A 2).toNat (63 + 10 * b) = w) := fun X w hX b b8 => by
    rw [hX b b8, n63]
    constructor
    · rintro ⟨z1, z2, z3, z4⟩
      refine ⟨z1, fun y => z4 ⟨y, ?_⟩, z3⟩
      have := ok b b8 z1 y z2
      rw [z3] at this; exact this
    · rintro ⟨z1, z2, z3⟩
      exact ⟨z1, fun y => z2 (eaN_mono y _), z3, fun y => z2 y.1⟩
  refine ⟨q0, q1, ⟨a2, fun b b8 => ?_⟩, fun b b8 => ?_, ⟨h1, fun b b8 => ?_⟩, fun b b8 => ?_, ⟨a6, fun t t8 => ?_⟩, fun t t8 => ?_, fun b b8 => ?_, fun b b8 => ?_, q10, q11, q12, fun p p6 => ⟨(h4 0 p (by omega) (by omega)).1, fun b b8 => ?_⟩, fun t t8 => ⟨(h4 1 t (by omega) (by omega)).1, fun b b8 => ?_⟩, fun b b8 hb he => ?_, fun t t8 b b8 hb => ?_⟩
  · rw [ne (58 + 10 * b) (by omega)]; exact q2 b b8
  · rw [ne (58 + 10 * b) (by omega)]; exact q3 b b8
  · rw [show bit (blk M th 8 0 3) b = true ↔ _ from h2 b b8]
    constructor
    · rintro ⟨z1, z2 | z2⟩
      · exact ⟨z1, eaN_mono z2 _⟩
      · exact ⟨z1, z2.1⟩
    · rintro ⟨z1, z2⟩
      by_cases y : A (59 + 10 * b) = 1
      · exact ⟨z1, Or.inl y⟩
      · exact ⟨z1, Or.inr ⟨z2, ok b b8 z1 z2 y⟩⟩
  · exact fate b b8
  · rw [ne (13 + 6 * t) (by omega)]; exact q6 t t8
  · rw [ne (13 + 6 * t) (by omega)]; exact q7 t t8
  · rw [ne (61 + 10 * b) (by omega)]; exact q8 b b8
  · rw [ne (60 + 10 * b) (by omega)]; exact q9 b b8
  · exact bits _ p (fun c c8 => by
      rw [show bit (blk M th 8 3 p) c = true ↔ _ from (h4 0 p (by omega) (by omega)).2 c c8, show (p : Int) + 10 * ((0 : Nat) : Int) = p by omega]) b b8
  · exact bits _ (10 + t) (fun c c8 => by
      rw [show bit (blk M th 8 4 t) c = true ↔ _ from (h4 1 t (by omega) (by omega)).2 c c8, show (t : Int) + 10 * ((1 : Nat) : Int) = 10 + t by omega]) b b8
  · rw [n63]
    exact q15 b b8 hb (fun y => he (eaN_mono y _))
  · rw [ne (64 + 10 * b) (by omega), ne (11 + 6 * t) (by omega), ne (10 + 6 * t) (by omega)]
    refine q16 t t8 b b8 ?_
    have r := ((h4 1 t (by omega) (by omega)).2 b b8).1 hb
    exact ((q14' t t8).2 b b8).2 ⟨r.1, r.2.1, by omega⟩
end PPASS

section PHOUR
variable {n : Nat} {M : JMem}
/-! the reference's hour, as a function of its numbers -/
abbrev bdC (A : Nat → Int) (t b : Nat) : Prop := (b : Int) < A 2 ∧ wh A b = A (8 + 6 * t) ∧ bit (A (61 + 10 * b)) t = true ∧ (A (8 + 6 * t) = 0 → ¬ A (58 + 10 * b) = 0)
def bdN (A : Nat → Int) (t : Nat) (s : Int) : Nat → (Nat → Int) × Int
  | 0 => (A, s)
  | k + 1 => if 0 < (bdN A t s k).2 ∧ bdC (bdN A t s k).1 t k then (upA (upA (bdN A t s k).1 (63 + 10 * k) (10 + t)) (64 + 10 * k) ((bdN A t s k).1 5), (bdN A t s k).2 - 1) else bdN A t s k
theorem bdN_no {A : Nat → Int} {t : Nat} {s : Int} {k : Nat} (h : ¬ (0 < (bdN A t s k).2 ∧ bdC (bdN A t s k).1 t k)) : bdN A t s (k + 1) = bdN A t s k := by
  rw [bdN, if_neg h]
theorem bdN_yes {A : Nat → Int} {t : Nat} {s : Int} {k : Nat} (h : 0 < (bdN A t s k).2 ∧ bdC (bdN A t s k).1 t k) : bdN A t s (k + 1) = (upA (upA (bdN A t s k).1 (63 + 10 * k) (10 + t)) (64 + 10 * k) ((bdN A t s k).1 5), (bdN A t s k).2 - 1) := by
  rw [bdN, if_pos h]
theorem bdN_ne {A : Nat → Int} {t : Nat} {s : Int} {i : Nat} : ∀ k : Nat, (∀ b : Nat, b < k → i ≠ 63 + 10 * b ∧ i ≠ 64 + 10 * b) → (bdN A t s k).1 i = A i := by
  intro k
  induction k with
  | zero => intro _; rfl
  | succ k ih =>
    intro h
    have ih := ih (fun b hb => h b (by omega))
    by_cases c : 0 < (bdN A t s k).2 ∧ bdC (bdN A t s k).1 t k
    · have := h k (by omega)
      rw [bdN_yes c]
      show upA (upA _ _ _) _ _ i = _
      rw [upA_ne (by omega), upA_ne (by omega), ih]
    · rw [bdN_no c, ih]
theorem bdN_s {A : Nat → Int} {t : Nat} {s : Int} (hs : 0 ≤ s) : ∀ k : Nat, 0 ≤ (bdN A t s k).2 ∧ (bdN A t s k).2 ≤ s := by
  intro k
  induction k with
  | zero => exact ⟨hs, Int.le_refl _⟩
  | succ k ih =>
    by_cases c : 0 < (bdN A t s k).2 ∧ bdC (bdN A t s k).1 t k
    · rw [bdN_yes c]
      show 0 ≤ (bdN A t s k).2 - 1 ∧ (bdN A t s k).2 - 1 ≤ s
      omega
    · rw [bdN_no c]; exact ih
theorem bdN_stop {A : Nat → Int} {t : Nat} {s : Int} {i : Nat} (h : (bdN A t s i).2 ≤ 0) : ∀ d : Nat, bdN A t s (i + d) = bdN A t s i := by
  intro d
  induction d with
  | zero => rfl
  | succ d ih => rw [show i + (d + 1) = i + d + 1 by omega, bdN_no (by rw [ih]; omega), ih]
theorem SA.bdK {A : Nat → Int} (h : SA A) {t : Nat} {s : Int} (t8 : t < 8) (ht : (t : Int) < A 1) (h5 : A 5 ≤ 63) : ∀ k : Nat, k ≤ 8 → SA (bdN A t s k).1 := by
  intro k
  induction k with
  | zero => intro _; exact h
  | succ k ih =>
    intro hk
    have ih := ih (by omega)
    by_cases c : 0 < (bdN A t s k).2 ∧ bdC (bdN A t s k).1 t k
    · rw [bdN_yes c]
      have e5 : (bdN A t s k).1 5 = A 5 := bdN_ne k (by omega)
      have e1 : (bdN A t s k).1 1 = A 1 := bdN_ne k (by omega)
      have ih' := ih
      obtain ⟨s0, s1, s2, s4, s5, st, sb⟩ := ih'
      have e : ∀ i : Nat, i ≠ 63 + 10 * k → i ≠ 64 + 10 * k → upA (upA (bdN A t s k).1 (63 + 10 * k) (10 + t)) (64 + 10 * k) ((bdN A t s k).1 5) i = (bdN A t s k).1 i := fun i h1 h2 => by rw [upA_ne h2, upA_ne h1]
      refine ih.mk2 (fun i i4 i5 hi => e i (hi k (by omega)).2.2.2.1 (hi k (by omega)).2.2.2.2.1) ?_ ?_ fun b b8 hb => ?_
      · show 0 ≤ upA (upA _ _ _) _ _ 4 ∧ upA (upA _ _ _) _ _ 4 ≤ 999
        rw [e 4 (by omega) (by omega)]; exact s4
      · show 0 ≤ upA (upA _ _ _) _ _ 5 ∧ upA (upA _ _ _) _ _ 5 ≤ 64
        rw [e 5 (by omega) (by omega)]; exact s5
      · obtain ⟨b1, b2, b3, b4, b5⟩ := sb b b8 hb
        show (upA (upA _ _ _) _ _ (58 + 10 * b) = 0 ∨ upA (upA _ _ _) _ _ (58 + 10 * b) = 1) ∧ (upA (upA _ _ _) _ _ (59 + 10 * b) = 0 ∨ upA (upA _ _ _) _ _ (59 + 10 * b) = 1) ∧ (¬ upA (upA _ _ _) _ _ (59 + 10 * b) = 1 → (0 ≤ upA (upA _ _ _) _ _ (63 + 10 * b) ∧ upA (upA _ _ _) _ _ (63 + 10 * b) < _) ∨ (10 ≤ upA (upA _ _ _) _ _ (63 + 10 * b) ∧ upA (upA _ _ _) _ _ (63 + 10 * b) < 10 + _ ∧ 0 ≤ upA (upA _ _ _) _ _ (64 + 10 * b) ∧ upA (upA _ _ _) _ _ (64 + 10 * b) ≤ 63))
        rw [e (58 + 10 * b) (by omega) (by omega), e (59 + 10 * b) (by omega) (by omega)]
        refine ⟨b1, b2, fun he => ?_⟩
        by_cases ek : b = k
        · subst ek
          rw [upA_same, upA_ne (by omega), upA_same, e5, e1]
          right
          rw [e5] at s5
          omega
        · rw [e (63 + 10 * b) (by omega) (by omega), e (64 + 10 * b) (by omega) (by omega)]
          exact b5 he
    · rw [bdN_no c]; exact ih
/-- who gets on a train -/
def lv1 (A : Nat → Int) (t : Nat) : Nat → Int := if A (10 + 6 * t) = A 5 ∧ ¬ A (13 + 6 * t) = 1 then (bdN A t (A (12 + 6 * t)) (A 2).toNat).1 else A
def lvN (A : Nat → Int) : Nat → Nat → Int
  | 0 => A
  | k + 1 => lv1 (lvN A k) k
theorem lv1_ne {A : Nat → Int} {t i : Nat} (h2 : A 2 ≤ 8) (h : ∀ b : Nat, b < 8 → i ≠ 63 + 10 * b ∧ i ≠ 64 + 10 * b) : lv1 A t i = A i := by
  unfold lv1
  by_cases c : A (10 + 6 * t) = A 5 ∧ ¬ A (13 + 6 * t) = 1
  · rw [if_pos c]; exact bdN_ne _ (fun b hb => h b (by omega))
  · rw [if_neg c]
theorem lvN_ne {A : Nat → Int} (h2 : A 2 ≤ 8) : ∀ (k i : Nat), (∀ b : Nat, b < 8 → i ≠ 63 + 10 * b ∧ i ≠ 64 + 10 * b) → lvN A k i = A i := by
  intro k
  induction k with
  | zero => intro i _; rfl
  | succ k ih =>
    intro i h
    rw [lvN, lv1_ne (by rw [ih 2 (by omega)]; exact h2) h, ih i h]
theorem SA.lvT {A : Nat → Int} (h : SA A) {t : Nat} (t8 : t < 8) (ht : (t : Int) < A 1) (h5 : A 5 ≤ 63) : SA (lv1 A t) := by
  unfold lv1
  by_cases c : A (10 + 6 * t) = A 5 ∧ ¬ A (13 + 6 * t) = 1
  · rw [if_pos c]; exact h.bdK t8 ht h5 _ (by have := h.2.2.1; omega)
  · rw [if_neg c]; exact h
theorem SA.lvK {A : Nat → Int} (h : SA A) (h5 : A 5 ≤ 63) : ∀ k : Nat, (k : Int) ≤ A 1 → SA (lvN A k) := by
  intro k
  induction k with
  | zero => intro _; exact h
  | succ k ih =>
    intro hk
    have h1 := h.2.1
    have h2 := h.2.2.1
    exact (ih (by omega)).lvT (by omega) (by rw [lvN_ne h2.2 k 1 (by omega)]; omega) (by rw [lvN_ne h2.2 k 5 (by omega)]; omega)
theorem q_leaves_L {A : Nat → Int} (hA : SA A) {t : Nat} (t8 : t < 8) (ht : (t : Int) < A 1) (h5 : A 5 ≤ 63) {s : Int} (hs : 0 ≤ s ∧ s ≤ 9) : ∀ (d i k : Nat) (M : JMem), i + d = (A 2).toNat → d < k → M 168 = (bdN A t s i).1 → f_X12_leaves_L43 n k (t : Int) (bdN A t s i).2 (A (8 + 6 * t)) (i : Int) M = some (0, jrow M 168 (bdN A t s (A 2).toNat).1) := by
  have h2 := hA.2.2.1
  intro d
  induction d with
  | zero =>
    intro i k M hi hk hM
    obtain ⟨k, rfl⟩ : ∃ q, k = q + 1 := ⟨k - 1, by omega⟩
    have e2 : M 168 2 = A 2 := by rw [hM]; exact bdN_ne i (by omega)
    rw [f_X12_leaves_L43, chk_pos (by decide), show (jw 2).toNat = 2 by decide, e2, jw_of (x := A 2) (by omega) (by omega), jw_of (x := (i : Int)) (by omega) (by omega), if_pos (by omega), show (A 2).toNat = i by omega, ← hM, jrow_self]
  | succ d ih =>
    intro i k M hi hk hM
    obtain ⟨k, rfl⟩ : ∃ q, k = q + 1 := ⟨k - 1, by omega⟩
    have i8 : i < 8 := by omega
    have e2 : M 168 2 = A 2 := by rw [hM]; exact bdN_ne i (by omega)
    have ef : M 168 (8 + 6 * t) = A (8 + 6 * t) := by rw [hM]; exact bdN_ne i (by omega)
    have hS : SA (M 168) := by rw [hM]; exact hA.bdK t8 ht h5 i (by omega)
    have hv := bdN_s (A := A) (t := t) hs.1 i
    have ev : jw (bdN A t s i).2 = (bdN A t s i).2 := jw_of (by omega) (by omega)
    obtain ⟨b1, b2, b3, b4, b5⟩ := hS.2.2.2.2.2.2 i i8 (by omega)
    have hf := (hA.2.2.2.2.2.1 t t8 ht).1
    have h0 := hA.1
    rw [f_X12_leaves_L43, chk_pos (by decide), show (jw 2).toNat = 2 by decide, e2, jw_of (x := A 2) (by omega) (by omega), jw_of (x := (i : Int)) (by omega) (by omega), if_neg (by omega), ev]
    by_cases c0 : (bdN A t s i).2 ≤ 0
    · rw [if_pos c0, show (A 2).toNat = i + (d + 1) by omega, bdN_stop c0, ← hM, jrow_self]
    · have hno : ¬ bdC (M 168) t i → f_X12_leaves_L142 n (f_X12_leaves_L43 n k) (t : Int) (bdN A t s i).2 (A (8 + 6 * t)) (i : Int) M = some (0, jrow M 168 (bdN A t s (A 2).toNat).1) := fun c => by
        have e := bdN_no (A := A) (t := t) (s := s) (k := i) (fun q => c (by rw [hM]; exact q.2))
        unfold f_X12_leaves_L142
        simp only [letv_ap, letm_ap]
        rw [← e]
        exact ih (i + 1) k M (by omega) (by omega) (by rw [e]; exact hM)
      have hyes : bdC (M 168) t i → f_X12_leaves_L103 n (f_X12_leaves_L43 n k) (t : Int) (bdN A t s i).2 (A (8 + 6 * t)) (i : Int) M = some (0, jrow M 168 (bdN A t s (A 2).toNat).1) := fun c => by
        have e := bdN_yes (A := A) (t := t) (s := s) (k := i) ⟨by omega, by rw [← hM]; exact c⟩
        unfold f_X12_leaves_L103 f_X12_leaves_L142
        simp only [letv_ap, letm_ap]
        rw [q_beastRow, bnd_some, chk_pos (ixj7 i8), ixb7 i8, q_beastRow, bnd_some, chk_pos (by decide), chk_pos (ixj8 i8), ixb8 i8, show (jw 5).toNat = 5 by decide, jup2, jup_at, if_neg (by omega)]
        have r := ih (i + 1) k (jrow M 168 (upA (upA (M 168) (63 + 10 * i) (10 + (t : Int))) (64 + 10 * i) (M 168 5))) (by omega) (by omega) (by rw [jrow_same, e, hM])
        rw [e, jrow_jrow] at r
        exact r
      rw [if_neg c0, q_whereOf i8 b2, bnd_some]
      have ew : jw (if M 168 (59 + 10 * i) = 1 then (-1 : Int) else M 168 (63 + 10 * i)) = wh (M 168) i := by
        unfold wh
        by_cases he : M 168 (59 + 10 * i) = 1
        · rw [if_pos he]; decide
        · rw [if_neg he]
          have := b5 he
          have := hS.1
          have := hS.2.1
          exact jw_of (by omega) (by omega)
      rw [ew, jw_of (x := A (8 + 6 * t)) (by omega) (by omega)]
      by_cases c1 : wh (M 168) i = A (8 + 6 * t)
      · rw [if_pos c1, q_bo5 i8, bnd_some, q_isInM b3 t8, bnd_some]
        by_cases c2 : bit (M 168 (61 + 10 * i)) t = true
        · rw [if_pos c2, if_neg (by decide)]
          by_cases c3 : A (8 + 6 * t) = 0
          · rw [if_pos c3, q_bo2 i8, bnd_some]
            by_cases c4 : M 168 (58 + 10 * i) = 0
            · rw [c4, if_pos (by decide)]
              exact hno (fun q => q.2.2.2 (by rw [ef]; exact c3) c4)
            · rw [if_neg (by rw [show M 168 (58 + 10 * i) = 1 by omega]; decide)]
              exact hyes ⟨by omega, by rw [ef]; exact c1, c2, fun _ => c4⟩
          · rw [if_neg c3]
            exact hyes ⟨by omega, by rw [ef]; exact c1, c2, fun q => absurd (by rw [← ef]; exact q) c3⟩
        · rw [if_neg c2, if_pos (by decide)]
          exact hno (fun q => c2 q.2.2.1)
      · rw [if_neg c1]
        exact hno (fun q => c1 (by rw [← ef]; exact q.2.1))
theorem q_leaves {t : Nat} (hf : 100 ≤ n) (hA : SA (M 168)) (t8 : t < 8) (ht : (t : Int) < M 168 1) (h5 : M 168 5 ≤ 63) : ∃ r, f_X12_leaves n (t : Int) M = some (r, jrow M 168 (lv1 (M 168) t)) := by
  obtain ⟨t1, t2, t3, t4, t5, t6⟩ := hA.2.2.2.2.2.1 t t8 ht
  have s5 := hA.2.2.2.2.1
  refine ⟨0, ?_⟩
  unfold f_X12_leaves lv1
  simp only [letv_ap, letm_ap]
  rw [q_to2 t8, bnd_some, chk_pos (by decide), show (jw 5).toNat = 5 by decide, jw_of (x := M 168 (10 + 6 * t)) (by omega) (by omega), jw_of (x := M 168 5) (by omega) (by omega)]
  by_cases c1 : M 168 (10 + 6 * t) = M 168 5
  · rw [if_pos c1, q_to5 t8, bnd_some]
    by_cases c2 : M 168 (13 + 6 * t) = 1
    · rw [c2, if_pos rfl, if_neg (fun q => q.2 rfl), jrow_self]
    · rw [show M 168 (13 + 6 * t) = 0 by omega, if_neg (by decide), if_pos ⟨c1, by decide⟩, q_to4 t8, bnd_some, q_to0 t8, bnd_some]
      exact q_leaves_L hA t8 ht h5 (s := M 168 (12 + 6 * t)) (by omega) (M 168 2).toNat 0 n M (by omega) (by have := hA.2.2.1; omega) rfl
  · rw [if_neg c1, if_neg (fun q => c1 q.1), jrow_self]
theorem q_leavess {A : Nat → Int} (hf : 100 ≤ n) (hA : SA A) (h5 : A 5 ≤ 63) : ∀ (d i k : Nat) (M : JMem), i + d = (A 1).toNat → d < k → M 168 = lvN A i → f_X12_hourGoes_L25 n k (i : Int) M = f_X12_hourGoes_L46 n (jrow M 168 (lvN A (A 1).toNat)) := by
  have h1 := hA.2.1
  have h2 := hA.2.2.1
  intro d
  induction d with
  | zero =>
    intro i k M hi hk hM
    obtain ⟨k, rfl⟩ : ∃ q, k = q + 1 := ⟨k - 1, by omega⟩
    have e2 : M 168 1 = A 1 := by rw [hM]; exact lvN_ne h2.2 _ _ (by omega)
    rw [f_X12_hourGoes_L25, chk_pos (by decide), show (jw 1).toNat = 1 by decide, e2, jw_of (by omega) (by omega), jw_of (by omega) (by omega), if_pos (by omega), show (A 1).toNat = i by omega, ← hM, jrow_self]
  | succ d ih =>
    intro i k M hi hk hM
    obtain ⟨k, rfl⟩ : ∃ q, k = q + 1 := ⟨k - 1, by omega⟩
    have e2 : M 168 1 = A 1 := by rw [hM]; exact lvN_ne h2.2 _ _ (by omega)
    have e5 : M 168 5 = A 5 := by rw [hM]; exact lvN_ne h2.2 _ _ (by omega)
    obtain ⟨r, hr⟩ := q_leaves (n := n) (M := M) (t := i) hf (by rw [hM]; exact hA.lvK h5 i (by omega)) (by omega) (by omega) (by omega)
    rw [f_X12_hourGoes_L25, chk_pos (by decide), show (jw 1).toNat = 1 by decide, e2, jw_of (by omega) (by omega), jw_of (by omega) (by omega), if_neg (by omega), hr, bnd_some]
    simp only [letv_ap, letm_ap]
    rw [show ((i : Int) + 1) = ((i + 1 : Nat) : Int) by omega, ih (i + 1) k _ (by omega) (by omega) (by rw [jrow_same, hM]; rfl), jrow_jrow]
end PHOUR

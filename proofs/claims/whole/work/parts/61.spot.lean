section PSPOT
variable {n : Nat} {M : JMem}
theorem spot_T {th b : Nat} {w : Int} (b8 : b < 8) (n1 : 0 ≤ M 40 1 ∧ M 40 1 ≤ 8) (hw : w = -1 ∨ (10 ≤ w ∧ w < 10 + M 40 1)) (ht : ∀ t : Nat, t < 8 → S8 (M (th + 4) t) ∧ (bit (M (th + 4) t) b = true ↔ w = 10 + t)) : ∀ (d t k : Nat), t + d = (M 40 1).toNat → d < k → (∀ u : Nat, u < t → w ≠ 10 + u) → f_X1_spotOf_L33 n th 40 k (b : Int) (t : Int) M = some (w, M) := by
  have e1 : ∀ _ : True, jw (M 40 1) = M 40 1 := fun _ => jw_of (by omega) (by omega)
  intro d
  induction d with
  | zero =>
    intro t k hi hk hu
    obtain ⟨k, rfl⟩ : ∃ q, k = q + 1 := ⟨k - 1, by omega⟩
    have et : ∀ _ : True, jw (t : Int) = t := fun _ => jw_of (by omega) (by omega)
    have hw2 : w = -1 := by
      rcases hw with h | h
      · exact h
      · exact absurd (show w = 10 + (((w - 10).toNat : Nat) : Int) by omega) (hu (w - 10).toNat (by omega))
    rw [f_X1_spotOf_L33, if_pos (show jw (M 40 1) ≤ jw (t : Int) by rw [e1 trivial, et trivial]; omega), hw2]
  | succ d ih =>
    intro t k hi hk hu
    obtain ⟨k, rfl⟩ : ∃ q, k = q + 1 := ⟨k - 1, by omega⟩
    have et : ∀ _ : True, jw (t : Int) = t := fun _ => jw_of (by omega) (by omega)
    have t8 : t < 8 := by omega
    rw [f_X1_spotOf_L33, if_neg (show ¬ jw (M 40 1) ≤ jw (t : Int) by rw [e1 trivial, et trivial]; omega), chk_pos (jin_of (by omega) (by omega) (by omega)), show (jw (t : Int)).toNat = t from jwb (by omega), q_isIn (ht t t8).1 b8, bnd_some]
    by_cases c : w = 10 + t
    · rw [if_pos ((ht t t8).2.2 c), if_neg (by decide)]
      unfold f_X1_spotOf_L54
      rw [c]
    · rw [if_neg (fun q => c ((ht t t8).2.1 q)), if_pos (by decide)]
      exact ih (t + 1) k (by omega) (by omega) (fun u hu2 => by
        by_cases e : u = t
        · rw [e]; exact c
        · exact hu u (by omega))
theorem spot_P {th b : Nat} {w : Int} (hf : 100 ≤ n) (b8 : b < 8) (n0 : 0 ≤ M 40 0 ∧ M 40 0 ≤ 6) (n1 : 0 ≤ M 40 1 ∧ M 40 1 ≤ 8) (hw : w = -1 ∨ (0 ≤ w ∧ w < M 40 0) ∨ (10 ≤ w ∧ w < 10 + M 40 1)) (hp : ∀ p : Nat, p < 6 → S8 (M (th + 3) p) ∧ (bit (M (th + 3) p) b = true ↔ w = p)) (ht : ∀ t : Nat, t < 8 → S8 (M (th + 4) t) ∧ (bit (M (th + 4) t) b = true ↔ w = 10 + t)) : ∀ (d p k : Nat), p + d = (M 40 0).toNat → d < k → (∀ u : Nat, u < p → w ≠ u) → f_X1_spotOf_L2 n th 40 k (b : Int) (p : Int) M = some (w, M) := by
  have e1 : ∀ _ : True, jw (M 40 0) = M 40 0 := fun _ => jw_of (by omega) (by omega)
  intro d
  induction d with
  | zero =>
    intro p k hi hk hu
    obtain ⟨k, rfl⟩ : ∃ q, k = q + 1 := ⟨k - 1, by omega⟩
    have et : ∀ _ : True, jw (p : Int) = p := fun _ => jw_of (by omega) (by omega)
    have hw2 : w = -1 ∨ (10 ≤ w ∧ w < 10 + M 40 1) := by
      rcases hw with h | h | h
      · exact Or.inl h
      · exact absurd (show w = ((w.toNat : Nat) : Int) by omega) (hu w.toNat (by omega))
      · exact Or.inr h
    rw [f_X1_spotOf_L2, if_pos (show jw (M 40 0) ≤ jw (p : Int) by rw [e1 trivial, et trivial]; omega)]
    unfold f_X1_spotOf_L31
    exact spot_T b8 n1 hw2 ht (M 40 1).toNat 0 n (by omega) (by omega) (fun u hu => by omega)
  | succ d ih =>
    intro p k hi hk hu
    obtain ⟨k, rfl⟩ : ∃ q, k = q + 1 := ⟨k - 1, by omega⟩
    have et : ∀ _ : True, jw (p : Int) = p := fun _ => jw_of (by omega) (by omega)
    have p6 : p < 6 := by omega
    rw [f_X1_spotOf_L2, if_neg (show ¬ jw (M 40 0) ≤ jw (p : Int) by rw [e1 trivial, et trivial]; omega), chk_pos (jin_of (by omega) (by omega) (by omega)), show (jw (p : Int)).toNat = p from jwb (by omega), q_isIn (hp p p6).1 b8, bnd_some]
    by_cases c : w = p
    · rw [if_pos ((hp p p6).2.2 c), if_neg (by decide), c]
    · rw [if_neg (fun q => c ((hp p p6).2.1 q)), if_pos (by decide)]
      exact ih (p + 1) k (by omega) (by omega) (fun u hu2 => by
        by_cases e : u = p
        · rw [e]; exact c
        · exact hu u (by omega))
/-- where a beast is: the one object's search against the other's number -/
theorem q_spotOf {th b : Nat} {A : Nat → Int} (hf : 100 ≤ n) (hP : RP (blk M 40 12) A) (hN : RN (blk M th 8) A) (b8 : b < 8) (hb : (b : Int) < A 2) : f_X1_spotOf n th 40 (b : Int) M = some (wh A b, M) := by
  have n0 : M 40 0 = A 0 ∧ 0 ≤ A 0 ∧ A 0 ≤ 6 := hP.1
  have n1 : M 40 1 = A 1 ∧ 0 ≤ A 1 ∧ A 1 ≤ 8 := hP.2.1
  have m0 : 0 ≤ M 40 0 ∧ M 40 0 ≤ 6 := by rw [n0.1]; exact n0.2
  have m1 : 0 ≤ M 40 1 ∧ M 40 1 ≤ 8 := by rw [n1.1]; exact n1.2
  have m2 : (M 40 0).toNat < n := by omega
  unfold f_X1_spotOf letv
  unfold RN at hN
  obtain ⟨q0, q1, -, -, -, q5, -, -, -, -, -, -, -, q13, q14, q15, -⟩ := hN
  have g := q5 b b8 hb
  refine spot_P (n := n) (M := M) (w := wh A b) hf b8 m0 m1 ?_ (fun p p6 => ⟨(q13 p p6).1, ?_⟩) (fun t t8 => ⟨(q14 t t8).1, ?_⟩) (M 40 0).toNat 0 n (Nat.zero_add _) m2 (fun u hu => absurd hu (Nat.not_lt_zero u))
  · unfold wh
    by_cases c : A (59 + 10 * b) = 1
    · rw [if_pos c]; exact Or.inl rfl
    · rw [if_neg c, n0.1, n1.1]; exact Or.inr (q15 b b8 hb c)
  · refine ((q13 p p6).2 b b8).trans ?_
    unfold wh
    by_cases c : A (59 + 10 * b) = 1
    · rw [if_pos c]; exact ⟨fun q => absurd c q.2.1, fun q => by omega⟩
    · rw [if_neg c]; exact ⟨fun q => q.2.2, fun q => ⟨hb, c, q⟩⟩
  · refine ((q14 t t8).2 b b8).trans ?_
    unfold wh
    by_cases c : A (59 + 10 * b) = 1
    · rw [if_pos c]; exact ⟨fun q => absurd c q.2.1, fun q => by omega⟩
    · rw [if_neg c]; exact ⟨fun q => q.2.2, fun q => ⟨hb, c, q⟩⟩
end PSPOT

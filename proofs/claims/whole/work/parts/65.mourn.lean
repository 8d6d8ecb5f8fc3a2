section PMOURN
variable {n : Nat} {M : JMem}
theorem RN.mourn {N N' : JV} {A A' : Nat → Int} {c : Nat} (h : RN N A) (c8 : c < 8) (cb : (c : Int) < A 2) (hp : 0 < A 0) (he : A (59 + 10 * c) = 1) (hN : ∀ j k : Nat, j < 8 → ¬ (j = 0 ∧ k = 3) → ¬ (j = 3 ∧ k = 0) → N' j k = N j k) (hx : S8 (N' 0 3) ∧ ∀ b : Nat, b < 8 → bit (N' 0 3) b = (bit (N 0 3) b && decide (b ≠ c))) (hy : S8 (N' 3 0) ∧ ∀ b : Nat, b < 8 → bit (N' 3 0) b = (bit (N 3 0) b || decide (b = c)))
    (ea : ∀ k : Nat, k ≠ 59 + 10 * c → k ≠ 63 + 10 * c → k ≠ 65 + 10 * c → A' k = A k) (a1 : A' (59 + 10 * c) = 0) (a2 : A' (63 + 10 * c) = 0) : RN N' A' := by
  have e1 : N' 1 = N 1 := funext fun k => hN 1 k (by omega) (by omega) (by omega)
  have e2 : N' 2 = N 2 := funext fun k => hN 2 k (by omega) (by omega) (by omega)
  have e4 : N' 4 = N 4 := funext fun k => hN 4 k (by omega) (by omega) (by omega)
  have e5 : N' 5 = N 5 := funext fun k => hN 5 k (by omega) (by omega) (by omega)
  unfold RN at h ⊢
  obtain ⟨q0, q1, ⟨a2', q2⟩, q3, ⟨a4, q4⟩, q5, ⟨a6, q6⟩, q7, q8, q9, q10, q11, q12, q13, q14, q15, q16⟩ := h
  rw [hN 0 0 (by omega) (by omega) (by omega), hN 0 1 (by omega) (by omega) (by omega), hN 0 2 (by omega) (by omega) (by omega), hN 0 4 (by omega) (by omega) (by omega), e1, e2, e4, e5, ea 0 (by omega) (by omega) (by omega), ea 1 (by omega) (by omega) (by omega), ea 2 (by omega) (by omega) (by omega), ea 4 (by omega) (by omega) (by omega), ea 5 (by omega) (by omega) (by omega), ea 6 (by omega) (by omega) (by omega)]
  refine ⟨q0, q1, ⟨a2', fun b b8 => ?_⟩, fun b b8 => ?_, ⟨hx.1, fun b b8 => ?_⟩, fun b b8 => ?_, ⟨a6, fun t t8 => ?_⟩, fun t t8 => ?_, fun b b8 => ?_, fun b b8 => ?_, q10, q11, q12, fun p p6 => ?_, fun t t8 => ⟨(q14 t t8).1, fun b b8 => ?_⟩, fun b b8 => ?_, fun t t8 b b8 => ?_⟩
  · rw [ea _ (by omega) (by omega) (by omega)]; exact q2 b b8
  · rw [ea _ (by omega) (by omega) (by omega)]; exact q3 b b8
  · rw [hx.2 b b8]
    by_cases e : b = c
    · subst e
      rw [a1]; simp
    · rw [ea (59 + 10 * b) (by omega) (by omega) (by omega), decide_eq_true (show b ≠ c from e), Bool.and_true]; exact q4 b b8
  · by_cases e : b = c
    · subst e; exact fun _ => Or.inl a1
    · rw [ea (59 + 10 * b) (by omega) (by omega) (by omega)]; exact q5 b b8
  · rw [ea _ (by omega) (by omega) (by omega)]; exact q6 t t8
  · rw [ea _ (by omega) (by omega) (by omega)]; exact q7 t t8
  · rw [ea _ (by omega) (by omega) (by omega)]; exact q8 b b8
  · rw [ea _ (by omega) (by omega) (by omega)]; exact q9 b b8
  · by_cases ep : p = 0
    · subst ep
      refine ⟨hy.1, fun b b8 => ?_⟩
      rw [hy.2 b b8]
      by_cases e : b = c
      · subst e
        rw [a1, a2]; simp; exact cb
      · rw [ea (59 + 10 * b) (by omega) (by omega) (by omega), ea (63 + 10 * b) (by omega) (by omega) (by omega), decide_eq_false e, Bool.or_false]; exact (q13 0 p6).2 b b8
    · rw [hN 3 p (by omega) (by omega) (by omega)]
      refine ⟨(q13 p p6).1, fun b b8 => ?_⟩
      by_cases e : b = c
      · subst e
        rw [(q13 p p6).2 b b8, a1, a2, he]
        exact ⟨fun q => absurd rfl q.2.1, fun q => by omega⟩
      · rw [ea (59 + 10 * b) (by omega) (by omega) (by omega), ea (63 + 10 * b) (by omega) (by omega) (by omega)]; exact (q13 p p6).2 b b8
  · by_cases e : b = c
    · subst e
      rw [(q14 t t8).2 b b8, a1, a2, he]
      exact ⟨fun q => absurd rfl q.2.1, fun q => by omega⟩
    · rw [ea (59 + 10 * b) (by omega) (by omega) (by omega), ea (63 + 10 * b) (by omega) (by omega) (by omega)]; exact (q14 t t8).2 b b8
  · by_cases e : b = c
    · subst e
      rw [a1, a2]
      exact fun _ _ => Or.inl ⟨by omega, hp⟩
    · rw [ea (59 + 10 * b) (by omega) (by omega) (by omega), ea (63 + 10 * b) (by omega) (by omega) (by omega)]; exact q15 b b8
  · rw [ea (64 + 10 * b) (by omega) (by omega) (by omega), ea (11 + 6 * t) (by omega) (by omega) (by omega), ea (10 + 6 * t) (by omega) (by omega) (by omega)]; exact q16 t t8 b b8
end PMOURN

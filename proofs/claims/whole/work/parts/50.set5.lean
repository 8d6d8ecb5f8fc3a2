section PSET5
variable {n : Nat} {M : JMem}
theorem RN.ticket {N N' : JV} {A : Nat → Int} {c : Nat} {y : Int} (h : RN N A) (c8 : c < 8) (hN : ∀ j k : Nat, j < 8 → ¬ (j = 1 ∧ k = c) → N' j k = N j k) (hv : N' 1 c = y) (hy : S8 y ∧ ∀ t : Nat, t < 8 → A 1 ≤ (t : Int) → bit y t = false) : RN N' (upA A (61 + 10 * c) y) := by
  have e2 : N' 2 = N 2 := funext fun k => hN 2 k (by omega) (by omega)
  have e3 : N' 3 = N 3 := funext fun k => hN 3 k (by omega) (by omega)
  have e4 : N' 4 = N 4 := funext fun k => hN 4 k (by omega) (by omega)
  have e5 : N' 5 = N 5 := funext fun k => hN 5 k (by omega) (by omega)
  have ea : ∀ k : Nat, k ≠ 61 + 10 * c → upA A (61 + 10 * c) y k = A k := fun k hk => upA_ne hk
  unfold RN at h ⊢
  obtain ⟨q0, q1, ⟨a2, q2⟩, q3, ⟨a4, q4⟩, q5, ⟨a6, q6⟩, q7, q8, q9, q10, q11, q12, q13, q14, q15, q16⟩ := h
  rw [hN 0 0 (by omega) (by omega), hN 0 1 (by omega) (by omega), hN 0 2 (by omega) (by omega), hN 0 3 (by omega) (by omega), hN 0 4 (by omega) (by omega), e2, e3, e4, e5, ea 0 (by omega), ea 1 (by omega), ea 2 (by omega), ea 4 (by omega), ea 5 (by omega), ea 6 (by omega)]
  refine ⟨q0, q1, ⟨a2, fun b b8 => ?_⟩, fun b b8 => ?_, ⟨a4, fun b b8 => ?_⟩, fun b b8 => ?_, ⟨a6, fun t t8 => ?_⟩, fun t t8 => ?_, fun b b8 => ?_, fun b b8 => ?_, q10, q11, q12, fun p p6 => ⟨(q13 p p6).1, fun b b8 => ?_⟩, fun t t8 => ⟨(q14 t t8).1, fun b b8 => ?_⟩, fun b b8 => ?_, fun t t8 b b8 => ?_⟩
  · rw [ea _ (by omega)]; exact q2 b b8
  · rw [ea _ (by omega)]; exact q3 b b8
  · rw [ea _ (by omega)]; exact q4 b b8
  · rw [ea _ (by omega)]; exact q5 b b8
  · rw [ea _ (by omega)]; exact q6 t t8
  · rw [ea _ (by omega)]; exact q7 t t8
  · by_cases e : b = c
    · subst e
      rw [hv, upA_same]
      exact fun _ => ⟨rfl, hy⟩
    · rw [hN 1 b (by omega) (by omega), ea _ (by omega)]; exact q8 b b8
  · rw [ea _ (by omega)]; exact q9 b b8
  · rw [ea (59 + 10 * b) (by omega), ea (63 + 10 * b) (by omega)]; exact (q13 p p6).2 b b8
  · rw [ea (59 + 10 * b) (by omega), ea (63 + 10 * b) (by omega)]; exact (q14 t t8).2 b b8
  · rw [ea (59 + 10 * b) (by omega), ea (63 + 10 * b) (by omega)]; exact q15 b b8
  · rw [ea (64 + 10 * b) (by omega), ea (11 + 6 * t) (by omega), ea (10 + 6 * t) (by omega)]; exact q16 t t8 b b8
theorem RN.out {N N' : JV} {A : Nat → Int} {c : Nat} {x y : Int} (h : RN N A) (c8 : c < 8) (cb : (c : Int) < A 2) (hN : ∀ j k : Nat, j < 8 → ¬ (j = 0 ∧ k = 2) → N' j k = N j k) (hv : N' 0 2 = x) (hx : S8 x ∧ ∀ b : Nat, b < 8 → bit x b = (bit (N 0 2) b ^^ decide (b = c))) (hy : (bit (N 0 2) c = true ∧ y = 0) ∨ (bit (N 0 2) c = false ∧ y = 1)) : RN N' (upA A (58 + 10 * c) y) := by
  have e1 : N' 1 = N 1 := funext fun k => hN 1 k (by omega) (by omega)
  have e2 : N' 2 = N 2 := funext fun k => hN 2 k (by omega) (by omega)
  have e3 : N' 3 = N 3 := funext fun k => hN 3 k (by omega) (by omega)
  have e4 : N' 4 = N 4 := funext fun k => hN 4 k (by omega) (by omega)
  have e5 : N' 5 = N 5 := funext fun k => hN 5 k (by omega) (by omega)
  have ea : ∀ k : Nat, k ≠ 58 + 10 * c → upA A (58 + 10 * c) y k = A k := fun k hk => upA_ne hk
  unfold RN at h ⊢
  obtain ⟨q0, q1, ⟨a2, q2⟩, q3, ⟨a4, q4⟩, q5, ⟨a6, q6⟩, q7, q8, q9, q10, q11, q12, q13, q14, q15, q16⟩ := h
  rw [hN 0 0 (by omega) (by omega), hN 0 1 (by omega) (by omega), hv, hN 0 3 (by omega) (by omega), hN 0 4 (by omega) (by omega), e1, e2, e3, e4, e5, ea 0 (by omega), ea 1 (by omega), ea 2 (by omega), ea 4 (by omega), ea 5 (by omega), ea 6 (by omega)]
  refine ⟨q0, q1, ⟨hx.1, fun b b8 => ?_⟩, fun b b8 => ?_, ⟨a4, fun b b8 => ?_⟩, fun b b8 => ?_, ⟨a6, fun t t8 => ?_⟩, fun t t8 => ?_, fun b b8 => ?_, fun b b8 => ?_, q10, q11, q12, fun p p6 => ⟨(q13 p p6).1, fun b b8 => ?_⟩, fun t t8 => ⟨(q14 t t8).1, fun b b8 => ?_⟩, fun b b8 => ?_, fun t t8 b b8 => ?_⟩
  · rw [hx.2 b b8]
    by_cases e : b = c
    · subst e
      rw [upA_same]
      rcases hy with ⟨g, rfl⟩ | ⟨g, rfl⟩
      · rw [g]; simp
      · rw [g]; simp; exact cb
    · rw [ea _ (by omega), decide_eq_false e, Bool.xor_false]; exact q2 b b8
  · by_cases e : b = c
    · subst e
      rw [upA_same]
      exact fun _ => hy.imp (fun g => g.2) (fun g => g.2)
    · rw [ea _ (by omega)]; exact q3 b b8
  · rw [ea _ (by omega)]; exact q4 b b8
  · rw [ea _ (by omega)]; exact q5 b b8
  · rw [ea _ (by omega)]; exact q6 t t8
  · rw [ea _ (by omega)]; exact q7 t t8
  · rw [ea _ (by omega)]; exact q8 b b8
  · rw [ea _ (by omega)]; exact q9 b b8
  · rw [ea (59 + 10 * b) (by omega), ea (63 + 10 * b) (by omega)]; exact (q13 p p6).2 b b8
  · rw [ea (59 + 10 * b) (by omega), ea (63 + 10 * b) (by omega)]; exact (q14 t t8).2 b b8
  · rw [ea (59 + 10 * b) (by omega), ea (63 + 10 * b) (by omega)]; exact q15 b b8
  · rw [ea (64 + 10 * b) (by omega), ea (11 + 6 * t) (by omega), ea (10 + 6 * t) (by omega)]; exact q16 t t8 b b8
theorem RN.halt {N N' : JV} {A : Nat → Int} {c : Nat} {x y : Int} (h : RN N A) (c8 : c < 8) (cb : (c : Int) < A 1) (hN : ∀ j k : Nat, j < 8 → ¬ (j = 0 ∧ k = 4) → N' j k = N j k) (hv : N' 0 4 = x) (hx : S8 x ∧ ∀ b : Nat, b < 8 → bit x b = (bit (N 0 4) b ^^ decide (b = c))) (hy : (bit (N 0 4) c = true ∧ y = 0) ∨ (bit (N 0 4) c = false ∧ y = 1)) : RN N' (upA A (13 + 6 * c) y) := by
  have e1 : N' 1 = N 1 := funext fun k => hN 1 k (by omega) (by omega)
  have e2 : N' 2 = N 2 := funext fun k => hN 2 k (by omega) (by omega)
  have e3 : N' 3 = N 3 := funext fun k => hN 3 k (by omega) (by omega)
  have e4 : N' 4 = N 4 := funext fun k => hN 4 k (by omega) (by omega)
  have e5 : N' 5 = N 5 := funext fun k => hN 5 k (by omega) (by omega)
  have ea : ∀ k : Nat, k ≠ 13 + 6 * c → upA A (13 + 6 * c) y k = A k := fun k hk => upA_ne hk
  unfold RN at h ⊢
  obtain ⟨q0, q1, ⟨a2, q2⟩, q3, ⟨a4, q4⟩, q5, ⟨a6, q6⟩, q7, q8, q9, q10, q11, q12, q13, q14, q15, q16⟩ := h
  rw [hN 0 0 (by omega) (by omega), hN 0 1 (by omega) (by omega), hv, hN 0 3 (by omega) (by omega), hN 0 2 (by omega) (by omega), e1, e2, e3, e4, e5, ea 0 (by omega), ea 1 (by omega), ea 2 (by omega), ea 4 (by omega), ea 5 (by omega), ea 6 (by omega)]
  refine ⟨q0, q1, ⟨a2, fun b b8 => ?_⟩, fun b b8 => ?_, ⟨a4, fun b b8 => ?_⟩, fun b b8 => ?_, ⟨hx.1, fun t t8 => ?_⟩, fun t t8 => ?_, fun b b8 => ?_, fun b b8 => ?_, q10, q11, q12, fun p p6 => ⟨(q13 p p6).1, fun b b8 => ?_⟩, fun t t8 => ⟨(q14 t t8).1, fun b b8 => ?_⟩, fun b b8 => ?_, fun t t8 b b8 => ?_⟩
  · rw [ea _ (by omega)]; exact q2 b b8
  · rw [ea _ (by omega)]; exact q3 b b8
  · rw [ea _ (by omega)]; exact q4 b b8
  · rw [ea _ (by omega)]; exact q5 b b8
  · rw [hx.2 t t8]
    by_cases e : t = c
    · subst e
      rw [upA_same]
      rcases hy with ⟨g, rfl⟩ | ⟨g, rfl⟩
      · rw [g]; simp
      · rw [g]; simp; exact cb
    · rw [ea _ (by omega), decide_eq_false e, Bool.xor_false]; exact q6 t t8
  · by_cases e : t = c
    · subst e
      rw [upA_same]
      exact fun _ => hy.imp (fun g => g.2) (fun g => g.2)
    · rw [ea _ (by omega)]; exact q7 t t8
  · rw [ea _ (by omega)]; exact q8 b b8
  · rw [ea _ (by omega)]; exact q9 b b8
  · rw [ea (59 + 10 * b) (by omega), ea (63 + 10 * b) (by omega)]; exact (q13 p p6).2 b b8
  · rw [ea (59 + 10 * b) (by omega), ea (63 + 10 * b) (by omega)]; exact (q14 t t8).2 b b8
  · rw [ea (59 + 10 * b) (by omega), ea (63 + 10 * b) (by omega)]; exact q15 b b8
  · rw [ea (64 + 10 * b) (by omega), ea (11 + 6 * t) (by omega), ea (10 + 6 * t) (by omega)]; exact q16 t t8 b b8
end PSET5

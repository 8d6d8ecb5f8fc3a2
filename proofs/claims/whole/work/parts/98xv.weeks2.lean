section PWEEKS2
variable {n : Nat} {M X : JMem}
theorem q_cpW : ∀ (d i q : Nat) (X : JMem), i + d = 496 → d < q → ∃ X1, f_X12_weeks_L103 n q (i : Int) X = f_X12_weeks_L132 n X1 ∧ (∀ c : Nat, c ≠ 168 → X1 c = X c) ∧ ∀ u : Nat, X1 168 u = if i ≤ u ∧ u < 496 then X 168 (2016 + u) else X 168 u := by
  intro d
  induction d with
  | zero =>
    intro i q X hi hq
    obtain ⟨q, rfl⟩ : ∃ z, q = z + 1 := ⟨q - 1, by omega⟩
    obtain rfl : i = 496 := by omega
    exact ⟨X, by rw [f_X12_weeks_L103, if_pos (by decide)], fun _ _ => rfl, fun u => by rw [if_neg (by omega)]⟩
  | succ d ih =>
    intro i q X hi hq
    obtain ⟨q, rfl⟩ : ∃ z, q = z + 1 := ⟨q - 1, by omega⟩
    obtain ⟨X1, r1, r2, r3⟩ := ih (i + 1) q (jup X 168 i (X 168 (2016 + i))) (by omega) (by omega)
    refine ⟨X1, ?_, fun c hc => by rw [r2 c hc, jup_cell hc], fun u => ?_⟩
    · rw [f_X12_weeks_L103, if_neg (by rw [jwN (by omega), show jw 496 = 496 by decide]; omega), show (2016 : Int) + (i : Int) = ((2016 + i : Nat) : Int) by omega, chk_pos (jinN (by omega) (by omega)), chk_pos (jinN (by omega) (by omega)), jwT (by omega), jwT (by omega), letm_ap, letv_ap, show (i : Int) + 1 = ((i + 1 : Nat) : Int) by omega]
      exact r1
    · rw [r3 u, jup_if, jup_if, if_neg (show ¬ 2016 + u = i by omega)]
      by_cases e : u = i
      · rw [if_neg (by omega), if_pos e, if_pos (by omega), e]
      · by_cases c : i + 1 ≤ u ∧ u < 496
        · rw [if_pos c, if_pos (by omega)]
        · rw [if_neg c, if_neg e, if_neg (by omega)]
/-- what was read is a park's WEEKS -/
theorem WQ.rw {nb nt np : Int} {W : JV} {A : Nat → Int} {r st : Nat} (h : WQ nb nt np M X r 0 st) (h0 : W 0 0 = M 34 0) (h2 : W 0 2 = M 34 2) (hW : ∀ k : Nat, k < 60 → W 1 k = M 35 k ∧ W 2 k = M 36 k ∧ W 3 k = M 37 k ∧ W 4 k = M 38 k) (h7 : A 7 = X 168 2023) (hA : ∀ i : Nat, 136 ≤ i → i < 496 → A i = X 168 (2016 + i)) : RW nb nt np W A := by
  obtain ⟨⟨q1, q2, q3, q4, q5, q6, q7⟩, ⟨b1, b2, b3⟩, hrow, h175, hSQ⟩ := h
  have tp := fun (k : Nat) (hk : k < r) (ho : opw (M 35) k) => hSQ.top hk ho
  obtain ⟨s1, s2, s3, s4, s5, s6⟩ := hSQ
  have r60 : r ≤ 60 := by omega
  have lt : ∀ k : Nat, (k : Int) < W 0 2 → k < r := fun k hk => by rw [h2, q2] at hk; omega
  have ow : ∀ k : Nat, k < 60 → (opens W k ↔ opw (M 35) k) := fun k hk => by unfold opens opw; rw [(hW k hk).1]
  have a0 : ∀ k : Nat, k < 60 → A (136 + 6 * k) = X 168 (2152 + 6 * k) ∧ A (137 + 6 * k) = X 168 (2153 + 6 * k) ∧ A (138 + 6 * k) = X 168 (2154 + 6 * k) ∧ A (140 + 6 * k) = X 168 (2156 + 6 * k) ∧ A (141 + 6 * k) = X 168 (2157 + 6 * k) := fun k hk =>
    ⟨by rw [hA _ (by omega) (by omega), show 2016 + (136 + 6 * k) = 2152 + 6 * k by omega], by rw [hA _ (by omega) (by omega), show 2016 + (137 + 6 * k) = 2153 + 6 * k by omega], by rw [hA _ (by omega) (by omega), show 2016 + (138 + 6 * k) = 2154 + 6 * k by omega], by rw [hA _ (by omega) (by omega), show 2016 + (140 + 6 * k) = 2156 + 6 * k by omega], by rw [hA _ (by omega) (by omega), show 2016 + (141 + 6 * k) = 2157 + 6 * k by omega]⟩
  refine Or.inr ⟨by rw [h0]; exact q1, by rw [h7, h2, q3, q2], by rw [h2]; omega, by rw [h2]; omega, fun k hk hkr => ?_, fun k hk hkr ho => ?_, fun e he her h25 => ?_, fun k j hkj hj hkr ho hoj => ?_⟩
  · have := hrow k (lt k hkr)
    unfold Wrow rowrel at this
    unfold Rrow
    obtain ⟨w1, w2, w3, -⟩ := hW k hk
    obtain ⟨c0, c1, c2, -, c5⟩ := a0 k hk
    rw [w1, w2, w3, c0, c1, c2, c5]
    simp only [or_assoc] at this
    exact this
  · have kr := lt k hkr
    rcases s3 k kr ((ow k hk).1 ho) with ⟨i, hi, -⟩ | ⟨e, e1, e2, e3, e4, e5, e6⟩
    · omega
    · exact ⟨e, by rw [(hW k hk).2.2.2]; exact e1, by rw [(a0 k hk).2.2.2.1]; exact e2, e3, by rw [h2, q2]; omega, by rw [(hW e (by omega)).1]; exact e5, by rw [(hW e (by omega)).2.2.2]; exact e6⟩
  · rw [(hW e he).1] at h25
    obtain ⟨k, k1, k2, k3, k4, k5⟩ := s4 e (lt e her) h25
    exact ⟨k, by rw [(hW e he).2.2.2]; exact k1, by rw [(a0 e he).2.2.2.1]; exact k2, k3, (ow k (by omega)).2 k4, by rw [(hW k (by omega)).2.2.2]; exact k5⟩
  · have kr := lt k hkr
    rw [(hW k (by omega)).2.2.2] at hj ⊢
    have := tp k kr ((ow k (by omega)).1 ho)
    have jr : j < r := by omega
    rw [(hW j (by omega)).2.2.2]
    exact s5 k j hkj hj kr ((ow k (by omega)).1 ho) ((ow j (by omega)).1 hoj)
end PWEEKS2

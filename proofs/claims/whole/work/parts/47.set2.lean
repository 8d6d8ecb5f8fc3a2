section PSET2
variable {n : Nat} {M : JMem}
theorem RK.congr2 {P P' : JV} {K : Nat → Int} (h : RK P K) (h0 : P' 0 0 = P 0 0 ∧ P' 0 1 = P 0 1 ∧ P' 0 2 = P 0 2 ∧ P' 0 4 = P 0 4) (h1 : ∀ k : Nat, P' 1 k = P 1 k ∧ P' 2 k = P 2 k ∧ P' 3 k = P 3 k) : RK P' K := by
  unfold RK at h ⊢
  rw [h0.1, h0.2.1, h0.2.2.1, h0.2.2.2, show P' 1 = P 1 from funext fun k => (h1 k).1, show P' 2 = P 2 from funext fun k => (h1 k).2.1, show P' 3 = P 3 from funext fun k => (h1 k).2.2]
  exact h
theorem RP.congrP {P P' : JV} {A : Nat → Int} (h : RP P A) (hP : ∀ j k : Nat, j < 12 → P' j k = P j k) : RP P' A := by
  unfold RP at h ⊢
  rw [hP 0 0 (by omega), hP 0 1 (by omega), hP 0 2 (by omega), hP 0 3 (by omega), show P' 4 = P 4 from funext fun k => hP 4 k (by omega), show P' 5 = P 5 from funext fun k => hP 5 k (by omega), show P' 6 = P 6 from funext fun k => hP 6 k (by omega), show P' 7 = P 7 from funext fun k => hP 7 k (by omega), show P' 8 = P 8 from funext fun k => hP 8 k (by omega), show P' 9 = P 9 from funext fun k => hP 9 k (by omega), show P' 10 = P 10 from funext fun k => hP 10 k (by omega), show P' 11 = P 11 from funext fun k => hP 11 k (by omega)]
  exact h
theorem RN.congrN {N N' : JV} {A : Nat → Int} (h : RN N A) (hN : ∀ j k : Nat, j < 8 → N' j k = N j k) : RN N' A := by
  unfold RN at h ⊢
  rw [hN 0 0 (by omega), hN 0 1 (by omega), hN 0 2 (by omega), hN 0 3 (by omega), hN 0 4 (by omega), show N' 1 = N 1 from funext fun k => hN 1 k (by omega), show N' 2 = N 2 from funext fun k => hN 2 k (by omega), show N' 3 = N 3 from funext fun k => hN 3 k (by omega), show N' 4 = N 4 from funext fun k => hN 4 k (by omega), show N' 5 = N 5 from funext fun k => hN 5 k (by omega)]
  exact h
/-- one number of the park anew on either side, and it is well -/
theorem JR.set (h : JR M) {a k q : Nat} {v w : Int} (ha : (a = 40 ∧ k = 3) ∨ (44 ≤ a ∧ a < 60)) (hq : q < 136) (hq7 : q ≠ 7) (p1 : RP (blk (jup M a k v) 40 12) (upA (M 168) q w)) (p2 : RN (blk (jup M a k v) 52 8) (upA (M 168) q w)) : JR (jup (jup (jup (jup M a k v) 0 0 0) 168 q w) 167 2 0) := by
  have hc := h.cur
  obtain ⟨g1, g2, g3, g4, g5, g6⟩ := h
  have hm : ∀ b : Nat, b ≠ a → b ≠ 0 → b ≠ 168 → b ≠ 167 → jup (jup (jup (jup M a k v) 0 0 0) 168 q w) 167 2 0 b = M b := fun b b1 b2 b3 b4 => by rw [jup_cell b4, jup_cell b3, jup_cell b2, jup_cell b1]
  have ht : jwt (jup (jup (jup (jup M a k v) 0 0 0) 168 q w) 167 2 0) = jwt M := by
    funext t
    unfold jwt
    rw [hm 3 (by omega) (by omega) (by omega) (by omega), hm 4 (by omega) (by omega) (by omega) (by omega), hm 5 (by omega) (by omega) (by omega) (by omega), hm 6 (by omega) (by omega) (by omega) (by omega)]
  have h0 : ∀ j : Nat, j ≠ 0 → jup (jup (jup (jup M a k v) 0 0 0) 168 q w) 167 2 0 0 j = M 0 j := fun j hj => by
    rw [jup_cell (by omega), jup_cell (by omega), jup_at, if_neg (by omega), jup_at, if_neg (by omega)]
  have h67 : ∀ j : Nat, j ≠ 2 → jup (jup (jup (jup M a k v) 0 0 0) 168 q w) 167 2 0 167 j = M 167 j := fun j hj => by
    rw [jup_at, if_neg (by omega), jup_cell (by omega), jup_cell (by omega), jup_cell (by omega)]
  have h168 : jup (jup (jup (jup M a k v) 0 0 0) 168 q w) 167 2 0 168 = upA (M 168) q w := by
    rw [jup_cell (by omega), jup_at_row, jup_cell (by omega), jup_cell (by omega)]
  have h40 : ∀ j : Nat, j ≠ 3 → jup (jup (jup (jup M a k v) 0 0 0) 168 q w) 167 2 0 40 j = M 40 j := fun j hj => by
    rw [jup_cell (by omega), jup_cell (by omega), jup_cell (by omega), jup_at, if_neg (by omega)]
  have hb : ∀ b z : Nat, 40 ≤ b → b + z ≤ 66 → 0 < z → blk (jup (jup (jup (jup M a k v) 0 0 0) 168 q w) 167 2 0) b z = blk (jup M a k v) b z := fun b z b1 b2 b3 => blk_congr b3 fun j hj => by rw [jup_cell (by omega), jup_cell (by omega), jup_cell (by omega)]
  refine JR.of ⟨?_, ?_, ?_⟩ ?_ ?_ ?_ ?_ ?_ ?_ ?_ ?_
  · rw [show jup (jup (jup (jup M a k v) 0 0 0) 168 q w) 167 2 0 0 0 = 0 by rw [jup_cell (by omega), jup_cell (by omega), jup_at, if_pos ⟨rfl, rfl⟩], show jup (jup (jup (jup M a k v) 0 0 0) 168 q w) 167 2 0 167 2 = 0 from by rw [jup_at, if_pos ⟨rfl, rfl⟩]]
  · rw [h0 1 (by omega), h67 3 (by omega)]; exact g1.2.1
  · rw [h0 2 (by omega), h67 4 (by omega)]; exact g1.2.2
  · rw [ht, hm 7 (by omega) (by omega) (by omega) (by omega), hm 8 (by omega) (by omega) (by omega) (by omega), hm 170 (by omega) (by omega) (by omega) (by omega), hm 171 (by omega) (by omega) (by omega) (by omega), hm 172 (by omega) (by omega) (by omega) (by omega)]; exact g2
  · rw [hm 9 (by omega) (by omega) (by omega) (by omega), hm 10 (by omega) (by omega) (by omega) (by omega), hm 11 (by omega) (by omega) (by omega) (by omega), hm 173 (by omega) (by omega) (by omega) (by omega)]
    unfold Rtxt at g3 ⊢
    rw [h67 10 (by omega), h67 16 (by omega), h67 17 (by omega)]
    exact g3
  · rw [hm 86 (by omega) (by omega) (by omega) (by omega), hm 87 (by omega) (by omega) (by omega) (by omega), hm 185 (by omega) (by omega) (by omega) (by omega), h67 37 (by omega)]; exact g4
  · rw [h168, hb 40 12 (by omega) (by omega) (by omega)]; exact p1
  · rw [h168, hb 52 8 (by omega) (by omega) (by omega)]; exact p2
  · rw [hb 40 12 (by omega) (by omega) (by omega), hm 169 (by omega) (by omega) (by omega) (by omega)]
    refine RK.congr2 hc.2.2.1 ⟨?_, ?_, ?_, ?_⟩ (fun k => ⟨?_, ?_, ?_⟩)
    · show jup M a _ v 40 0 = M 40 0; rw [jup_at, if_neg (by omega)]
    · show jup M a _ v 40 1 = M 40 1; rw [jup_at, if_neg (by omega)]
    · show jup M a _ v 40 2 = M 40 2; rw [jup_at, if_neg (by omega)]
    · show jup M a _ v 40 4 = M 40 4; rw [jup_at, if_neg (by omega)]
    · show jup M a _ v 41 k = M 41 k; rw [jup_at, if_neg (by omega)]
    · show jup M a _ v 42 k = M 42 k; rw [jup_at, if_neg (by omega)]
    · show jup M a _ v 43 k = M 43 k; rw [jup_at, if_neg (by omega)]
  · rw [h168, h40 0 (by omega), h40 1 (by omega), h40 2 (by omega), blk_congr (by decide) (M := M) (a := 60) (z := 5) (fun j hj => hm _ (by omega) (by omega) (by omega) (by omega))]
    exact RW.congr2 hc.2.2.2 (upA_ne (by omega)) (fun k j hk hj => upA_ne (by omega))
  · have g7 : Rmrk (jup (jup M a k v) 0 0 0) := g6.congr (by rw [jup_at, if_neg (by omega), jup_at, if_neg (by omega)]) (by rw [jup_cell (by omega), jup_cell (by omega)]) (fun b q1 q2 q3 => by rw [jup_cell (by omega), jup_cell (by omega)])
    exact Rmrk.congr (g7.upd (by omega)) rfl rfl (fun b q1 q2 q3 => jup_cell q3)
end PSET2

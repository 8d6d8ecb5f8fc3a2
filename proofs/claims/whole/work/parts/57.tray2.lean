section PTRAY2
variable {n : Nat} {M : JMem}
/-- one number of a tray anew on either side -/
theorem JR.tset (h : JR M) {t k : Nat} (t4 : t < 4) (k60 : k < 60) (v : Int) : JR (jup (jup (jup (jup M (3 + t) k v) 0 0 0) 172 (60 * t + k) v) 167 2 0) := by
  obtain ⟨g1, g2, g3, g4, g5, g6⟩ := h
  have hm : ∀ b : Nat, b ≠ 3 + t → b ≠ 0 → b ≠ 172 → b ≠ 167 → jup (jup (jup (jup M (3 + t) k v) 0 0 0) 172 (60 * t + k) v) 167 2 0 b = M b := fun b b1 b2 b3 b4 => by rw [jup_cell b4, jup_cell b3, jup_cell b2, jup_cell b1]
  have h0 : ∀ j : Nat, j ≠ 0 → jup (jup (jup (jup M (3 + t) k v) 0 0 0) 172 (60 * t + k) v) 167 2 0 0 j = M 0 j := fun j hj => by
    rw [jup_cell (by omega), jup_cell (by omega), jup_at, if_neg (by omega), jup_at, if_neg (by omega)]
  have h67 : ∀ j : Nat, j ≠ 2 → jup (jup (jup (jup M (3 + t) k v) 0 0 0) 172 (60 * t + k) v) 167 2 0 167 j = M 167 j := fun j hj => by
    rw [jup_at, if_neg (by omega), jup_cell (by omega), jup_cell (by omega), jup_cell (by omega)]
  refine ⟨⟨?_, ?_, ?_⟩, ?_, ?_, ?_, ?_, ?_⟩
  · rw [show jup (jup (jup (jup M (3 + t) k v) 0 0 0) 172 (60 * t + k) v) 167 2 0 0 0 = 0 by rw [jup_cell (by omega), jup_cell (by omega), jup_at, if_pos ⟨rfl, rfl⟩], show jup (jup (jup (jup M (3 + t) k v) 0 0 0) 172 (60 * t + k) v) 167 2 0 167 2 = 0 from by rw [jup_at, if_pos ⟨rfl, rfl⟩]]
  · rw [h0 1 (by omega), h67 3 (by omega)]; exact g1.2.1
  · rw [h0 2 (by omega), h67 4 (by omega)]; exact g1.2.2
  · rw [hm 7 (by omega) (by omega) (by omega) (by omega), hm 8 (by omega) (by omega) (by omega) (by omega), hm 170 (by omega) (by omega) (by omega) (by omega), hm 171 (by omega) (by omega) (by omega) (by omega)]
    intro u u4
    refine (g2 u u4).imp id fun ⟨a1, a2, a3, a4, a5, a6, a7⟩ => ⟨a1, a2, a3, a4, a5, a6, fun i i60 hi => ?_⟩
    rw [jwt_eq u u4, jup_cell (show 3 + u ≠ 167 by omega), jup_cell (show 3 + u ≠ 172 by omega), jup_cell (show 3 + u ≠ 0 by omega), jup_cell (show 172 ≠ 167 by omega), jup_at_row, jup_at]
    by_cases c : u = t ∧ i = k
    · obtain ⟨rfl, rfl⟩ := c
      rw [if_pos ⟨rfl, rfl⟩, upA_same]
    · rw [if_neg (by omega), upA_ne (by omega), jup_cell (show 172 ≠ 0 by omega), jup_cell (show 172 ≠ 3 + t by omega), ← jwt_eq (M := M) u u4]
      exact a7 i i60 hi
  · rw [hm 9 (by omega) (by omega) (by omega) (by omega), hm 10 (by omega) (by omega) (by omega) (by omega), hm 11 (by omega) (by omega) (by omega) (by omega), hm 173 (by omega) (by omega) (by omega) (by omega)]
    unfold Rtxt at g3 ⊢
    rw [h67 10 (by omega), h67 16 (by omega), h67 17 (by omega)]
    exact g3
  · rw [hm 86 (by omega) (by omega) (by omega) (by omega), hm 87 (by omega) (by omega) (by omega) (by omega), hm 185 (by omega) (by omega) (by omega) (by omega), h67 37 (by omega)]; exact g4
  · exact g5.congr (fun j hj => hm _ (by omega) (by omega) (by omega) (by omega)) (fun j hj => hm _ (by omega) (by omega) (by omega) (by omega)) (fun j hj => hm _ (by omega) (by omega) (by omega) (by omega)) (hm _ (by omega) (by omega) (by omega) (by omega)) (hm _ (by omega) (by omega) (by omega) (by omega))
  · have q1 : Rmrk (jup (jup M (3 + t) k v) 0 0 0) := g6.congr (by rw [jup_at, if_neg (by omega), jup_at, if_neg (by omega)]) (by rw [jup_cell (by omega), jup_cell (by omega)]) (fun b q1 q2 q3 => by rw [jup_cell (by omega), jup_cell (by omega)])
    unfold Rmrk at q1 ⊢
    rw [h0 13 (by omega), h67 38 (by omega)]
    unfold Rmrk at g6
    exact ⟨g6.1, g6.2.1, g6.2.2.1, fun i hi hl => (g6.2.2.2 i hi hl).congr (fun j hj => hm _ (by omega) (by omega) (by omega) (by omega)) (fun j hj => hm _ (by omega) (by omega) (by omega) (by omega)) (fun j hj => hm _ (by omega) (by omega) (by omega) (by omega)) (hm _ (by omega) (by omega) (by omega) (by omega)) (hm _ (by omega) (by omega) (by omega) (by omega))⟩
end PTRAY2

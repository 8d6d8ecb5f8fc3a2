section PFRAME
variable {n : Nat} {M : JMem}
/-- cells that an operation on the park that is now must leave as they are -/
def keepC (b : Nat) : Prop := (3 ≤ b ∧ b ≤ 11) ∨ (60 ≤ b ∧ b ≤ 64) ∨ b = 86 ∨ b = 87 ∨ (92 ≤ b ∧ b < 167) ∨ (169 ≤ b ∧ b ≤ 173) ∨ b = 185
/-- THE FRAME: the status is well, the park that is now is well, the rest is as it was -/
theorem JR.frame (h : JR M) {M' : JMem} (hs : Rsta M') (h13 : M' 0 13 = M 0 13) (hk : ∀ b : Nat, keepC b → M' b = M b) (h67 : ∀ j : Nat, (j = 10 ∨ j = 16 ∨ j = 17 ∨ j = 37 ∨ j = 38) → M' 167 j = M 167 j) (hslot : ∀ k : Nat, 504 ≤ k → k < 2016 → M' 168 k = M 168 k)
    (p1 : RP (blk M' 40 12) (M' 168)) (p2 : RN (blk M' 52 8) (M' 168)) (p3 : RK (blk M' 40 12) (M' 169)) (p4 : RW (M' 40 2) (M' 40 1) (M' 40 0) (blk M' 60 5) (M' 168)) : JR M' := by
  obtain ⟨g1, g2, g3, g4, g5, g6⟩ := h
  have kk : ∀ b : Nat, ((3 ≤ b ∧ b ≤ 11) ∨ (60 ≤ b ∧ b ≤ 64) ∨ b = 86 ∨ b = 87 ∨ (92 ≤ b ∧ b < 167) ∨ (169 ≤ b ∧ b ≤ 173) ∨ b = 185) → M' b = M b := hk
  refine JR.of hs ?_ ?_ ?_ p1 p2 p3 p4 ?_
  · rw [show jwt M' = jwt M from funext fun t => by unfold jwt; rw [kk 3 (by omega), kk 4 (by omega), kk 5 (by omega), kk 6 (by omega)], kk 7 (by omega), kk 8 (by omega), kk 170 (by omega), kk 171 (by omega), kk 172 (by omega)]
    exact g2
  · rw [kk 9 (by omega), kk 10 (by omega), kk 11 (by omega), kk 173 (by omega)]
    unfold Rtxt at g3 ⊢
    rw [h67 10 (by omega), h67 16 (by omega), h67 17 (by omega)]
    exact g3
  · rw [kk 86 (by omega), kk 87 (by omega), kk 185 (by omega), h67 37 (by omega)]; exact g4
  · unfold Rmrk at g6 ⊢
    rw [h13, h67 38 (by omega)]
    refine ⟨g6.1, g6.2.1, g6.2.2.1, fun i hi hl => ?_⟩
    have q := g6.2.2.2 i hi hl
    unfold Rpark at q ⊢
    have es : ∀ k : Nat, k < 504 → slot M' (504 * (i + 1)) k = slot M (504 * (i + 1)) k := fun k hk5 => by unfold slot; exact hslot _ (by omega) (by omega)
    rw [blk_congr (by decide) (M := M) (M' := M') (a := 92 + 25 * i) (z := 12) (fun j hj => kk _ (by omega)), blk_congr (by decide) (M := M) (M' := M') (a := 104 + 25 * i) (z := 8) (fun j hj => kk _ (by omega)), blk_congr (by decide) (M := M) (M' := M') (a := 112 + 25 * i) (z := 5) (fun j hj => kk _ (by omega)), kk (92 + 25 * i) (by omega), kk 169 (by omega)]
    obtain ⟨r1, r2, r3, r4⟩ := q
    refine ⟨r1.congr2 (fun k hk4 => es k (by omega)) (fun t k ht hk5 => es _ (by omega)) (fun b hb => ⟨es _ (by omega), es _ (by omega), es _ (by omega)⟩), r2.congr2 (fun k hk7 _ => es k (by omega)) (fun t ht => ⟨es _ (by omega), es _ (by omega), es _ (by omega)⟩) (fun b hb => ⟨es _ (by omega), es _ (by omega), es _ (by omega), es _ (by omega), es _ (by omega), es _ (by omega)⟩), r3, r4.congr2 (es 7 (by omega)) (fun k j hk6 hj => es _ (by omega))⟩
end PFRAME

section PLRUN
variable {n : Nat} {M X : JMem}
/-! the ends that are come to, and the whole run -/
def RD (th : Nat) (M X : JMem) (k : Nat) : Prop := ∀ o : Nat, o < k → (k : Int) ≤ M 64 o → (o : Int) < M 60 2 → M 61 o = 24 → M (th + 2) o = X 183 o + 1 ∧ 0 ≤ X 183 o ∧ X 183 o ≤ 98
theorem WJ.row {A : Nat → Int} (h : WJ M A) {k : Nat} (hk : k < 60) (hkr : (k : Int) < M 60 2) : (M 61 k = 25 ↔ A (136 + 6 * k) = 22) ∧ (M 61 k = 24 ↔ A (136 + 6 * k) = 21) ∧ (M 61 k = 26 ↔ A (136 + 6 * k) = 23) ∧ 14 ≤ M 61 k ∧ M 61 k ≤ 26 ∧ 0 ≤ A (136 + 6 * k) ∧ A (136 + 6 * k) ≤ 2030 := by
  have hr := h.2.2.2.2.1 k hk hkr
  unfold Rrow at hr
  simp only [bw1, bw2, bw3] at hr
  rcases hr with q | q | q | q | q | q | q | q | q | q | q | q <;> omega
theorem lv_ends {th nw : Nat} (ht : LT th nw) : ∀ (μ k p : Nat) (M X : JMem), WJ M (X 168) → RD th M X k → M th 3 = (k : Int) → k ≤ 60 → ((k : Int) < M 60 2 → M 61 k = 25 → M 64 k + 1 = (k : Int) → M 61 (k - 1) = 24 → X 183 (k - 1) ≤ p) → 61 - k + p ≤ μ →
    ∃ (e k' : Nat) (M' X' : JMem), e ≤ μ ∧ (∀ (v : Int) (q : Nat), 0 ≤ v → v + e ≤ 1000000 → f_X0_run_L42 n th 40 nw 60 (q + e) v M = f_X0_run_L42 n th 40 nw 60 q (v + e) M') ∧ (∀ q : Nat, μ < q → f_X12_behindEnds_L2 n q (k : Int) X = some ((k' : Int), X')) ∧ (∀ c : Nat, c ≠ th → c ≠ th + 2 → M' c = M c) ∧ (∀ j : Nat, j ≠ 3 → M' th j = M th j) ∧ (∀ c : Nat, c ≠ 183 → X' c = X c) ∧ M' th 3 = (k' : Int) ∧ RD th M' X' k' ∧ k' ≤ 60 ∧ ((k' : Int) < M 60 2 → ¬ M 61 k' = 25) := by
  unfold LT at ht
  intro μ
  induction μ with
  | zero => intro k p M X _ _ _ hk _ hm; omega
  | succ μ ih =>
    intro k p M X hW hD h3 hk hp hm
    have hW' := hW
    unfold WJ at hW'
    obtain ⟨w1, w2, w3, w4, w5, w6, w7, w8⟩ := hW'
    have jk : ∀ _ : True, jw (k : Int) = k := fun _ => jw_of (by omega) (by omega)
    have jr : ∀ _ : True, jw (M 60 2) = M 60 2 := fun _ => jw_of (by omega) (by omega)
    by_cases c1 : M 60 2 ≤ (k : Int)
    · refine ⟨0, k, M, X, by omega, fun v q _ _ => by rw [Nat.add_zero]; simp, fun q hq => ?_, fun _ _ _ => rfl, fun _ _ => rfl, fun _ _ => rfl, h3, hD, hk, fun q => by omega⟩
      obtain ⟨q, rfl⟩ : ∃ z, q = z + 1 := ⟨q - 1, by omega⟩
      rw [f_X12_behindEnds_L2, chk_pos (by decide), jn7, w2, if_pos (by rw [(jk trivial), (jr trivial)]; exact c1)]
    · have k6 : k < 60 := by omega
      have kr : (k : Int) < M 60 2 := by omega
      have rw1 := hW.row k6 kr
      have jA : ∀ _ : True, jw (X 168 (136 + 6 * k)) = X 168 (136 + 6 * k) := fun _ => jw_of (by omega) (by omega)
      by_cases c2 : M 61 k = 25
      · obtain ⟨o, g1, g2, g3, g4, g5⟩ := w7 k k6 kr c2
        have o6 : o < 60 := by omega
        have or' : (o : Int) < M 60 2 := by omega
        have rwo := hW.row o6 or'
        have g4' : 21 ≤ M 61 o ∧ M 61 o ≤ 24 := op_of.1 g4
        have jAo : ∀ _ : True, jw (X 168 (136 + 6 * o)) = X 168 (136 + 6 * o) := fun _ => jw_of (by omega) (by omega)
        have jo : ∀ _ : True, (jw (o : Int)).toNat = o := fun _ => jwb (by omega)
        have jio : ∀ _ : True, jin (o : Int) 60 := fun _ => jin_of (by omega) (by omega) (by omega)
        have jio8 : ∀ _ : True, jin (o : Int) 80 := fun _ => jin_of (by omega) (by omega) (by omega)
        have jik : ∀ _ : True, jin (k : Int) 60 := fun _ => jin_of (by omega) (by omega) (by omega)
        have nk : ∀ _ : True, (jw (k : Int)).toNat = k := fun _ => jwb (by omega)
        have eo : (136 + 6 * (o : Int)) = (136 + 6 * (o : Int)) := rfl
        have w24 : ∀ _ : True, jw (M 61 o) = M 61 o := fun _ => jw_of (by omega) (by omega)
        -- one turn of the class at an end
        have turn : ∀ (v : Int) (q : Nat), 0 ≤ v → v < 1000000 → f_X0_run_L42 n th 40 nw 60 (q + 1) v M = bnd (f_X0_endRound n th 60 (k : Int) (jup M th 3 ((k : Int) + 1))) fun _ M8 => f_X0_run_L42 n th 40 nw 60 q (v + 1) M8 := fun v q v0 v1 => by
          rw [f_X0_run_L42, if_neg (by rw [show jw 1000000 = 1000000 by decide, jw_of (x := v) (by omega) (by omega)]; omega), h3, if_neg (by rw [(jk trivial), (jr trivial)]; exact c1)]
          unfold f_X0_run_L146
          simp only [letv_ap, letm_ap]
          rw [chk_pos (jik trivial), (nk trivial), show jup M th 3 ((k : Int) + 1) (60 + 1) k = 25 by rw [jup_cell (by omega)]; exact c2, if_pos rfl]
        have a64 : ∀ x : Int, jup M th 3 x (60 + 4) k = (o : Int) := fun x => by rw [jup_cell (by omega)]; exact g1
        have a61 : ∀ x : Int, jup M th 3 x (60 + 1) o = M 61 o := fun x => by rw [jup_cell (by omega)]
        have refE : ∀ q : Nat, f_X12_behindEnds_L2 n (q + 1) (k : Int) X = if X 168 (136 + 6 * o) = 21 then (if jw (X 183 o) ≤ 0 then f_X12_behindEnds_L2 n q ((k : Int) + 1) (jup X 183 o (X 183 o - 0)) else f_X12_behindEnds_L2 n q ((o : Int) + 1) (jup X 183 o (X 183 o - 1))) else f_X12_behindEnds_L2 n q ((k : Int) + 1) (jup X 183 o (X 183 o - 0)) := fun q => by
          rw [f_X12_behindEnds_L2, chk_pos (by decide), jn7, w2, if_neg (by rw [(jk trivial), (jr trivial)]; exact c1), chk_pos (ij0 k6), ir0 k6, rw1.1.1 c2, if_pos rfl, chk_pos (ij4 k6)]
          unfold f_X12_behindEnds_L78 f_X12_behindEnds_L79 f_X12_behindEnds_L98 f_X12_behindEnds_L114
          simp only [letv_ap, letm_ap]
          rw [ir4 k6, g2, chk_pos (ij0 o6), ir0 o6, (jAo trivial), show jw 21 = 21 by decide, (jo trivial)]
          by_cases d1 : X 168 (136 + 6 * o) = 21
          · rw [if_pos d1, if_pos d1, chk_pos (jio8 trivial)]
            by_cases d2 : jw (X 183 o) ≤ 0
            · rw [if_pos d2, if_pos d2, chk_pos (jio8 trivial), if_pos (by decide), chk_pos (jio8 trivial), if_pos (by decide)]
            · rw [if_neg d2, if_neg d2, chk_pos (jio8 trivial), if_neg (by decide), chk_pos (jio8 trivial), if_neg (by decide)]
          · rw [if_neg d1, if_neg d1, chk_pos (jio8 trivial), if_pos (by decide), chk_pos (jio8 trivial), if_pos (by decide)]
        -- forward
        have fwd : ∀ (M1 X1 : JMem), (∀ (v : Int) (q : Nat), 0 ≤ v → v < 1000000 → f_X0_run_L42 n th 40 nw 60 (q + 1) v M = f_X0_run_L42 n th 40 nw 60 q (v + 1) M1) → (∀ q : Nat, f_X12_behindEnds_L2 n (q + 1) (k : Int) X = f_X12_behindEnds_L2 n q ((k : Int) + 1) X1) → (∀ c : Nat, c ≠ th → c ≠ th + 2 → M1 c = M c) → (∀ j : Nat, j ≠ 3 → M1 th j = M th j) → M1 th 3 = (k : Int) + 1 → (∀ j : Nat, j ≠ o → M1 (th + 2) j = M (th + 2) j) → (∀ c : Nat, c ≠ 183 → X1 c = X c) → (∀ j : Nat, j ≠ o → X1 183 j = X 183 j) →
            ∃ (e k' : Nat) (M' X' : JMem), e ≤ μ + 1 ∧ (∀ (v : Int) (q : Nat), 0 ≤ v → v + e ≤ 1000000 → f_X0_run_L42 n th 40 nw 60 (q + e) v M = f_X0_run_L42 n th 40 nw 60 q (v + e) M') ∧ (∀ q : Nat, μ + 1 < q → f_X12_behindEnds_L2 n q (k : Int) X = some ((k' : Int), X')) ∧ (∀ c : Nat, c ≠ th → c ≠ th + 2 → M' c = M c) ∧ (∀ j : Nat, j ≠ 3 → M' th j = M th j) ∧ (∀ c : Nat, c ≠ 183 → X' c = X c) ∧ M' th 3 = (k' : Int) ∧ RD th M' X' k' ∧ k' ≤ 60 ∧ ((k' : Int) < M 60 2 → ¬ M 61 k' = 25) := by
          intro M1 X1 b1 b2 b3 b4 b5 b6 b7 b8
          have m60 : M1 60 = M 60 := b3 60 (by omega) (by omega)
          have m61 : M1 61 = M 61 := b3 61 (by omega) (by omega)
          have m64 : M1 64 = M 64 := b3 64 (by omega) (by omega)
          obtain ⟨e, k', M', X', r1, r2, r3, r4, r5, r6, r7, r8, r9, r10⟩ := ih (k + 1) 0 M1 X1 (hW.mv (fun c hc => b3 c (by omega) (by omega)) (fun i _ => by rw [b7 168 (by omega)])) (fun o' q1 q2 q3 q4 => by
              rw [m64] at q2
              rw [m60] at q3
              rw [m61] at q4
              have n1 : o' ≠ k := fun z => by rw [z, c2] at q4; omega
              have n2 : o' ≠ o := fun z => by rw [z, g5] at q2; omega
              rw [b6 o' n2, b8 o' n2]
              exact hD o' (by omega) (by omega) q3 q4) (by rw [b5]; omega) (by omega) (fun q1 q2 q3 q4 => by
              rw [m61, show k + 1 - 1 = k by omega, c2] at q4
              omega) (by omega)
          refine ⟨e + 1, k', M', X', by omega, fun v q v0 v1 => ?_, fun q hq => ?_, fun c c1 c2 => by rw [r4 c c1 c2, b3 c c1 c2], fun j hj => by rw [r5 j hj, b4 j hj], fun c hc => by rw [r6 c hc, b7 c hc], r7, r8, r9, by rw [← m60, ← m61]; exact r10⟩
          · rw [show q + (e + 1) = q + e + 1 by omega, b1 v (q + e) v0 (by omega), r2 (v + 1) q (by omega) (by omega), show v + 1 + (e : Int) = v + ((e + 1 : Nat) : Int) by omega]
          · obtain ⟨q, rfl⟩ : ∃ z, q = z + 1 := ⟨q - 1, by omega⟩
            rw [b2 q, show (k : Int) + 1 = ((k + 1 : Nat) : Int) by omega]
            exact r3 q (by omega)
        by_cases c3 : M 61 o = 24
        · obtain ⟨l1, l2, l3⟩ := hD o g3 (by rw [g5]; omega) or' c3
          have jl : ∀ _ : True, jw (X 183 o) = X 183 o := fun _ => jw_of (by omega) (by omega)
          have endE : f_X0_endRound n th 60 (k : Int) (jup M th 3 ((k : Int) + 1)) = if X 183 o ≤ 0 then some (0, jup (jup M th 3 ((k : Int) + 1)) (th + 2) o (X 183 o)) else some (0, jup (jup (jup M th 3 ((k : Int) + 1)) (th + 2) o (X 183 o)) th 3 ((o : Int) + 1)) := by
            unfold f_X0_endRound
            simp only [letv_ap, letm_ap]
            rw [chk_pos (jik trivial), (nk trivial), a64, chk_pos (jio trivial), (jo trivial), a61, c3, if_pos rfl, chk_pos (jio trivial), chk_pos (jio trivial), chk_pos (jio trivial), show jup M th 3 ((k : Int) + 1) (th + 2) o = X 183 o + 1 by rw [jup_cell (by omega)]; exact l1, show X 183 o + 1 - 1 = X 183 o by omega, jup_if, if_pos rfl, (jl trivial)]
          by_cases c4 : X 183 o ≤ 0
          · refine fwd (jup (jup M th 3 ((k : Int) + 1)) (th + 2) o (X 183 o)) (jup X 183 o (X 183 o - 0)) (fun v q v0 v1 => by rw [turn v q v0 v1, endE, if_pos c4, bnd_some]) (fun q => by rw [refE q, if_pos (rwo.2.1.1 c3), if_pos (by rw [(jl trivial)]; exact c4)]) (fun c q1 q2 => by rw [jup_cell q2, jup_cell q1]) (fun j hj => by rw [jup_cell (by omega), jup_if, if_neg hj]) (by rw [jup_cell (by omega), jup_if, if_pos rfl]) (fun j hj => by rw [jup_if, if_neg hj, jup_cell (by omega)]) (fun c hc => jup_cell hc) (fun j hj => by rw [jup_if, if_neg hj])
          · have b3 : ∀ c : Nat, c ≠ th → c ≠ th + 2 → jup (jup (jup M th 3 ((k : Int) + 1)) (th + 2) o (X 183 o)) th 3 ((o : Int) + 1) c = M c := fun c q1 q2 => by rw [jup_cell q1, jup_cell q2, jup_cell q1]
            have b4 : ∀ j : Nat, j ≠ 3 → jup (jup (jup M th 3 ((k : Int) + 1)) (th + 2) o (X 183 o)) th 3 ((o : Int) + 1) th j = M th j := fun j hj => by rw [jup_if, if_neg hj, jup_cell (by omega), jup_if, if_neg hj]
            have b5 : jup (jup (jup M th 3 ((k : Int) + 1)) (th + 2) o (X 183 o)) th 3 ((o : Int) + 1) th 3 = (o : Int) + 1 := by rw [jup_if, if_pos rfl]
            have b6 : ∀ j : Nat, jup (jup (jup M th 3 ((k : Int) + 1)) (th + 2) o (X 183 o)) th 3 ((o : Int) + 1) (th + 2) j = if j = o then X 183 o else M (th + 2) j := fun j => by rw [jup_cell (by omega), jup_if, jup_cell (by omega)]
            have bT : ∀ (v : Int) (q : Nat), 0 ≤ v → v < 1000000 → f_X0_run_L42 n th 40 nw 60 (q + 1) v M = f_X0_run_L42 n th 40 nw 60 q (v + 1) (jup (jup (jup M th 3 ((k : Int) + 1)) (th + 2) o (X 183 o)) th 3 ((o : Int) + 1)) := fun v q v0 v1 => by rw [turn v q v0 v1, endE, if_neg c4, bnd_some]
            have bR : ∀ q : Nat, f_X12_behindEnds_L2 n (q + 1) (k : Int) X = f_X12_behindEnds_L2 n q ((o : Int) + 1) (jup X 183 o (X 183 o - 1)) := fun q => by rw [refE q, if_pos (rwo.2.1.1 c3), if_neg (by rw [(jl trivial)]; exact c4)]
            have b7 : ∀ c : Nat, c ≠ 183 → jup X 183 o (X 183 o - 1) c = X c := fun c hc => jup_cell hc
            have b8 : ∀ j : Nat, jup X 183 o (X 183 o - 1) 183 j = if j = o then X 183 o - 1 else X 183 j := fun j => by rw [jup_if]
            generalize jup (jup (jup M th 3 ((k : Int) + 1)) (th + 2) o (X 183 o)) th 3 ((o : Int) + 1) = M1 at b3 b4 b5 b6 bT
            generalize jup X 183 o (X 183 o - 1) = X1 at b7 b8 bR
            have m60 : M1 60 = M 60 := b3 60 (by omega) (by omega)
            have m61 : M1 61 = M 61 := b3 61 (by omega) (by omega)
            have m64 : M1 64 = M 64 := b3 64 (by omega) (by omega)
            have hD1 : RD th M1 X1 (o + 1) := fun o' q1 q2 q3 q4 => by
              rw [m64] at q2
              rw [m60] at q3
              rw [m61] at q4
              rw [b6, b8]
              by_cases z : o' = o
              · rw [if_pos z, if_pos z]; omega
              · rw [if_neg z, if_neg z]
                have := w8 o' o (by omega) (by omega) q3 (op_of.2 (by omega)) g4
                exact hD o' (by omega) (by omega) q3 q4
            by_cases c5 : o + 1 = k
            · have hp1 := hp kr c2 (by omega) (by rw [show k - 1 = o by omega]; exact c3)
              rw [show k - 1 = o by omega] at hp1
              obtain ⟨e, k', M', X', r1, r2, r3, r4, r5, r6, r7, r8, r9, r10⟩ := ih k (p - 1) M1 X1 (hW.mv (fun c hc => b3 c (by omega) (by omega)) (fun i _ => by rw [b7 168 (by omega)])) (by rw [← c5]; exact hD1) (by rw [b5]; omega) (by omega) (fun _ _ _ _ => by rw [show k - 1 = o by omega, b8, if_pos rfl]; omega) (by omega)
              refine ⟨e + 1, k', M', X', by omega, fun v q v0 v1 => ?_, fun q hq => ?_, fun c c1 c2 => by rw [r4 c c1 c2, b3 c c1 c2], fun j hj => by rw [r5 j hj, b4 j hj], fun c hc => by rw [r6 c hc, b7 c hc], r7, r8, r9, by rw [← m60, ← m61]; exact r10⟩
              · rw [show q + (e + 1) = q + e + 1 by omega, bT v (q + e) v0 (by omega), r2 (v + 1) q (by omega) (by omega), show v + 1 + (e : Int) = v + ((e + 1 : Nat) : Int) by omega]
              · obtain ⟨q, rfl⟩ : ∃ z, q = z + 1 := ⟨q - 1, by omega⟩
                rw [bR q, show (o : Int) + 1 = ((k : Nat) : Int) by omega]
                exact r3 q (by omega)
            · have ne : ¬ M 61 (o + 1) = 25 := fun z => by
                obtain ⟨k2, y1, y2, y3, y4, y5⟩ := w7 (o + 1) (by omega) (by omega) z
                by_cases y6 : k2 = o
                · rw [y6, g5] at y5; omega
                · have := w8 k2 o (by omega) (by omega) (by omega) y4 g4
                  omega
              refine ⟨1, o + 1, M1, X1, by omega, fun v q v0 v1 => bT v q v0 (by omega), fun q hq => ?_, b3, b4, b7, by rw [b5]; omega, hD1, by omega, fun _ => ne⟩
              obtain ⟨q, rfl⟩ : ∃ z, q = z + 1 := ⟨q - 1, by omega⟩
              obtain ⟨q, rfl⟩ : ∃ z, q = z + 1 := ⟨q - 1, by omega⟩
              have o16 : o + 1 < 60 := by omega
              have o1r : ((o + 1 : Nat) : Int) < M 60 2 := by omega
              have rw2 := hW.row o16 o1r
              rw [bR, show (o : Int) + 1 = ((o + 1 : Nat) : Int) by omega, f_X12_behindEnds_L2, chk_pos (by decide), jn7, b7 168 (by omega), w2, if_neg (by rw [(jr trivial), jw_of (x := ((o + 1 : Nat) : Int)) (by omega) (by omega)]; omega), chk_pos (ij0 o16), ir0 o16, if_neg (by rw [jw_of (x := X 168 (136 + 6 * (o + 1))) (by omega) (by omega), show jw 22 = 22 by decide]; exact fun z => ne (rw2.1.2 z))]
        · have endE : f_X0_endRound n th 60 (k : Int) (jup M th 3 ((k : Int) + 1)) = some (0, jup M th 3 ((k : Int) + 1)) := by
            unfold f_X0_endRound
            simp only [letv_ap, letm_ap]
            rw [chk_pos (jik trivial), (nk trivial), a64, chk_pos (jio trivial), (jo trivial), a61, (w24 trivial), if_neg (by rw [show jw 24 = 24 by decide]; exact c3)]
          exact fwd (jup M th 3 ((k : Int) + 1)) (jup X 183 o (X 183 o - 0)) (fun v q v0 v1 => by rw [turn v q v0 v1, endE, bnd_some]) (fun q => by rw [refE q, if_neg (fun z => c3 (rwo.2.1.2 z))]) (fun c q1 q2 => by rw [jup_cell q1]) (fun j hj => by rw [jup_if, if_neg hj]) (by rw [jup_if, if_pos rfl]) (fun j hj => by rw [jup_cell (by omega)]) (fun c hc => jup_cell hc) (fun j hj => by rw [jup_if, if_neg hj])
      · refine ⟨0, k, M, X, by omega, fun v q _ _ => by rw [Nat.add_zero]; simp, fun q hq => ?_, fun _ _ _ => rfl, fun _ _ => rfl, fun _ _ => rfl, h3, hD, hk, fun _ => c2⟩
        obtain ⟨q, rfl⟩ : ∃ z, q = z + 1 := ⟨q - 1, by omega⟩
        rw [f_X12_behindEnds_L2, chk_pos (by decide), jn7, w2, if_neg (by rw [(jk trivial), (jr trivial)]; exact c1), chk_pos (ij0 k6), ir0 k6, if_neg (by rw [(jA trivial), show jw 22 = 22 by decide]; exact fun z => c2 (rw1.1.2 z))]
end PLRUN

section PLIVE
variable {n : Nat} {M X : JMem}
theorem LJ.mvM {th nw : Nat} (ht : LT th nw) {M' X' : JMem} (h : LJ th nw M X) (h1 : ∀ c : Nat, c ≠ th → c ≠ th + 2 → M' c = M c) (h2 : M' th 2 = M th 2) (h3 : X' 168 = X 168) (h4 : X' 167 32 = X 167 32) (h5 : X' 184 = X 184) : LJ th nw M' X' := by
  unfold LT at ht
  obtain ⟨u1, u2, u3, u4⟩ := h
  unfold LJ
  rw [h3, h4, h5, h2, h1 (th + 1) (by omega) (by omega), blk_congr (by decide) (M := M) (a := 40) (z := 12) (fun j hj => h1 _ (by omega) (by omega)), blk_congr (by decide) (M := M) (a := nw) (z := 8) (fun j hj => h1 _ (by omega) (by omega))]
  exact ⟨u1, u2, u3, u4⟩
/-- what a run leaves as it was -/
def LVE (th nw : Nat) (M M' : JMem) : Prop := ∀ c : Nat, c ≠ th → c ≠ th + 1 → c ≠ th + 2 → c < nw ∨ nw + 8 ≤ c → M' c = M c
def XVE (X X' : JMem) : Prop := (∀ c : Nat, c ≠ 167 → c ≠ 168 → c ≠ 183 → c ≠ 184 → X' c = X c) ∧ (∀ j : Nat, j ≠ 32 → j ≠ 33 → X' 167 j = X 167 j) ∧ ∀ i : Nat, i = 7 ∨ 136 ≤ i → X' 168 i = X 168 i
theorem lv_run {th nw : Nat} (ht : LT th nw) (hf : 1000 ≤ n) : ∀ (d s k : Nat) (M X : JMem), s + d = 301 → s ≤ 300 → WJ M (X 168) → LJ th nw M X → RD th M X k → M th 3 = (k : Int) → M th 0 = (s : Int) → X 167 33 = (s : Int) → k ≤ 60 → ((k : Int) < M 60 2 → ¬ M 61 k = 25) →
    ∃ M' X', (∀ (v : Int) (q : Nat), 0 ≤ v → v ≤ s * 200 → d * 200 ≤ q → f_X0_run_L42 n th 40 nw 60 q v M = some (0, M')) ∧ (∀ q : Nat, d ≤ q → f_X12_lives_L32 n q (k : Int) X = some (0, X')) ∧ LJ th nw M' X' ∧ M' th 0 = X' 167 33 ∧ 0 ≤ M' th 0 ∧ M' th 0 ≤ 300 ∧ LVE th nw M M' ∧ XVE X X' := by
  have ht' := ht
  unfold LT at ht'
  intro d
  induction d with
  | zero => intro s k M X hs hs2; omega
  | succ d ih =>
    intro s k M X hs hs2 hW hJ hD h3 h0 h33 hk hend
    have hW' := hW
    unfold WJ at hW'
    obtain ⟨w1, w2, w3, w4, w5, w6, w7, w8⟩ := hW'
    have jk : ∀ _ : True, jw (k : Int) = k := fun _ => jw_of (by omega) (by omega)
    have jr : ∀ _ : True, jw (M 60 2) = M 60 2 := fun _ => jw_of (by omega) (by omega)
    have c300 : ∀ _ : True, jw 300 = 300 := fun _ => by decide
    have js : ∀ _ : True, jw (s : Int) = s := fun _ => jw_of (by omega) (by omega)
    have vb : ∀ v : Int, 0 ≤ v → v ≤ s * 200 → ¬ jw 1000000 ≤ jw v := fun v v0 v1 => by
      rw [show jw 1000000 = 1000000 by decide, jw_of (x := v) (by omega) (by omega)]; omega
    by_cases c1 : M 60 2 ≤ (k : Int)
    · refine ⟨M, X, fun v q v0 v1 hq => ?_, fun q hq => ?_, hJ, by rw [h0, h33], by rw [h0]; omega, by rw [h0]; omega, fun _ _ _ _ _ => rfl, fun _ _ _ _ _ => rfl, fun _ _ _ => rfl, fun _ _ => rfl⟩
      · obtain ⟨q, rfl⟩ : ∃ z, q = z + 1 := ⟨q - 1, by omega⟩
        rw [f_X0_run_L42, if_neg (vb v v0 v1), h3, if_pos (by rw [(jk trivial), (jr trivial)]; exact c1)]
      · obtain ⟨q, rfl⟩ : ∃ z, q = z + 1 := ⟨q - 1, by omega⟩
        rw [f_X12_lives_L32, chk_pos (by decide), jn7, w2, if_pos (by rw [(jk trivial), (jr trivial)]; exact c1)]
    · have k6 : k < 60 := by omega
      have kr : (k : Int) < M 60 2 := by omega
      have rw1 := hW.row k6 kr
      have c25 := hend kr
      have jA : ∀ _ : True, jw (X 168 (136 + 6 * k)) = X 168 (136 + 6 * k) := fun _ => jw_of (by omega) (by omega)
      have jik : ∀ _ : True, jin (k : Int) 60 := fun _ => jin_of (by omega) (by omega) (by omega)
      have nk : ∀ _ : True, (jw (k : Int)).toNat = k := fun _ => jwb (by omega)
      have j61 : ∀ _ : True, jw (M 61 k) = M 61 k := fun _ => jw_of (by omega) (by omega)
      have c25' : ∀ _ : True, jw 25 = 25 := fun _ => by decide
      have c23' : ∀ _ : True, jw 23 = 23 := fun _ => by decide
      have m61 : ∀ x : Int, jup M th 3 x (60 + 1) k = M 61 k := fun x => by rw [jup_cell (by omega)]
      have m0 : ∀ x : Int, jup M th 3 x th 0 = (s : Int) := fun x => by rw [jup_if, if_neg (by omega)]; exact h0
      by_cases c2 : s = 300
      · refine ⟨jup (jup M th 3 ((k : Int) + 1)) (th + 1) 4 1, jup X 184 4 1, fun v q v0 v1 hq => ?_, fun q hq => ?_, ?_, ?_, ?_, ?_, fun c q1 q2 q3 q4 => by rw [jup_cell q2, jup_cell q1], fun c q1 q2 q3 q4 => by rw [jup_cell q4], fun j q1 q2 => by rw [jup_cell (by omega)], fun i hi => by rw [jup_cell (by omega)]⟩
        · obtain ⟨q, rfl⟩ : ∃ z, q = z + 1 := ⟨q - 1, by omega⟩
          rw [f_X0_run_L42, if_neg (vb v v0 v1), h3, if_neg (by rw [(jk trivial), (jr trivial)]; exact c1)]
          unfold f_X0_run_L106
          simp only [letv_ap, letm_ap, jn4]
          rw [chk_pos (jik trivial), (nk trivial), m61, (j61 trivial), (c25' trivial), if_neg c25, m0, (js trivial), (c300 trivial), if_pos (by omega), chk_pos (by decide)]
        · obtain ⟨q, rfl⟩ : ∃ z, q = z + 1 := ⟨q - 1, by omega⟩
          rw [f_X12_lives_L32, chk_pos (by decide), jn7, w2, if_neg (by rw [(jk trivial), (jr trivial)]; exact c1), h33, (js trivial), (c300 trivial), if_pos (by omega)]
          unfold f_X12_lives_L53
          simp only [letm_ap, jn4]
          rw [chk_pos (by decide)]
        · obtain ⟨u1, u2, u3, u4⟩ := hJ
          refine ⟨?_, ?_, ?_, fun k k5 => ?_⟩
          · rw [jup_cell (by omega), blk_jup_row (fun j hj => by omega) (by decide), blk_jup_row (fun j hj => by omega) (by decide)]; exact u1
          · rw [jup_cell (by omega), blk_jup_row (fun j hj => by omega) (by decide), blk_jup_row (fun j hj => by omega) (by decide)]; exact u2
          · rw [jup_cell (by omega), jup_if, if_neg (by omega), jup_cell (by omega)]; exact u3
          · rw [jup_if, jup_if, jup_cell (by omega), u4 k k5]
        · rw [jup_cell (by omega), m0, jup_cell (by omega), h33]
        · rw [jup_cell (by omega), m0]; omega
        · rw [jup_cell (by omega), m0]; omega
      · have hs3 : s < 300 := by omega
        have eclass : ∀ (v : Int) (q : Nat), 0 ≤ v → v ≤ s * 200 → f_X0_run_L42 n th 40 nw 60 (q + 1) v M = (bnd (f_X0_isDone n th 40 nw 60 (k : Int) (jup (jup M th 3 ((k : Int) + 1)) th 0 ((s : Int) + 1))) fun r4 M5 => if jw r4 = 0 then (chk (jin 0 5) <| chk (jin 0 5) <| letm (jup M5 (th + 1) (jw 0).toNat ((M5 (th + 1) (jw 0).toNat) + 1)) fun M6 => f_X0_run_L146 n th 40 nw 60 (f_X0_run_L42 n th 40 nw 60 q) v M6) else (f_X0_run_L146 n th 40 nw 60 (f_X0_run_L42 n th 40 nw 60 q) v M5)) := fun v q v0 v1 => by
          rw [f_X0_run_L42, if_neg (vb v v0 v1), h3, if_neg (by rw [(jk trivial), (jr trivial)]; exact c1), letv_ap, letm_ap, chk_pos (jik trivial), (nk trivial), m61, (j61 trivial), (c25' trivial), if_neg c25, m0, (js trivial), (c300 trivial), if_neg (by omega), letm_ap]
        have eref : ∀ q : Nat, f_X12_lives_L32 n (q + 1) (k : Int) X = if X 168 (136 + 6 * k) = 23 then some (0, jup X 167 33 ((s : Int) + 1)) else (bnd (f_X12_does n (136 + 6 * (k : Int)) (jup X 167 33 ((s : Int) + 1))) fun r3 M4 => if jw r3 = 0 then (f_X12_lives_L112 n (f_X12_lives_L32 n q) (k : Int) (136 + 6 * (k : Int)) 0 (jup X 167 33 ((s : Int) + 1) 184 (jw 0).toNat) 1 M4) else (f_X12_lives_L112 n (f_X12_lives_L32 n q) (k : Int) (136 + 6 * (k : Int)) 0 (jup X 167 33 ((s : Int) + 1) 184 (jw 0).toNat) 0 M4)) := fun q => by
          rw [f_X12_lives_L32, chk_pos (by decide), jn7, w2, if_neg (by rw [(jk trivial), (jr trivial)]; exact c1), h33, (js trivial), (c300 trivial), if_neg (by omega), letv_ap, letm_ap, chk_pos (ij0 k6), ir0 k6, show jup X 167 33 ((s : Int) + 1) 168 (136 + 6 * k) = X 168 (136 + 6 * k) by rw [jup_cell (by omega)], (jA trivial), (c23' trivial), chk_pos (by decide)]
        have f1 : ∀ c : Nat, c ≠ th → jup (jup M th 3 ((k : Int) + 1)) th 0 ((s : Int) + 1) c = M c := fun c hc => by rw [jup_cell hc, jup_cell hc]
        have f2 : jup (jup M th 3 ((k : Int) + 1)) th 0 ((s : Int) + 1) th 3 = (k : Int) + 1 := by rw [jup_if, if_neg (by omega), jup_if, if_pos rfl]
        have f3 : jup (jup M th 3 ((k : Int) + 1)) th 0 ((s : Int) + 1) th 0 = (s : Int) + 1 := by rw [jup_if, if_pos rfl]
        have f4 : jup (jup M th 3 ((k : Int) + 1)) th 0 ((s : Int) + 1) th 2 = M th 2 := by rw [jup_if, if_neg (by omega), jup_if, if_neg (by omega)]
        generalize jup (jup M th 3 ((k : Int) + 1)) th 0 ((s : Int) + 1) = M3 at eclass f1 f2 f3 f4
        have x1 : ∀ c : Nat, c ≠ 167 → jup X 167 33 ((s : Int) + 1) c = X c := fun c hc => jup_cell hc
        have x2 : ∀ j : Nat, j ≠ 33 → jup X 167 33 ((s : Int) + 1) 167 j = X 167 j := fun j hj => by rw [jup_if, if_neg hj]
        have x3 : jup X 167 33 ((s : Int) + 1) 167 33 = (s : Int) + 1 := by rw [jup_if, if_pos rfl]
        generalize jup X 167 33 ((s : Int) + 1) = X3 at eref x1 x2 x3
        have hJ3 : LJ th nw M3 X3 := hJ.mvM ht (fun c q _ => f1 c q) f4 (x1 168 (by omega)) (x2 32 (by omega)) (x1 184 (by omega))
        have hW3 : WJ M3 (X3 168) := hW.mv (fun c hc => f1 c (by omega)) (fun i _ => by rw [x1 168 (by omega)])
        by_cases c26 : M 61 k = 26
        · refine ⟨jup M3 th 3 (M 60 2), X3, fun v q v0 v1 hq => ?_, fun q hq => ?_, ?_, ?_, ?_, ?_, fun c q1 q2 q3 q4 => by rw [jup_cell q1, f1 c q1], fun c q1 q2 q3 q4 => x1 c q1, fun j q1 q2 => x2 j q2, fun i hi => by rw [x1 168 (by omega)]⟩
          · obtain ⟨q, rfl⟩ : ∃ z, q = z + 1 := ⟨q - 1, by omega⟩
            obtain ⟨q, rfl⟩ : ∃ z, q = z + 1 := ⟨q - 1, by omega⟩
            rw [eclass v (q + 1) v0 v1]
            unfold f_X0_isDone f_X0_run_L146
            simp only [letv_ap, letm_ap]
            rw [chk_pos (jik trivial), chk_pos (jik trivial), (nk trivial), show M3 (60 + 1) k = 26 by rw [f1 _ (by omega)]; exact c26, if_neg (by decide), if_neg (by decide), if_neg (by decide), if_neg (by decide), if_neg (by decide), if_neg (by decide), if_neg (by decide), if_pos (by decide), bnd_some, if_neg (by decide), f1 60 (by omega), f_X0_run_L42, if_neg (by rw [show jw 1000000 = 1000000 by decide, jw_of (x := v + 1) (by omega) (by omega)]; omega), jup_if, if_pos rfl, jup_cell (by omega), f1 60 (by omega), if_pos (Int.le_refl _)]
          · obtain ⟨q, rfl⟩ : ∃ z, q = z + 1 := ⟨q - 1, by omega⟩
            rw [eref q, if_pos (rw1.2.2.1.1 c26)]
          · exact hJ3.mvM ht (fun c q1 q2 => jup_cell q1) (by rw [jup_if, if_neg (by omega)]) rfl rfl rfl
          · rw [jup_if, if_neg (by omega), f3, x3]
          · rw [jup_if, if_neg (by omega), f3]; omega
          · rw [jup_if, if_neg (by omega), f3]; omega
        · have m61' : M3 61 = M 61 := f1 61 (by omega)
          have m60' : M3 60 = M 60 := f1 60 (by omega)
          have m64' : M3 64 = M 64 := f1 64 (by omega)
          have m62' : M3 62 = M 62 := f1 62 (by omega)
          obtain ⟨k1, M4, X4, r1, r2, r3, r4, r5, r6, r7, r8, r9, r10⟩ := lv_step (n := n) (by omega) ht hJ3 hW3 k6 (by rw [m60']; exact kr) (by rw [m61']; exact c25) (by rw [m61']; exact c26) (by rw [f2]; omega)
          rw [m61', m64'] at r7
          rw [m61', m62'] at r8 r9 r10
          have k4 : ∀ c : Nat, c ≠ th → c ≠ th + 1 → c ≠ th + 2 → c < nw ∨ nw + 8 ≤ c → M4 c = M c := fun c q1 q2 q3 q4 => by rw [r5.1 c q1 q2 q3 q4, f1 c q1]
          have m60 : M4 60 = M 60 := k4 60 (by omega) (by omega) (by omega) (by omega)
          have m61 : M4 61 = M 61 := k4 61 (by omega) (by omega) (by omega) (by omega)
          have m64 : M4 64 = M 64 := k4 64 (by omega) (by omega) (by omega) (by omega)
          have hW4 : WJ M4 (X4 168) := hW.mv (fun c hc => k4 c (by omega) (by omega) (by omega) (by omega)) (fun i hi => by rw [r6.2.2 i hi, x1 168 (by omega)])
          have hk1 : k1 ≤ 60 ∧ ∀ o : Nat, o < k1 → (k1 : Int) ≤ M 64 o → (o : Int) < M 60 2 → M 61 o = 24 → o = k ∨ (o < k ∧ (k : Int) ≤ M 64 o ∧ o ≠ k) := by
            rcases r7 with z | ⟨z1, z2⟩
            · refine ⟨by omega, fun o q1 q2 q3 q4 => ?_⟩
              by_cases e : o = k
              · exact Or.inl e
              · exact Or.inr ⟨by omega, by omega, e⟩
            · obtain ⟨e, y1, y2, y3, y4, y5, y6⟩ := w6 k k6 kr (op_of.2 (by omega))
              refine ⟨by omega, fun o q1 q2 q3 q4 => ?_⟩
              have oe : o ≠ e := fun z => by rw [z, y5] at q4; omega
              by_cases ek : o = k
              · exact Or.inl ek
              · by_cases lk : k < o
                · have := w8 k o lk (by omega) kr (op_of.2 (by omega)) (op_of.2 (by omega))
                  omega
                · exact Or.inr ⟨by omega, by omega, ek⟩
          have hD4 : RD th M4 X4 k1 := fun o q1 q2 q3 q4 => by
            rw [m64] at q2
            rw [m60] at q3
            rw [m61] at q4
            rw [r8 o, r9 o]
            rcases hk1.2 o q1 q2 q3 q4 with z | ⟨z1, z2, z3⟩
            · subst z
              have := r10 q4
              rw [if_pos ⟨q4, rfl⟩, if_pos ⟨q4, rfl⟩]
              omega
            · rw [if_neg (fun w => z3 w.2), if_neg (fun w => z3 w.2), f1 (th + 2) (by omega), x1 183 (by omega)]
              exact hD o z1 z2 q3 q4
          obtain ⟨e, k2, M5, X5, s1, s2, s3, s4, s5, s6, s7, s8, s9, s10⟩ := lv_ends (n := n) ht 160 k1 98 M4 X4 hW4 hD4 r3 hk1.1 (fun q1 q2 q3 q4 => by
            by_cases z : k1 = 0
            · subst z
              rw [m64] at q3
              obtain ⟨kk, y1, y2, y3, -⟩ := w7 0 (by omega) (by rw [← m60]; exact q1) (by rw [← m61]; exact q2)
              omega
            · rw [m61] at q2 q4
              rw [m60] at q1
              rw [m64] at q3
              obtain ⟨kk, y1, y2, y3, y4, y5⟩ := w7 k1 (by omega) q1 q2
              have ek : kk = k1 - 1 := by omega
              rw [ek] at y5
              exact (hD4 (k1 - 1) (by omega) (by rw [m64, y5]; omega) (by rw [m60]; omega) (by rw [m61]; exact q4)).2.2) (by omega)
          have k5 : ∀ c : Nat, c ≠ th → c ≠ th + 2 → M5 c = M4 c := s4
          have n60 : M5 60 = M 60 := by rw [k5 60 (by omega) (by omega), m60]
          have n61 : M5 61 = M 61 := by rw [k5 61 (by omega) (by omega), m61]
          obtain ⟨M6, X6, t1, t2, t3, t4, t5, t6, t7, t8⟩ := ih (s + 1) k2 M5 X5 (by omega) (by omega) (hW4.mv (fun c hc => k5 c (by omega) (by omega)) (fun i _ => by rw [s6 168 (by omega)])) (r4.mvM ht k5 (s5 2 (by omega)) (s6 168 (by omega)) (by rw [s6 167 (by omega)]) (s6 184 (by omega))) s8 s7 (by rw [s5 0 (by omega), r5.2, f3]; omega) (by rw [s6 167 (by omega), r6.2.1 33 (by omega), x3]; omega) s9 (by rw [n60, n61, ← m60, ← m61]; exact s10)
          refine ⟨M6, X6, fun v q v0 v1 hq => ?_, fun q hq => ?_, t3, t4, t5, t6, fun c q1 q2 q3 q4 => by rw [t7 c q1 q2 q3 q4, k5 c q1 q3, k4 c q1 q2 q3 q4], fun c q1 q2 q3 q4 => by rw [t8.1 c q1 q2 q3 q4, s6 c q3, r6.1 c q1 q2 q3 q4, x1 c q1], fun j q1 q2 => by rw [t8.2.1 j q1 q2, s6 167 (by omega), r6.2.1 j q1, x2 j q2], fun i hi => by rw [t8.2.2 i hi, s6 168 (by omega), r6.2.2 i hi, x1 168 (by omega)]⟩
          · obtain ⟨q, rfl⟩ : ∃ z, q = z + e + 1 := ⟨q - 1 - e, by omega⟩
            rw [eclass v (q + e) v0 v1, r1, s2 (v + 1) q (by omega) (by omega)]
            exact t1 (v + 1 + e) q (by omega) (by omega) (by omega)
          · obtain ⟨q, rfl⟩ : ∃ z, q = z + 1 := ⟨q - 1, by omega⟩
            rw [eref q, if_neg (fun z => c26 (rw1.2.2.1.2 z)), r2]
            unfold f_X12_behindEnds
            rw [letv_ap, s3 n (by omega), bnd_some]
            exact t2 q (by omega)
theorem lv_zero {th nw : Nat} : ∀ (d i k : Nat) (M : JMem), i + d = 5 → d < k → ∃ M1, f_X0_run_L19 n th 40 nw 60 k (i : Int) M = f_X0_run_L39 n th 40 nw 60 M1 ∧ (∀ c : Nat, c ≠ th + 1 → M1 c = M c) ∧ ∀ u : Nat, M1 (th + 1) u = if i ≤ u ∧ u < 5 then 0 else M (th + 1) u := by
  intro d
  induction d with
  | zero =>
    intro i k M hi hk
    obtain ⟨k, rfl⟩ : ∃ q, k = q + 1 := ⟨k - 1, by omega⟩
    obtain rfl : i = 5 := by omega
    exact ⟨M, by rw [f_X0_run_L19, if_pos (by decide)], fun _ _ => rfl, fun u => by rw [if_neg (by omega)]⟩
  | succ d ih =>
    intro i k M hi hk
    obtain ⟨k, rfl⟩ : ∃ q, k = q + 1 := ⟨k - 1, by omega⟩
    obtain ⟨M1, r1, r2, r3⟩ := ih (i + 1) k (jup M (th + 1) i 0) (by omega) (by omega)
    refine ⟨M1, ?_, fun c hc => by rw [r2 c hc, jup_cell hc], fun u => ?_⟩
    · rw [f_X0_run_L19, if_neg (by rw [show jw 5 = 5 by decide, jw_of (x := (i : Int)) (by omega) (by omega)]; omega), chk_pos (jin_of (by omega) (by omega) (by omega)), jwb (by omega), letm_ap, letv_ap, show (i : Int) + 1 = ((i + 1 : Nat) : Int) by omega]
      exact r1
    · rw [r3 u, jup_if]
      by_cases e : u = i
      · rw [if_neg (by omega), if_pos e, if_pos (by omega)]
      · by_cases c : i + 1 ≤ u ∧ u < 5
        · rw [if_pos c, if_pos (by omega)]
        · rw [if_neg c, if_neg e, if_neg (by omega)]
theorem q_zero : ∀ (d i k : Nat) (X : JMem), i + d = 5 → d < k → ∃ X1, f_X12_lives_L12 n k (i : Int) X = f_X12_lives_L30 n X1 ∧ (∀ c : Nat, c ≠ 184 → X1 c = X c) ∧ ∀ u : Nat, X1 184 u = if i ≤ u ∧ u < 5 then 0 else X 184 u := by
  intro d
  induction d with
  | zero =>
    intro i k X hi hk
    obtain ⟨k, rfl⟩ : ∃ q, k = q + 1 := ⟨k - 1, by omega⟩
    obtain rfl : i = 5 := by omega
    exact ⟨X, by rw [f_X12_lives_L12, if_pos (by decide)], fun _ _ => rfl, fun u => by rw [if_neg (by omega)]⟩
  | succ d ih =>
    intro i k X hi hk
    obtain ⟨k, rfl⟩ : ∃ q, k = q + 1 := ⟨k - 1, by omega⟩
    obtain ⟨X1, r1, r2, r3⟩ := ih (i + 1) k (jup X 184 i 0) (by omega) (by omega)
    refine ⟨X1, ?_, fun c hc => by rw [r2 c hc, jup_cell hc], fun u => ?_⟩
    · rw [f_X12_lives_L12, if_neg (by rw [show jw 5 = 5 by decide, jw_of (x := (i : Int)) (by omega) (by omega)]; omega), chk_pos (jin_of (by omega) (by omega) (by omega)), jwb (by omega), letm_ap, letv_ap, show (i : Int) + 1 = ((i + 1 : Nat) : Int) by omega]
      exact r1
    · rw [r3 u, jup_if]
      by_cases e : u = i
      · rw [if_neg (by omega), if_pos e, if_pos (by omega)]
      · by_cases c : i + 1 ≤ u ∧ u < 5
        · rw [if_pos c, if_pos (by omega)]
        · rw [if_neg c, if_neg e, if_neg (by omega)]
/-- a whole run of WEEKS, on both sides -/
theorem lv_life {th nw : Nat} (hf : 70000 ≤ n) (ht : LT th nw) (hP : RP (blk M 40 12) (X 168)) (hR : RN (blk M nw 8) (X 168)) (hW : WJ M (X 168)) {seed : Int} : ∃ M' X', f_X0_run n th 40 nw 60 seed M = some (0, M') ∧ f_X12_lives n seed X = some (0, X') ∧ LJ th nw M' X' ∧ M' th 0 = X' 167 33 ∧ 0 ≤ M' th 0 ∧ M' th 0 ≤ 300 ∧ LVE th nw M M' ∧ XVE X X' := by
  have ht' := ht
  unfold LT at ht'
  obtain ⟨M1, a1, a2, a3⟩ := lv_zero (n := n) (th := th) (nw := nw) 5 0 n (jup (jup (jup M th 0 0) th 2 seed) th 3 0) (by omega) (by omega)
  obtain ⟨X1, b1, b2, b3⟩ := q_zero (n := n) 5 0 n (jup (jup X 167 32 seed) 167 33 0) (by omega) (by omega)
  have f1 : ∀ c : Nat, c ≠ th → c ≠ th + 1 → M1 c = M c := fun c q1 q2 => by rw [a2 c q2, jup_cell q1, jup_cell q1, jup_cell q1]
  have f3 : M1 th 3 = ((0 : Nat) : Int) := by rw [a2 th (by omega), jup_if, if_pos rfl]; rfl
  have f0 : M1 th 0 = ((0 : Nat) : Int) := by rw [a2 th (by omega), jup_if, if_neg (by omega), jup_if, if_neg (by omega), jup_if, if_pos rfl]; rfl
  have f2 : M1 th 2 = seed := by rw [a2 th (by omega), jup_if, if_neg (by omega), jup_if, if_pos rfl]
  have x1 : ∀ c : Nat, c ≠ 167 → c ≠ 184 → X1 c = X c := fun c q1 q2 => by rw [b2 c q2, jup_cell q1, jup_cell q1]
  have x33 : X1 167 33 = ((0 : Nat) : Int) := by rw [b2 167 (by omega), jup_if, if_pos rfl]; rfl
  have x32 : X1 167 32 = seed := by rw [b2 167 (by omega), jup_if, if_neg (by omega), jup_if, if_pos rfl]
  have xj : ∀ j : Nat, j ≠ 32 → j ≠ 33 → X1 167 j = X 167 j := fun j j1 j2 => by rw [b2 167 (by omega), jup_if, if_neg j2, jup_if, if_neg j1]
  have hJ : LJ th nw M1 X1 := by
    refine ⟨?_, ?_, ?_, fun k k5 => ?_⟩
    · rw [x1 168 (by omega) (by omega), blk_congr (by decide) (M := M) (a := 40) (z := 12) (fun j hj => f1 _ (by omega) (by omega))]; exact hP
    · rw [x1 168 (by omega) (by omega), blk_congr (by decide) (M := M) (a := nw) (z := 8) (fun j hj => f1 _ (by omega) (by omega))]; exact hR
    · rw [f2, x32]
    · rw [a3 k, b3 k, if_pos (by omega), if_pos (by omega)]
  have hW1 : WJ M1 (X1 168) := hW.mv (fun c hc => f1 c (by omega) (by omega)) (fun i _ => by rw [x1 168 (by omega) (by omega)])
  obtain ⟨M2, X2, t1, t2, t3, t4, t5, t6, t7, t8⟩ := lv_run (n := n) ht (by omega) 301 0 0 M1 X1 (by omega) (by omega) hW1 hJ (fun o q => by omega) f3 f0 x33 (by omega) (fun q z => by
    obtain ⟨k, y1, y2, y3, -⟩ := hW1.2.2.2.2.2.2.1 0 (by omega) q z
    omega)
  refine ⟨M2, X2, ?_, ?_, t3, t4, t5, t6, fun c q1 q2 q3 q4 => by rw [t7 c q1 q2 q3 q4, f1 c q1 q2], fun c q1 q2 q3 q4 => by rw [t8.1 c q1 q2 q3 q4, x1 c q1 q4], fun j q1 q2 => by rw [t8.2.1 j q1 q2, xj j q1 q2], fun i hi => by rw [t8.2.2 i hi, x1 168 (by omega) (by omega)]⟩
  · unfold f_X0_run
    rw [letm_ap, letm_ap, letm_ap, letv_ap, show f_X0_run_L19 n th 40 nw 60 n 0 _ = _ from a1]
    unfold f_X0_run_L39
    rw [letv_ap]
    exact t1 0 n (by omega) (by omega) (by omega)
  · unfold f_X12_lives
    rw [letm_ap, letm_ap, letv_ap, show f_X12_lives_L12 n n 0 _ = _ from b1]
    unfold f_X12_lives_L30
    rw [letv_ap]
    exact t2 n (by omega)
end PLIVE

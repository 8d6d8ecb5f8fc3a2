section PMEAN
variable {n : Nat} {M X : JMem}
def Pf2 (M M' : JMem) : Prop := (∀ c : Nat, ((1 ≤ c ∧ c < 68) ∨ c = 86 ∨ c = 87 ∨ (92 ≤ c ∧ c < 167) ∨ (169 ≤ c ∧ c ≤ 173) ∨ c = 185) → M' c = M c) ∧ (∀ j : Nat, j ≠ 0 → M' 0 j = M 0 j) ∧ (∀ j : Nat, j ≠ 2 → j ≠ 27 → j ≠ 32 → j ≠ 33 → M' 167 j = M 167 j) ∧ ∀ i : Nat, i < 2016 → M' 168 i = M 168 i
/-- the frame, what was lived anew -/
theorem JR.frame2 (h : JR M) {M' : JMem} (hs : Rsta M') (h13 : M' 0 13 = M 0 13) (hk : ∀ b : Nat, ((3 ≤ b ∧ b ≤ 11) ∨ (92 ≤ b ∧ b < 167) ∨ (169 ≤ b ∧ b ≤ 173)) → M' b = M b) (h67 : ∀ j : Nat, (j = 10 ∨ j = 16 ∨ j = 17 ∨ j = 38) → M' 167 j = M 167 j) (hslot : ∀ k : Nat, 504 ≤ k → k < 2016 → M' 168 k = M 168 k)
    (hl : Rliv (M' 86) (M' 87) (M' 167 37) (M' 185)) (p1 : RP (blk M' 40 12) (M' 168)) (p2 : RN (blk M' 52 8) (M' 168)) (p3 : RK (blk M' 40 12) (M' 169)) (p4 : RW (M' 40 2) (M' 40 1) (M' 40 0) (blk M' 60 5) (M' 168)) : JR M' := by
  obtain ⟨g1, g2, g3, g4, g5, g6⟩ := h
  have kk := hk
  refine JR.of hs ?_ ?_ hl p1 p2 p3 p4 ?_
  · rw [show jwt M' = jwt M from funext fun t => by unfold jwt; rw [kk 3 (by omega), kk 4 (by omega), kk 5 (by omega), kk 6 (by omega)], kk 7 (by omega), kk 8 (by omega), kk 170 (by omega), kk 171 (by omega), kk 172 (by omega)]
    exact g2
  · rw [kk 9 (by omega), kk 10 (by omega), kk 11 (by omega), kk 173 (by omega)]
    unfold Rtxt at g3 ⊢
    rw [h67 10 (by omega), h67 16 (by omega), h67 17 (by omega)]
    exact g3
  · unfold Rmrk at g6 ⊢
    rw [h13, h67 38 (by omega)]
    refine ⟨g6.1, g6.2.1, g6.2.2.1, fun i hi hl => ?_⟩
    have q := g6.2.2.2 i hi hl
    unfold Rpark at q ⊢
    have es : ∀ k : Nat, k < 504 → slot M' (504 * (i + 1)) k = slot M (504 * (i + 1)) k := fun k hk5 => by unfold slot; exact hslot _ (by omega) (by omega)
    rw [blk_congr (by decide) (M := M) (M' := M') (a := 92 + 25 * i) (z := 12) (fun j hj => kk _ (by omega)), blk_congr (by decide) (M := M) (M' := M') (a := 104 + 25 * i) (z := 8) (fun j hj => kk _ (by omega)), blk_congr (by decide) (M := M) (M' := M') (a := 112 + 25 * i) (z := 5) (fun j hj => kk _ (by omega)), kk (92 + 25 * i) (by omega), kk 169 (by omega)]
    obtain ⟨r1, r2, r3, r4⟩ := q
    refine ⟨r1.congr2 (fun k hk4 => es k (by omega)) (fun t k ht hk5 => es _ (by omega)) (fun b hb => ⟨es _ (by omega), es _ (by omega), es _ (by omega)⟩), r2.congr2 (fun k hk7 _ => es k (by omega)) (fun t ht => ⟨es _ (by omega), es _ (by omega), es _ (by omega)⟩) (fun b hb => ⟨es _ (by omega), es _ (by omega), es _ (by omega), es _ (by omega), es _ (by omega), es _ (by omega)⟩), r3, r4.congr2 (es 7 (by omega)) (fun k j hk6 hj => es _ (by omega))⟩
/-- both tell the same fraction, after runs -/
theorem Pr.tell2 {f g : JMem → Option (Int × JMem)} (h : JR M) (hn : 1000 ≤ n) {a b : Int} (ha : 0 ≤ a ∧ a < 4611686018427387904) (hb : 0 < b ∧ b < 35184372088832) {M1 : JMem} (hf : f M = bnd (f_X11_tellFraction n a b M1) fun r M4 => chk (jw r = 0 ∨ jw r = 1) (some (r, M4))) (h1 : Pf2 M M1)
    (hg : ∀ M1' : JMem, (∀ c : Nat, c ≠ 0 → M1' c = M1 c) → ∃ M2, Pf2 M1' M2 ∧ M2 0 = M1' 0 ∧ g M1' = bnd (f_X12_tellsBy n a b M2) fun r M4 => chk (jw r = 0 ∨ jw r = 1) (some (r, M4))) : ∃ r M1 s M2, f M = some (r, M1) ∧ g M1 = some (s, M2) ∧ jw r = jw s ∧ JR M2 := by
  obtain ⟨G, g1, g2, g3, g4, g5⟩ := gcd_L (n := n) (n0 := a) (d0 := b) 45 0 n n a b ha (by omega) (by rw [show ((2 ^ 45 : Nat) : Int) = 35184372088832 by decide]; exact hb.2) (by omega) (by omega) (by omega) (by omega)
  have G0 : 0 < G := g5 (Or.inr hb.1)
  have jG : ¬ jwl G = 0 := by rw [jwl_of (x := G) (by omega) (by omega)]; omega
  have jc : ¬ jw (jcmp G 0) ≤ 0 := by
    have := (jcmp_sign (x := G) (y := 0)).2.1
    rw [jwl_of (x := G) (by omega) (by omega), jwl_0] at this
    have := this.2 G0
    omega
  have e1 : f M = some (1, jup (jup (jup M1 0 1 (jldiv a G)) 0 2 (jldiv b G)) 0 0 0) := by
    rw [hf]
    unfold f_X11_tellFraction f_X11_commonDivisor f_X11_tellFraction_L30
    simp only [letv_ap, letm_ap]
    rw [show f_X11_commonDivisor_L3 n n a b 0 M1 = _ from g1 M1, bnd_some, if_neg jc, chk_pos jG, chk_pos jG]
    rfl
  obtain ⟨M2, k1, k2, k3⟩ := hg (jup (jup (jup M1 0 1 (jldiv a G)) 0 2 (jldiv b G)) 0 0 0) (fun c hc => by rw [jup_cell hc, jup_cell hc, jup_cell hc])
  have e2 : g (jup (jup (jup M1 0 1 (jldiv a G)) 0 2 (jldiv b G)) 0 0 0) = some (1, jup (jup (jup M2 167 3 (jldiv a G)) 167 4 (jldiv b G)) 167 2 0) := by
    rw [k3]
    unfold f_X12_tellsBy
    simp only [letv_ap]
    rw [g2 M2]
    unfold f_X12_tellsBy_L31
    simp only [letm_ap]
    rw [chk_pos jG, chk_pos jG, show ∀ X : JMem, f_X12_is n 0 X = some (1, jup X 167 2 0) from fun X => rfl, bnd_some, chk_pos (by decide), bnd_some, chk_pos (by decide)]
  refine ⟨1, _, 1, _, e1, e2, rfl, ?_⟩
  obtain ⟨p1, p2, p3, p4⟩ := h1
  obtain ⟨q1, q2, q3, q4⟩ := k1
  have hc := h.cur
  have keep : ∀ c : Nat, c ≠ 0 → c ≠ 167 → jup (jup (jup M2 167 3 (jldiv a G)) 167 4 (jldiv b G)) 167 2 0 c = M2 c := fun c _ c2 => by rw [jup_cell c2, jup_cell c2, jup_cell c2]
  have full : ∀ c : Nat, ((1 ≤ c ∧ c < 68) ∨ c = 86 ∨ c = 87 ∨ (92 ≤ c ∧ c < 167) ∨ (169 ≤ c ∧ c ≤ 173) ∨ c = 185) → jup (jup (jup M2 167 3 (jldiv a G)) 167 4 (jldiv b G)) 167 2 0 c = M c := fun c c1 => by
    rw [keep c (by omega) (by omega), q1 c c1, jup_cell (by omega), jup_cell (by omega), jup_cell (by omega), p1 c c1]
  have at0 : jup (jup (jup M2 167 3 (jldiv a G)) 167 4 (jldiv b G)) 167 2 0 0 = jup (jup (jup M1 0 1 (jldiv a G)) 0 2 (jldiv b G)) 0 0 0 0 := by
    rw [jup_cell (by omega), jup_cell (by omega), jup_cell (by omega), k2]
  have at168 : ∀ i : Nat, i < 2016 → jup (jup (jup M2 167 3 (jldiv a G)) 167 4 (jldiv b G)) 167 2 0 168 i = M 168 i := fun i hi => by
    rw [keep 168 (by omega) (by omega), q4 i hi, jup_cell (by omega), jup_cell (by omega), jup_cell (by omega), p4 i hi]
  have at67 : ∀ j : Nat, j ≠ 2 → j ≠ 3 → j ≠ 4 → j ≠ 27 → j ≠ 32 → j ≠ 33 → jup (jup (jup M2 167 3 (jldiv a G)) 167 4 (jldiv b G)) 167 2 0 167 j = M 167 j := fun j j1 j2 j3 j4 j5 j6 => by
    rw [jup_at, if_neg (fun z => j1 z.2), jup_at, if_neg (fun z => j3 z.2), jup_at, if_neg (fun z => j2 z.2), q3 j j1 j4 j5 j6, jup_cell (by omega), jup_cell (by omega), jup_cell (by omega), p3 j j1 j4 j5 j6]
  refine h.frame ⟨?_, ?_, ?_⟩ ?_ (fun c hb => full c (by unfold keepC at hb; omega)) (fun j hj => at67 j (by omega) (by omega) (by omega) (by omega) (by omega) (by omega)) (fun k k1 k2 => at168 k k2) ?_ ?_ ?_ ?_
  · rw [at0]; rfl
  · rw [at0]; rfl
  · rw [at0]; rfl
  · rw [at0, jup_at, if_neg (by omega), jup_at, if_neg (by omega), jup_at, if_neg (by omega)]; exact p2 13 (by omega)
  · rw [blk_congr (by decide) (M := M) (a := 40) (z := 12) (fun j hj => full _ (by omega))]
    exact hc.1.low (fun i hi => at168 i (by omega))
  · rw [blk_congr (by decide) (M := M) (a := 52) (z := 8) (fun j hj => full _ (by omega))]
    exact hc.2.1.low (fun i hi => at168 i (by omega))
  · rw [blk_congr (by decide) (M := M) (a := 40) (z := 12) (fun j hj => full _ (by omega)), full 169 (by omega)]
    exact hc.2.2.1
  · rw [full 40 (by omega), blk_congr (by decide) (M := M) (a := 60) (z := 5) (fun j hj => full _ (by omega))]
    exact hc.2.2.2.congr2 (at168 7 (by omega)) (fun k j hk hj => at168 _ (by omega))
theorem jwm1 : jw (-1) = -1 := by decide
theorem q_copy5 : ∀ (d i k : Nat) (X : JMem), i + d = 5 → d < k → ∃ X1, f_X12_live_L43 n k (i : Int) X = f_X12_live_L66 n X1 ∧ (∀ c : Nat, c ≠ 185 → X1 c = X c) ∧ ∀ u : Nat, X1 185 u = if i ≤ u ∧ u < 5 then X 184 u else X 185 u := by
  intro d
  induction d with
  | zero =>
    intro i k X hi hk
    obtain ⟨k, rfl⟩ : ∃ q, k = q + 1 := ⟨k - 1, by omega⟩
    obtain rfl : i = 5 := by omega
    exact ⟨X, by rw [f_X12_live_L43, if_pos (by decide)], fun _ _ => rfl, fun u => by rw [if_neg (by omega)]⟩
  | succ d ih =>
    intro i k X hi hk
    obtain ⟨k, rfl⟩ : ∃ q, k = q + 1 := ⟨k - 1, by omega⟩
    obtain ⟨X1, r1, r2, r3⟩ := ih (i + 1) k (jup X 185 i (X 184 i)) (by omega) (by omega)
    refine ⟨X1, ?_, fun c hc => by rw [r2 c hc, jup_cell hc], fun u => ?_⟩
    · rw [f_X12_live_L43, if_neg (by rw [show jw 5 = 5 by decide, jw_of (x := (i : Int)) (by omega) (by omega)]; omega), chk_pos (jin_of (by omega) (by omega) (by omega)), chk_pos (jin_of (by omega) (by omega) (by omega)), jwb (by omega), letm_ap, letv_ap, show (i : Int) + 1 = ((i + 1 : Nat) : Int) by omega]
      exact r1
    · rw [r3 u, jup_cell (by omega), jup_if]
      by_cases e : u = i
      · rw [if_neg (by omega), if_pos e, if_pos (by omega), e]
      · by_cases c : i + 1 ≤ u ∧ u < 5
        · rw [if_pos c, if_pos (by omega)]
        · rw [if_neg c, if_neg e, if_neg (by omega)]
theorem JR.wks (h : JR M) : (M 60 0 = 0 ∧ M 168 7 = -1) ∨ (M 60 0 = 1 ∧ 0 ≤ M 168 7 ∧ M 168 7 ≤ 60) := by
  have q := h.cur.2.2.2
  unfold RW at q
  rcases q with q | q
  · exact Or.inl q
  · obtain ⟨q1, q2, q3, q4, -⟩ := q
    have e1 : M 60 0 = 1 := q1
    have e2 : M 168 7 = M 60 2 := q2
    have e3 : 0 ≤ M 60 2 := q3
    have e4 : M 60 2 ≤ 60 := q4
    exact Or.inr ⟨e1, by omega, by omega⟩
theorem lv_life2 {th nw : Nat} {A : Nat → Int} (hf : 70000 ≤ n) (ht : LT th nw) (hP : RP (blk M 40 12) A) (hR : RN (blk M nw 8) A) (hW : WJ M A) {seed : Int} : ∃ M', f_X0_run n th 40 nw 60 seed M = some (0, M') ∧ 0 ≤ M' th 0 ∧ M' th 0 ≤ 300 ∧ LVE th nw M M' ∧ ∀ X : JMem, X 168 = A → ∃ X', f_X12_lives n seed X = some (0, X') ∧ LJ th nw M' X' ∧ M' th 0 = X' 167 33 ∧ XVE X X' := by
  obtain ⟨M1, X1, a1, -, -, -, a5, a6, a7, -⟩ := lv_life (n := n) (M := M) (X := jrow M 168 A) (seed := seed) hf ht (by rw [jrow_same]; exact hP) (by rw [jrow_same]; exact hR) (by rw [jrow_same]; exact hW)
  refine ⟨M1, a1, a5, a6, a7, fun X hX => ?_⟩
  obtain ⟨M2, X2, b1, b2, b3, b4, b5, b6, b7, b8⟩ := lv_life (n := n) (M := M) (X := X) (seed := seed) hf ht (by rw [hX]; exact hP) (by rw [hX]; exact hR) (by rw [hX]; exact hW)
  have e : M2 = M1 := by
    have := a1.symm.trans b1
    simpa using this.symm
  subst e
  exact ⟨X2, b2, b3, b4, b8⟩
theorem p_live (hf : 70000 ≤ n) : jO_live JR n := by
  intro x1 hx M h
  have e := jwI hx
  have hc := h.cur
  have hw := h.wks
  have c9 : jw 9999 = 9999 := by decide
  have hfr : ∀ M', f_X12_isFrom n (jw x1) 0 9999 M' = some (if 0 ≤ x1 ∧ x1 ≤ 9999 then 1 else 0, M') := fun M' => by
    rw [e]; exact q_isFrom ⟨by have := hx.1; omega, by have := hx.2; omega⟩ (by omega) (by omega)
  by_cases h1 : 0 ≤ x1 ∧ x1 ≤ 9999
  · rcases hw with ⟨w1, w2⟩ | ⟨w1, w2, w3⟩
    · refine Pr.end (r := -1) (s := -1) (x := 6) (y := 6) h ?_ ?_ rfl rfl
      · unfold f_X11_live
        rw [if_neg (by omega), if_pos (by omega), w1, if_pos (by decide)]; rfl
      · unfold f_X12_live
        rw [hfr, bnd_some, if_pos h1, if_neg (by decide), chk_pos (by decide), jn7, show jup M 0 0 6 168 7 = -1 from w2, if_pos rfl]; rfl
    · have hW := hc.2.2.2.wj w1
      have ht : LT 86 52 := Or.inl ⟨rfl, rfl⟩
      obtain ⟨M1', b1, b5, b6, b7, bX⟩ := lv_life2 (n := n) (M := M) (A := M 168) (seed := x1) hf ht hc.1 hc.2.1 hW
      have e68 : ∀ s : Int, jup M1' 0 0 s 168 = M 168 := fun s => by rw [jup_cell (by omega), b7 168 (by omega) (by omega) (by omega) (by omega)]
      obtain ⟨X1, b2, b3, b4, b8⟩ := bX (jup M1' 0 0 0) (e68 0)
      obtain ⟨X2, d1, d2, d3⟩ := q_copy5 (n := n) 5 0 n X1 (by omega) (by omega)
      have kc : ∀ c : Nat, c ≠ 0 → c ≠ 86 → c ≠ 87 → c ≠ 88 → c < 52 ∨ 60 ≤ c → c ≠ 167 → c ≠ 168 → c ≠ 183 → c ≠ 184 → c ≠ 185 → jup (jup X2 167 37 1) 167 2 0 c = M c := fun c q0 q1 q2 q3 q4 q5 q6 q7 q8 q9 => by
        rw [jup_cell q5, jup_cell q5, d2 c q9, b8.1 c q5 q6 q7 q8, jup_cell q0, b7 c q1 q2 q3 q4]
      have k0 : ∀ c : Nat, c ≠ 167 → c ≠ 168 → c ≠ 183 → c ≠ 184 → c ≠ 185 → jup (jup X2 167 37 1) 167 2 0 c = jup M1' 0 0 0 c := fun c q5 q6 q7 q8 q9 => by
        rw [jup_cell q5, jup_cell q5, d2 c q9, b8.1 c q5 q6 q7 q8]
      have k67 : ∀ j : Nat, j ≠ 2 → j ≠ 32 → j ≠ 33 → j ≠ 37 → jup (jup X2 167 37 1) 167 2 0 167 j = M 167 j := fun j j1 j2 j3 j4 => by
        rw [jup_if, if_neg j1, jup_if, if_neg j4, d2 167 (by omega), b8.2.1 j j2 j3, jup_cell (by omega), b7 167 (by omega) (by omega) (by omega) (by omega)]
      have k68 : jup (jup X2 167 37 1) 167 2 0 168 = X1 168 := by rw [jup_cell (by omega), jup_cell (by omega), d2 168 (by omega)]
      have k68i : ∀ i : Nat, i = 7 ∨ 136 ≤ i → jup (jup X2 167 37 1) 167 2 0 168 i = M 168 i := fun i hi => by
        rw [k68, b8.2.2 i hi, e68]
      refine ⟨M1' 86 0, jup M1' 0 0 0, X1 167 33, jup (jup X2 167 37 1) 167 2 0, ?_, ?_, by rw [b4], ?_⟩
      · unfold f_X11_live
        rw [if_neg (by omega), if_pos (by omega), w1, if_neg (by decide), b1, bnd_some, q_answer, bnd_some]
      · unfold f_X12_live
        rw [hfr, bnd_some, if_pos h1, if_neg (by decide), chk_pos (by decide), jn7, e68, if_neg (by rw [jw_of (x := M 168 7) (by omega) (by omega), jwm1]; omega), b2, bnd_some, letv_ap, show f_X12_live_L43 n n 0 X1 = _ from d1]
        unfold f_X12_live_L66
        rw [chk_pos (by decide), letm_ap, show jup X2 167 37 1 167 33 = X1 167 33 by rw [jup_if, if_neg (by omega), d2 167 (by omega)], q_gives, bnd_some]
      · refine h.frame2 ⟨?_, ?_, ?_⟩ ?_ (fun b hb => kc b (by omega) (by omega) (by omega) (by omega) (by omega) (by omega) (by omega) (by omega) (by omega) (by omega)) (fun j hj => k67 j (by omega) (by omega) (by omega) (by omega)) (fun k k1 k2 => k68i k (by omega)) (Or.inr ⟨?_, ?_, ?_, fun k k5 => ?_⟩) ?_ ?_ ?_ ?_
        · rw [k0 0 (by omega) (by omega) (by omega) (by omega) (by omega), jup_if, if_pos rfl, jup_if, if_pos rfl]
        · rw [k0 0 (by omega) (by omega) (by omega) (by omega) (by omega), jup_if, if_neg (by omega), b7 0 (by omega) (by omega) (by omega) (by omega), k67 3 (by omega) (by omega) (by omega) (by omega)]; exact h.1.2.1
        · rw [k0 0 (by omega) (by omega) (by omega) (by omega) (by omega), jup_if, if_neg (by omega), b7 0 (by omega) (by omega) (by omega) (by omega), k67 4 (by omega) (by omega) (by omega) (by omega)]; exact h.1.2.2
        · rw [k0 0 (by omega) (by omega) (by omega) (by omega) (by omega), jup_if, if_neg (by omega), b7 0 (by omega) (by omega) (by omega) (by omega)]
        · rw [k0 86 (by omega) (by omega) (by omega) (by omega) (by omega), jup_cell (by omega)]; exact b5
        · rw [k0 86 (by omega) (by omega) (by omega) (by omega) (by omega), jup_cell (by omega)]; omega
        · rw [jup_if, if_neg (by omega), jup_if, if_pos rfl]
        · rw [k0 87 (by omega) (by omega) (by omega) (by omega) (by omega), jup_cell (by omega), jup_cell (by omega), jup_cell (by omega), d3 k, if_pos (by omega)]
          exact b3.2.2.2 k k5
        · rw [k68, blk_congr (by decide) (M := M) (a := 40) (z := 12) (fun j hj => kc _ (by omega) (by omega) (by omega) (by omega) (by omega) (by omega) (by omega) (by omega) (by omega) (by omega))]
          have q := b3.1
          rw [blk_congr (by decide) (M := M) (a := 40) (z := 12) (fun j hj => b7 _ (by omega) (by omega) (by omega) (by omega))] at q
          exact q
        · rw [k68, blk_congr (by decide) (M := M1') (a := 52) (z := 8) (fun j hj => by rw [k0 _ (by omega) (by omega) (by omega) (by omega) (by omega), jup_cell (by omega)])]
          exact b3.2.1
        · rw [blk_congr (by decide) (M := M) (a := 40) (z := 12) (fun j hj => kc _ (by omega) (by omega) (by omega) (by omega) (by omega) (by omega) (by omega) (by omega) (by omega) (by omega)), kc 169 (by omega) (by omega) (by omega) (by omega) (by omega) (by omega) (by omega) (by omega) (by omega) (by omega)]
          exact hc.2.2.1
        · rw [kc 40 (by omega) (by omega) (by omega) (by omega) (by omega) (by omega) (by omega) (by omega) (by omega) (by omega), blk_congr (by decide) (M := M) (a := 60) (z := 5) (fun j hj => kc _ (by omega) (by omega) (by omega) (by omega) (by omega) (by omega) (by omega) (by omega) (by omega) (by omega))]
          exact hc.2.2.2.congr2 (k68i 7 (by omega)) (fun k j hk hj => k68i _ (by omega))
  · refine Pr.end (r := -1) (s := -1) (x := 1) (y := 1) h ?_ ?_ rfl rfl
    · unfold f_X11_live f_X11_live_L11
      by_cases h2 : jw x1 < 0
      · rw [if_pos h2]; rfl
      · rw [if_neg h2, if_neg (by omega)]; rfl
    · unfold f_X12_live
      rw [hfr, bnd_some, if_neg h1, if_pos (by decide)]; rfl
/-- the runs of mean -/
theorem lv_mean {m : Nat} (hf : 70000 ≤ n) (hm : m ≤ 20) {x1 : Int} {A B : Nat → Int} (hB : B = keepA A 2520) : ∀ (d i q : Nat) (v : Int) (M : JMem), i + d = m → d < q → 0 ≤ v → RP (blk M 40 12) B → RN (blk M 52 8) B → WJ M B →
    ∃ (s : Int) (M' : JMem), f_X11_mean_L54 n q x1 (m : Int) v (i : Int) M = f_X11_mean_L114 n (m : Int) s M' ∧ 0 ≤ s ∧ s ≤ v + 8 * d ∧ (∀ c : Nat, c < 68 ∨ 76 ≤ c → c ≠ 89 → c ≠ 90 → c ≠ 91 → M' c = M c) ∧
      ∀ (q' : Nat) (X : JMem), d < q' → X 168 = B → ∃ X' : JMem, f_X12_mean_L71 n q' x1 (m : Int) v (i : Int) X = f_X12_mean_L110 n (m : Int) s X' ∧ (∀ c : Nat, c ≠ 167 → c ≠ 168 → c ≠ 183 → c ≠ 184 → X' c = X c) ∧ X' 168 = B ∧ ∀ j : Nat, j ≠ 32 → j ≠ 33 → X' 167 j = X 167 j := by
  intro d
  induction d with
  | zero =>
    intro i q v M hi hq hv _ _ _
    obtain ⟨q, rfl⟩ : ∃ z, q = z + 1 := ⟨q - 1, by omega⟩
    obtain rfl : i = m := by omega
    refine ⟨v, M, by rw [f_X11_mean_L54, if_pos (Int.le_refl _)], hv, by omega, fun _ _ _ _ _ => rfl, fun q' X hq' hX => ?_⟩
    obtain ⟨q', rfl⟩ : ∃ z, q' = z + 1 := ⟨q' - 1, by omega⟩
    exact ⟨X, by rw [f_X12_mean_L71, if_pos (Int.le_refl _)], fun _ _ _ _ _ => rfl, hX, fun _ _ _ => rfl⟩
  | succ d ih =>
    intro i q v M hi hq hv hP hR hW
    obtain ⟨q, rfl⟩ : ∃ z, q = z + 1 := ⟨q - 1, by omega⟩
    have ht : LT 89 68 := Or.inr ⟨rfl, rfl⟩
    obtain ⟨M1, a1, a2, a3⟩ := c_copyRN (n := n) (M := M) (th := 68) (p := 52) (A := B) (by omega) hR
    obtain ⟨M2, b1, b5, b6, b7, bX⟩ := lv_life2 (n := n) (M := M1) (A := B) (seed := x1 + i) hf ht (by rw [blk_congr (by decide) (M := M) (a := 40) (z := 12) (fun j hj => a2 _ (by omega))]; exact hP) a3 (hW.mv (fun c hc => a2 c (by omega)) (fun _ _ => rfl))
    have hS : S8 (M2 68 3) := by
      obtain ⟨X2, b2, b3, b4, b8⟩ := bX (jrow M 168 B) (jrow_same _ _)
      have h3 := b3.2.1.heads.2.2.2.1
      rw [blk_at (by omega), Nat.add_zero] at h3
      exact h3.1
    have pr := pcI_range hS
    have k2 : ∀ c : Nat, c < 68 ∨ 76 ≤ c → c ≠ 89 → c ≠ 90 → c ≠ 91 → M2 c = M c := fun c q1 q2 q3 q4 => by rw [b7 c (by omega) (by omega) (by omega) (by omega), a2 c (by omega)]
    have jp : jw (pcI (M2 68 3)) = pcI (M2 68 3) := jw_of (by omega) (by omega)
    have jle : ¬ jw (m : Int) ≤ jw (i : Int) := by rw [jw_of (x := (m : Int)) (by omega) (by omega), jw_of (x := (i : Int)) (by omega) (by omega)]; omega
    obtain ⟨s, M3, s1, s3, s4, s5, sX⟩ := ih (i + 1) q (v + pcI (M2 68 3)) M2 (by omega) (by omega) (by omega) (by rw [blk_congr (by decide) (M := M) (a := 40) (z := 12) (fun j hj => k2 _ (by omega) (by omega) (by omega) (by omega))]; exact hP) (by rw [blk_congr (by decide) (M := M) (a := 52) (z := 8) (fun j hj => k2 _ (by omega) (by omega) (by omega) (by omega))]; exact hR) (hW.mv (fun c hc => k2 c (by omega) (by omega) (by omega) (by omega)) (fun _ _ => rfl))
    refine ⟨s, M3, ?_, s3, by omega, fun c q1 q2 q3 q4 => by rw [s5 c q1 q2 q3 q4, k2 c q1 q2 q3 q4], fun q' X hq' hX => ?_⟩
    · rw [f_X11_mean_L54, if_neg jle, a1, bnd_some, b1, bnd_some, q_bc hS, bnd_some, letv_ap, letv_ap, jp, show (i : Int) + 1 = ((i + 1 : Nat) : Int) by omega]
      exact s1
    · obtain ⟨q', rfl⟩ : ∃ z, q' = z + 1 := ⟨q' - 1, by omega⟩
      obtain ⟨X2, b2, b3, b4, b8⟩ := bX X hX
      have hA2 := SA.of b3.1 b3.2.1
      have h3 := b3.2.1.heads.2.2.2.1
      rw [blk_at (by omega), Nat.add_zero] at h3
      obtain ⟨r, r1, r2, r3⟩ := q_beastsWith (n := n) (M := X2) (what := 3) (by omega) (by omega) hA2.2.2.1 (fun b b8 hb => by rw [show 56 + 10 * b + 3 = 59 + 10 * b by omega]; exact (hA2.2.2.2.2.2.2 b b8 hb).2.1)
      have er : M2 68 3 = r := S8.ext h3.1 r2 fun b b8 => by rw [Bool.eq_iff_iff, h3.2 b b8, r3 b b8, show 56 + 10 * b + 3 = 59 + 10 * b by omega]
      have rA : restA (X2 168) 2520 = B := by
        rw [hB]
        refine restA_keep (by omega) fun i hi => ?_
        rw [b8.2.2 i (Or.inr hi), hX, hB]
      obtain ⟨X3, s2, s6, s7, s8⟩ := sX q' (jrow X2 168 B) (by omega) (jrow_same _ _)
      refine ⟨X3, ?_, fun c q1 q2 q3 q4 => by rw [s6 c q1 q2 q3 q4, jrow_ne _ q2, b8.1 c q1 q2 q3 q4], s7, fun j j1 j2 => by rw [s8 j j1 j2, jrow_ne _ (by omega), b8.2.1 j j1 j2]⟩
      rw [f_X12_mean_L71, if_neg jle, b2, bnd_some, show f_X12_beastsWith n 3 X2 = _ from r1, bnd_some, q_bits (by omega) r2, bnd_some, letv_ap, show f_X12_restores n 2520 X2 = _ from q_restores (n := n) (M := X2) (t := 2520) (by omega) (by omega) (by omega), bnd_some, rA, letv_ap, ← er, jp, show (i : Int) + 1 = ((i + 1 : Nat) : Int) by omega]
      exact s2
theorem p_mean (hf : 70000 ≤ n) : jO_mean JR n := by
  intro x1 x2 hx hx2 M h
  have e := jwI hx
  have e2 := jwI hx2
  have hc := h.cur
  have hw := h.wks
  have c9 : jw 9999 = 9999 := by decide
  have c1 : jw 1 = 1 := by decide
  have c20 : jw 20 = 20 := by decide
  have hfr : ∀ M', f_X12_isFrom n (jw x1) 0 9999 M' = some (if 0 ≤ x1 ∧ x1 ≤ 9999 then 1 else 0, M') := fun M' => by
    rw [e]; exact q_isFrom ⟨by have := hx.1; omega, by have := hx.2; omega⟩ (by omega) (by omega)
  have hfr2 : ∀ M', f_X12_isFrom n (jw x2) 1 20 M' = some (if 1 ≤ x2 ∧ x2 ≤ 20 then 1 else 0, M') := fun M' => by
    rw [e2]; exact q_isFrom ⟨by have := hx2.1; omega, by have := hx2.2; omega⟩ (by omega) (by omega)
  by_cases h2 : 1 ≤ x2 ∧ x2 ≤ 20
  · have jd : jw (9999 - (x2 - 1)) = 9999 - (x2 - 1) := jw_of (by omega) (by omega)
    by_cases h1 : 0 ≤ x1 ∧ x1 ≤ 9999 - (x2 - 1)
    · have js : jw (x1 + x2 - 1) = x1 + x2 - 1 := jw_of (by omega) (by omega)
      rcases hw with ⟨w1, w2⟩ | ⟨w1, w2, w3⟩
      · refine Pr.end (r := 0) (s := 0) (x := 6) (y := 6) h ?_ ?_ rfl rfl
        · unfold f_X11_mean
          rw [if_neg (by omega), if_neg (by omega), if_neg (by omega), if_pos (by omega), w1, if_pos (by decide)]; rfl
        · unfold f_X12_mean
          rw [hfr, bnd_some, if_pos (show 0 ≤ x1 ∧ x1 ≤ 9999 by omega), if_neg (by decide), hfr2, bnd_some, if_pos h2, if_neg (by decide), if_pos (by omega), chk_pos (by decide), jn7, show jup M 0 0 6 168 7 = -1 from w2, if_pos rfl]; rfl
      · obtain ⟨m, m21, rfl⟩ := natOf (x := x2) (k := 21) (by omega) (by omega)
        have low : ∀ i : Nat, i < 2520 → keepA (M 168) 2520 i = M 168 i := fun i hi => keepA_low hi
        have hP := hc.1.low (A' := keepA (M 168) 2520) (fun i hi => low i (by omega))
        have hR := hc.2.1.low (A' := keepA (M 168) 2520) (fun i hi => low i (by omega))
        have hW := (hc.2.2.2.congr2 (A' := keepA (M 168) 2520) (low 7 (by omega)) (fun k j hk hj => low _ (by omega))).wj w1
        obtain ⟨s, M1, a1, a3, a4, a5, aX⟩ := lv_mean (n := n) (m := m) (x1 := x1) (A := M 168) hf (by omega) rfl m 0 n 0 M (by omega) (by omega) (by omega) hP hR hW
        refine Pr.tell2 (n := n) (a := s) (b := (m : Int)) (M1 := M1) h (by omega) ⟨a3, by omega⟩ ⟨by omega, by omega⟩ ?_ ⟨fun c hc => a5 c (by omega) (by omega) (by omega) (by omega), fun j _ => by rw [a5 0 (by omega) (by omega) (by omega) (by omega)], fun j _ _ _ _ => by rw [a5 167 (by omega) (by omega) (by omega) (by omega)], fun i _ => by rw [a5 168 (by omega) (by omega) (by omega) (by omega)]⟩ (fun M1' hM1 => ?_)
        · unfold f_X11_mean
          rw [if_neg (by omega), if_neg (by omega), if_neg (by omega), if_pos (by omega), w1, if_neg (by decide), letv_ap, letv_ap, show f_X11_mean_L54 n n x1 (m : Int) 0 0 M = _ from a1]
          unfold f_X11_mean_L114
          rw [e2]
        · have e68 : M1' 168 = M 168 := by rw [hM1 168 (by omega), a5 168 (by omega) (by omega) (by omega) (by omega)]
          obtain ⟨X1, b2, b6, b7, b8⟩ := aX n (jrow M1' 168 (keepA (M 168) 2520)) (by omega) (jrow_same _ _)
          refine ⟨X1, ⟨fun c hc => by rw [b6 c (by omega) (by omega) (by omega) (by omega), jrow_ne _ (by omega)], fun j _ => by rw [b6 0 (by omega) (by omega) (by omega) (by omega), jrow_ne _ (by omega)], fun j j1 j2 j3 j4 => by rw [b8 j j3 j4, jrow_ne _ (by omega)], fun i hi => by rw [b7, low i (by omega), e68]⟩, by rw [b6 0 (by omega) (by omega) (by omega) (by omega), jrow_ne _ (by omega)], ?_⟩
          unfold f_X12_mean
          rw [hfr, bnd_some, if_pos (show 0 ≤ x1 ∧ x1 ≤ 9999 by omega), if_neg (by decide), hfr2, bnd_some, if_pos h2, if_neg (by decide), if_pos (by omega), chk_pos (by decide), jn7, e68, if_neg (by rw [jw_of (x := M 168 7) (by omega) (by omega), jwm1]; omega), show f_X12_keeps n 2520 M1' = _ from q_keeps (n := n) (M := M1') (t := 2520) (by omega) (by omega) (by omega), bnd_some, e68, letv_ap, letv_ap, show f_X12_mean_L71 n n x1 (m : Int) 0 0 _ = _ from b2]
          unfold f_X12_mean_L110
          rw [e2]
    · have js : 0 ≤ x1 → x1 ≤ 9999 → jw (x1 + x2 - 1) = x1 + x2 - 1 := fun _ _ => jw_of (by omega) (by omega)
      refine Pr.end (r := 0) (s := 0) (x := 1) (y := 1) h ?_ ?_ rfl rfl
      · unfold f_X11_mean f_X11_mean_L26
        by_cases h3 : jw x1 < 0
        · rw [if_pos h3]; rfl
        · rw [if_neg h3, if_neg (by omega), if_neg (by omega), if_neg (by omega)]; rfl
      · unfold f_X12_mean f_X12_mean_L35
        by_cases h3 : 0 ≤ x1 ∧ x1 ≤ 9999
        · have := js h3.1 h3.2
          rw [hfr, bnd_some, if_pos h3, if_neg (by decide), hfr2, bnd_some, if_pos h2, if_neg (by decide), if_neg (by omega)]; rfl
        · rw [hfr, bnd_some, if_neg h3, if_pos (by decide)]; rfl
  · refine Pr.end (r := 0) (s := 0) (x := 1) (y := 1) h ?_ ?_ rfl rfl
    · unfold f_X11_mean f_X11_mean_L26
      by_cases h3 : jw x1 < 0
      · rw [if_pos h3]; rfl
      · by_cases h4 : jw x2 < jw 1
        · rw [if_neg h3, if_pos h4]; rfl
        · rw [if_neg h3, if_neg h4, if_pos (by omega)]; rfl
    · unfold f_X12_mean f_X12_mean_L35
      by_cases h3 : 0 ≤ x1 ∧ x1 ≤ 9999
      · rw [hfr, bnd_some, if_pos h3, if_neg (by decide), hfr2, bnd_some, if_neg h2, if_pos (by decide)]; rfl
      · rw [hfr, bnd_some, if_neg h3, if_pos (by decide)]; rfl
end PMEAN

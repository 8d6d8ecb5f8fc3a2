section PWGO
variable {n : Nat} {M X M0 X0 : JMem} {T : Nat → Int} {N s s0 k r dp st : Nat} {w : List Nat} {v : Int} {a : Nat → Int}
/-- a STEP that is not an END -/
theorem ws_go {c : Nat} (hn : 2000 ≤ n) (h : WT T N M0 X0 M X s k w v a) (hq : WQ (a 2) (a 1) (a 0) M X r dp st) (k1 : k = 1) (hc : c < 27) (hs : stepc c) (e3 : M 9 6 = (c : Int)) : WO T N M0 X0 s a (bnd (f_X10_takeStep n 40 M) fun _ M' => f_X6_passSign n 59 M') (f_X12_weekStep_L42 n ((kp c : Nat) : Int) (r : Int) ((2152 + 6 * r : Nat) : Int) (if jw ((kp c : Nat) : Int) = 20 ∨ jw ((kp c : Nat) : Int) = 21 then 1 else 0) X) := by
  have h34 := hq.r60
  obtain ⟨⟨q1, q2, q3, q4, q5, q6, q7⟩, ⟨b1, b2, b3⟩, hrow, h175, hSQ⟩ := hq
  have hw : f_X6_wordAt n M = some ((c : Int), M) := by
    unfold f_X6_wordAt
    rw [if_pos (show jw (M 9 4) = jw 1 from (c_kind h.2.1 (c := 1) (by omega)).2 k1), e3]
  have tab : ∀ c : Nat, c < 27 → stepc c → 14 ≤ kp c ∧ kp c ≤ 23 ∧ kp c ≠ 22 ∧ (kp c = 20 ↔ c = 20) ∧ (kp c = 21 ↔ c = 24) := by
    unfold stepc
    decide +kernel
  obtain ⟨p1, p2, p3, p4, p5⟩ := tab c hc hs
  have jk : ∀ _ : True, jw ((kp c : Nat) : Int) = ((kp c : Nat) : Int) := fun _ => jwN (by omega)
  have n14 : ∀ _ : True, ¬ jw ((kp c : Nat) : Int) < jw 14 := fun _ => by rw [jk trivial, show jw 14 = 14 by decide]; omega
  have n23 : ∀ _ : True, ¬ jw 23 < jw ((kp c : Nat) : Int) := fun _ => by rw [jk trivial, show jw 23 = 23 by decide]; omega
  have n22 : ∀ _ : True, ¬ jw ((kp c : Nat) : Int) = jw 22 := fun _ => by rw [jk trivial, show jw 22 = 22 by decide]; omega
  have fl : ∀ _ : True, ((jw ((kp c : Nat) : Int) = 20 ∨ jw ((kp c : Nat) : Int) = 21) ↔ (c = 20 ∨ c = 24)) := fun _ => by rw [jk trivial]; omega
  have hF : M 9 2 = 0 := (h.2.1.2.2.2.2.2.2.2.2.2.2.2 (by omega)).1
  clear jk
  by_cases c30 : st = 30
  · have e1 : M 34 1 = 30 := by rw [q4, c30]; rfl
    have e2 : X 167 23 = 30 := by rw [q5, c30]; rfl
    refine wo_bad (n := n) (why := 6) h h34 (by omega) (ts_no hw ?_) (fun X2 hX2 => ?_)
    · rw [mb_head hc hs, e1, if_neg (by decide)]
    · unfold f_X12_weekStep_L42 f_X12_weekStep_L75
      rw [letv_ap, if_neg (n14 trivial), if_neg (n23 trivial), if_neg (n22 trivial), if_neg (n22 trivial), e2, if_pos rfl, fails_chk hX2]
  · by_cases c3 : (c = 20 ∨ c = 24) ∧ dp = 3
    · have e1 : M 33 3 = 3 := by rw [q6, c3.2]; rfl
      have e2 : X 167 22 = 3 := by rw [q7, c3.2]; rfl
      refine wo_bad (n := n) (why := 7) h h34 (by omega) (ts_no hw ?_) (fun X2 hX2 => ?_)
      · rw [mb_head hc hs, q4, if_pos (show jw (st : Int) < jw 30 by rw [jwN (by omega), show jw 30 = 30 by decide]; omega), if_pos c3.1, if_neg (by decide), e1, if_neg (by decide)]
      · unfold f_X12_weekStep_L42 f_X12_weekStep_L75 f_X12_weekStep_L97
        rw [letv_ap, if_neg (n14 trivial), if_neg (n23 trivial), if_neg (n22 trivial), if_neg (n22 trivial), q5, if_neg (show ¬ jw (st : Int) = jw 30 by rw [jwN (by omega), show jw 30 = 30 by decide]; omega), if_pos ((fl trivial).2 c3.1), if_neg (by decide), e2, if_pos rfl, fails_chk hX2]
    · have r59 : r < 60 := by omega
      obtain ⟨M1, p, m1, m2, m3, m4, m5⟩ := mb_yes (n := n) hc hs hF q4 (by omega) q6 q2 b1 (fun z => by have : ¬ dp = 3 := fun z2 => c3 ⟨z, z2⟩; omega)
      have pv : ∀ _ : True, (if jw ((kp c : Nat) : Int) = 20 ∨ jw ((kp c : Nat) : Int) = 21 then (1 : Int) else 0) = (p : Int) := fun _ => by
        by_cases z : c = 20 ∨ c = 24
        · rw [if_pos ((fl trivial).2 z), m2, if_pos z]; rfl
        · rw [if_neg (fun q => z ((fl trivial).1 q)), m2, if_neg z]; rfl
      have p01 : p = 0 ∨ p = 1 := by
        by_cases z : c = 20 ∨ c = 24
        · rw [if_pos z] at m2; exact Or.inr m2
        · rw [if_neg z] at m2; exact Or.inl m2
      have pd : dp + p ≤ 3 := by
        by_cases z : c = 20 ∨ c = 24
        · rw [if_pos z] at m2
          have : ¬ dp = 3 := fun z2 => c3 ⟨z, z2⟩
          omega
        · rw [if_neg z] at m2; omega
      have jp : ∀ _ : True, (jw (p : Int) = 0 ↔ p = 0) := fun _ => by rw [jwN (by omega)]; omega
      obtain ⟨X1, x1, x2, x3, x4⟩ := q_rowAhead (n := n) (X := X) (v1 := ((kp c : Nat) : Int)) (v4 := (p : Int)) (w1 := (st : Int)) (w2 := 1) hn r59
      have x2023 : X1 168 2023 = (r : Int) := by rw [x4 2023, if_neg (by omega), if_neg (by omega)]; exact q3
      have t1 : TL T N (M1 9) (jup X1 168 2023 ((r + 1 : Nat) : Int) 167) s k w v := by
        refine h.2.1.congr (fun j _ _ => by rw [m3 9 (by omega) (by omega)]) (fun j j1 j2 => by rw [jup_cell (by omega), x3 j, if_neg (by omega)])
      obtain ⟨F', G', s', k', w', v', g1, g2, g3, g4, g5, g6, g7⟩ := s_adv (n := n) hn (h.1.mv (m3 10 (by omega) (by omega)) (m3 11 (by omega) (by omega)) (by rw [jup_cell (by omega), x2 174 (by omega) (by omega)])) t1 (by omega)
      have gs := g5 (by omega)
      have e341 : jrow M1 9 F' 34 1 + 1 = ((st + 1 : Nat) : Int) := by rw [jrow_ne _ (by omega), m3 34 (by omega) (by omega), q4]; omega
      have eC := ts_yes hw m1 g1
      rw [e341] at eC
      have eR : f_X12_weekStep_L42 n ((kp c : Nat) : Int) (r : Int) ((2152 + 6 * r : Nat) : Int) (p : Int) X = bnd (f_X12_weekOrder n ((kp c : Nat) : Int) ((2152 + 6 * r : Nat) : Int) (jrow (jup X1 168 2023 ((r + 1 : Nat) : Int)) 167 G')) fun r4 M5 => if jw r4 = 0 then (some (0, M5)) else (if jw (p : Int) = 0 then (f_X12_weekStep_L222 n ((kp c : Nat) : Int) (r : Int) ((2152 + 6 * r : Nat) : Int) M5) else (chk (jin (M5 167 22) 3) <| letm (jup M5 175 (jw (M5 167 22)).toNat (r : Int)) fun M6 => letm (jup M6 167 22 ((M6 167 22) + 1)) fun M7 => f_X12_weekStep_L222 n ((kp c : Nat) : Int) (r : Int) ((2152 + 6 * r : Nat) : Int) M7)) := by
        have e97 : f_X12_weekStep_L97 n ((kp c : Nat) : Int) (r : Int) ((2152 + 6 * r : Nat) : Int) (p : Int) X = f_X12_weekStep_L117 n ((kp c : Nat) : Int) (r : Int) ((2152 + 6 * r : Nat) : Int) (p : Int) X := by
          unfold f_X12_weekStep_L97
          by_cases z : p = 0
          · rw [if_pos ((jp trivial).2 z)]
          · rw [if_neg (fun q => z ((jp trivial).1 q)), q7, if_neg (show ¬ jw (dp : Int) = jw 3 by rw [jwN (by omega), show jw 3 = 3 by decide]; omega)]
        unfold f_X12_weekStep_L42 f_X12_weekStep_L75
        rw [letv_ap, if_neg (n14 trivial), if_neg (n23 trivial), if_neg (n22 trivial), if_neg (n22 trivial), q5, if_neg (show ¬ jw (st : Int) = jw 30 by rw [jwN (by omega), show jw 30 = 30 by decide]; omega), e97]
        unfold f_X12_weekStep_L117
        rw [if_neg (n22 trivial), q5, x1]
        unfold f_X12_weekStep_L170
        rw [chk_pos (by decide), chk_pos (by decide), show (jw 2023).toNat = 2023 by decide, x2023, show (r : Int) + 1 = ((r + 1 : Nat) : Int) by omega, letm_ap, g2, bnd_some]
      rw [pv trivial, eR, eC]
      -- what stands there before the order
      have y68 : ∀ u : Nat, jrow (jup X1 168 2023 ((r + 1 : Nat) : Int)) 167 G' 168 u = if u = 2023 then ((r + 1 : Nat) : Int) else if u = 2152 + 6 * r then ((kp c : Nat) : Int) else if 2153 + 6 * r ≤ u ∧ u < 2158 + 6 * r then 0 else X 168 u := fun u => by
        rw [jrow_ne _ (by omega), jup_if, x4 u]
      have y67 : ∀ j : Nat, j < 11 ∨ 19 ≤ j → jrow (jup X1 168 2023 ((r + 1 : Nat) : Int)) 167 G' 167 j = if j = 23 then (st : Int) + 1 else X 167 j := fun j hj => by
        rw [jrow_same, g7 j hj, jup_cell (by omega), x3 j]
      have yg : jrow (jup X1 168 2023 ((r + 1 : Nat) : Int)) 167 G' 167 = G' := by rw [jrow_same]
      have yo : ∀ b : Nat, b ≠ 167 → b ≠ 168 → jrow (jup X1 168 2023 ((r + 1 : Nat) : Int)) 167 G' b = X b := fun b h1 h2 => by
        rw [jrow_ne _ h1, jup_cell h2, x2 b h1 h2]
      generalize jrow (jup X1 168 2023 ((r + 1 : Nat) : Int)) 167 G' = X3 at y68 y67 yg yo
      have z9 : jup (jrow M1 9 F') 34 1 ((st + 1 : Nat) : Int) 9 = F' := by rw [jup_cell (by omega), jrow_same]
      have zo : ∀ b : Nat, b ≠ 9 → b ≠ 33 → b ≠ 34 → b ≠ 39 → jup (jrow M1 9 F') 34 1 ((st + 1 : Nat) : Int) b = M b := fun b h1 h2 h3 h4 => by
        rw [jup_cell h3, jrow_ne _ h1, m3 b h2 h4]
      have z34 : ∀ j : Nat, jup (jrow M1 9 F') 34 1 ((st + 1 : Nat) : Int) 34 j = if j = 1 then ((st + 1 : Nat) : Int) else M 34 j := fun j => by
        rw [jup_if, jrow_ne _ (by omega), m3 34 (by omega) (by omega)]
      have z33 : jup (jrow M1 9 F') 34 1 ((st + 1 : Nat) : Int) 33 3 = ((dp + p : Nat) : Int) := by
        rw [jup_cell (by omega), jrow_ne _ (by omega), m4, if_pos rfl]
      have z39 : ∀ i : Nat, jup (jrow M1 9 F') 34 1 ((st + 1 : Nat) : Int) 39 i = if p = 1 ∧ i = dp then (r : Int) else M 39 i := fun i => by
        rw [jup_cell (by omega), jrow_ne _ (by omega), m5]
      generalize jup (jrow M1 9 F') 34 1 ((st + 1 : Nat) : Int) = M8 at z9 zo z34 z33 z39
      have hWT : WT T N M0 X0 M8 X3 s' k' w' v' a := h.go (fun b h1 h2 => zo b h1 (by omega) (by omega) (by omega)) (by rw [z9, ← m3 9 (by omega) (by omega)]; exact g6) (fun b h1 h2 _ => yo b h1 h2) (fun j hj => by rw [y67 j (by omega), if_neg (by omega)]) (fun i hi => by rw [y68 i, if_neg (by omega), if_neg (by omega), if_neg (by omega)]) (by rw [z9, yg]; exact g3)
      have z342 : M8 34 2 = (r : Int) := by rw [z34, if_neg (by omega)]; exact q2
      rcases ro_order (s0 := s) (r := r) (c := c) hn hWT gs r59 (by omega) hs (by rw [y68, if_neg (by omega), if_pos rfl]) with ⟨F2, w1, x, y, X5, s2, k2, w2, v2, e1, e2, e3, e4, ⟨e5o, e5⟩, e6, e7, e8, e9⟩ | ⟨M', X', e1, e2, hf⟩
      · obtain ⟨M9, a1, a2, a3, a4, a5, a6, a7⟩ := c_addRow (n := n) (M := jrow M8 9 F2) (w1 := w1) (x := x) (y := y) (r := r) (by rw [jrow_ne _ (by omega)]; exact z342) r59
        rw [e1, e2, bnd_some, if_neg (by decide), a1, bnd_some, bnd_some]
        have e22 : X5 167 22 = (dp : Int) := by rw [e8, y67 22 (by omega), if_neg (by omega)]; exact q7
        obtain ⟨X6, f1, f2, f3, f4⟩ : ∃ X6, (if jw (p : Int) = 0 then (f_X12_weekStep_L222 n ((kp c : Nat) : Int) (r : Int) ((2152 + 6 * r : Nat) : Int) X5) else (chk (jin (X5 167 22) 3) <| letm (jup X5 175 (jw (X5 167 22)).toNat (r : Int)) fun M6 => letm (jup M6 167 22 ((M6 167 22) + 1)) fun M7 => f_X12_weekStep_L222 n ((kp c : Nat) : Int) (r : Int) ((2152 + 6 * r : Nat) : Int) M7)) = f_X12_weekStep_L279 n X6 ∧ (∀ b : Nat, b ≠ 167 → b ≠ 175 → X6 b = X5 b) ∧ (∀ j : Nat, X6 167 j = if j = 22 then ((dp + p : Nat) : Int) else X5 167 j) ∧ ∀ i : Nat, X6 175 i = if p = 1 ∧ i = dp then (r : Int) else X5 175 i := by
          unfold f_X12_weekStep_L222
          rcases p01 with rfl | rfl
          · rw [if_pos ((jp trivial).2 rfl), if_neg (n22 trivial)]
            refine ⟨X5, rfl, fun _ _ _ => rfl, fun j => ?_, fun i => by rw [if_neg (by omega)]⟩
            by_cases z : j = 22
            · rw [if_pos z, z, e22]; rfl
            · rw [if_neg z]
          · rw [if_neg (fun z => by have := (jp trivial).1 z; omega), e22, chk_pos (jinN (by omega) (by omega)), jwT (by omega), letm_ap, show jup X5 175 dp (r : Int) 167 22 = (dp : Int) by rw [jup_cell (by omega)]; exact e22, letm_ap, if_neg (n22 trivial)]
            refine ⟨_, rfl, fun b h1 h2 => by rw [jup_cell h1, jup_cell h2], fun j => ?_, fun i => ?_⟩
            · rw [jup_if, jup_cell (by omega)]
              by_cases z : j = 22
              · rw [if_pos z, if_pos z]; omega
              · rw [if_neg z, if_neg z]
            · rw [jup_cell (by omega), jup_if]
              by_cases z : i = dp
              · rw [if_pos z, if_pos ⟨rfl, z⟩]
              · rw [if_neg z, if_neg (fun q => z q.2)]
        rw [f1]
        have x68 : ∀ u : Nat, X6 168 u = X5 168 u := fun u => by rw [f2 168 (by omega) (by omega)]
        have u9 : M9 9 = F2 := by rw [a2 9 (by omega), jrow_same]
        have uc : ∀ b : Nat, b ≠ 9 → b < 33 ∨ 40 ≤ b → M9 b = M8 b := fun b h1 h2 => by rw [a2 b (by omega), jrow_ne _ h1]
        have u35 : ∀ i : Nat, M9 35 i = if i = r then w1 else M 35 i := fun i => by rw [a4 i, jrow_ne _ (by omega), zo 35 (by omega) (by omega) (by omega) (by omega)]
        have u36 : ∀ i : Nat, M9 36 i = if i = r then x else M 36 i := fun i => by rw [a5 i, jrow_ne _ (by omega), zo 36 (by omega) (by omega) (by omega) (by omega)]
        have u37 : ∀ i : Nat, M9 37 i = if i = r then y else M 37 i := fun i => by rw [a6 i, jrow_ne _ (by omega), zo 37 (by omega) (by omega) (by omega) (by omega)]
        have u38 : ∀ i : Nat, M9 38 i = if i = r then (r : Int) else M 38 i := fun i => by rw [a7 i, jrow_ne _ (by omega), zo 38 (by omega) (by omega) (by omega) (by omega)]
        have u39 : ∀ i : Nat, M9 39 i = if p = 1 ∧ i = dp then (r : Int) else M 39 i := fun i => by rw [a2 39 (by omega), jrow_ne _ (by omega), z39]
        have u34 : ∀ j : Nat, M9 34 j = if j = 2 then ((r + 1 : Nat) : Int) else if j = 1 then ((st + 1 : Nat) : Int) else M 34 j := fun j => by rw [a3 j, jrow_ne _ (by omega), z34]
        have u33 : M9 33 3 = ((dp + p : Nat) : Int) := by rw [a2 33 (by omega), jrow_ne _ (by omega), z33]
        have x5 : ∀ u : Nat, u < 2152 + 6 * r ∨ 2158 + 6 * r ≤ u → u ≠ 2023 → X5 168 u = X 168 u := fun u hu h23 => by
          rw [e6 u (by omega), y68 u, if_neg h23, if_neg (by omega), if_neg (by omega)]
        have w9 : jrow M8 9 F2 9 = F2 := by rw [jrow_same]
        refine wo_sign hn (s := s2) (k := k2) (w := w2) (v := v2) (r := r + 1) (dp := dp + p) (st := st + 1) (e3.go (fun b h1 h2 => by rw [uc b h1 h2, jrow_ne _ h1]) (by rw [u9, w9]; exact Fr9.refl _) (fun b h1 h2 h3 => f2 b h1 h3) (fun j hj => by rw [f3 j, if_neg (by omega)]) (fun i hi => x68 i) ?_) ⟨⟨by rw [u34, if_neg (by omega), if_neg (by omega)]; exact q1, by rw [u34, if_pos rfl], by rw [x68, e6 2023 (by omega), y68, if_pos rfl], by rw [u34, if_neg (by omega), if_pos rfl], by rw [f3 23, if_neg (by omega), e9, y67 23 (by omega), if_pos rfl]; omega, u33, by rw [f3 22, if_pos rfl]⟩, ⟨pd, by omega, by omega⟩, fun i hi => ?_, fun i hi => ?_, ?_⟩ (by omega)
        · have hT := e3.2.1
          rw [w9] at hT
          rw [u9]
          exact hT.congr (fun _ _ _ => rfl) (fun j j1 j2 => by rw [f3 j, if_neg (by omega)])
        · unfold Wrow
          by_cases z : i = r
          · rw [z, u35, if_pos rfl, u36, if_pos rfl, u37, if_pos rfl, x68, x68, x68, x68]
            exact Or.inl e5
          · have := hrow i (by omega)
            unfold Wrow at this
            rw [u35, if_neg z, u36, if_neg z, u37, if_neg z, x68, x68, x68, x68, x5 (2152 + 6 * i) (by omega) (by omega), x5 (2153 + 6 * i) (by omega) (by omega), x5 (2154 + 6 * i) (by omega) (by omega), x5 (2157 + 6 * i) (by omega) (by omega)]
            exact this
        · rw [f4 i, u39 i]
          by_cases z : p = 1 ∧ i = dp
          · rw [if_pos z, if_pos z]
          · rw [if_neg z, if_neg z, e7, yo 175 (by omega) (by omega)]
            exact h175 i (by omega)
        · have base : SQ (M9 35) (M9 38) (M9 39) (fun k => X6 168 (2156 + 6 * k)) r dp := hSQ.congr (fun i hi => by rw [u35, if_neg (by omega)]) (fun i hi => by rw [u38, if_neg (by omega)]) (fun i hi => by rw [u39, if_neg (by omega)]) (fun i hi => by show X6 168 (2156 + 6 * i) = _; rw [x68, x5 _ (by omega) (by omega)])
          have wr : M9 35 r = w1 := by rw [u35, if_pos rfl]
          rcases e5o with ⟨o1, o2, o3⟩ | ⟨o1, o2⟩ | ⟨o1, o2, o3⟩
          · have : p = 1 := by rw [m2, if_pos (Or.inl o1)]
            subst this
            exact base.opener (by unfold opw; rw [wr]; omega) (by rw [u38, if_pos rfl]) (by rw [u39, if_pos ⟨rfl, rfl⟩])
          · have : p = 1 := by rw [m2, if_pos (Or.inr o1)]
            subst this
            exact base.opener (by unfold opw; rw [wr]; omega) (by rw [u38, if_pos rfl]) (by rw [u39, if_pos ⟨rfl, rfl⟩])
          · have : p = 0 := by rw [m2, if_neg (fun z => z.elim o1 o2)]
            subst this
            exact base.plain (by rw [wr]; omega)
      · rw [e1, e2, bnd_some, bnd_some, if_pos (by decide), j_passSign hf.1.jk]
        exact Or.inr ⟨M', X', rfl, rfl, hf⟩
end PWGO

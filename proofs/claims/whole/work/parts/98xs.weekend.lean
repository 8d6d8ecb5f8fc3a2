section PWCLOSE
variable {n : Nat} {M X M0 X0 : JMem} {T : Nat → Int} {N s s0 k r dp st : Nat} {w : List Nat} {v : Int} {a : Nat → Int}
/-- an END closes the row that was opened last -/
theorem ws_close (hn : 2000 ≤ n) (h : WT T N M0 X0 M X s k w v a) (hq : WQ (a 2) (a 1) (a 0) M X r dp st) (k1 : k = 1) : WO T N M0 X0 s a (bnd (f_X10_takeEnd n M) fun _ M' => f_X6_passSign n 59 M') (f_X12_weekStep_L42 n 22 (r : Int) ((2152 + 6 * r : Nat) : Int) 0 X) := by
  obtain ⟨⟨q1, q2, q3, q4, q5, q6, q7⟩, ⟨b1, b2, b3⟩, hrow, h175, hSQ⟩ := hq
  have h34 : 0 ≤ M 34 2 ∧ M 34 2 ≤ 60 := by omega
  by_cases d0 : dp = 0
  · have e33 : M 33 3 = 0 := by rw [q6, d0]; rfl
    have e67 : X 167 22 = 0 := by rw [q7, d0]; rfl
    refine wo_bad (n := n) (why := 2) h h34 (by omega) (fun F' hj hf => ?_) (fun X2 hX2 => ?_)
    · have hj' : JK (jrow M 9 F' 9) := by rw [jrow_same]; exact hj
      unfold f_X10_takeEnd
      rw [e33, if_neg (by decide), hf, bnd_some, bnd_some, j_passSign hj']
    · unfold f_X12_weekStep_L42 f_X12_weekStep_L69
      rw [letv_ap, if_neg (by decide), if_neg (by decide), if_pos (by decide), e67, if_pos (by decide), fails_chk hX2]
  · obtain ⟨d, rfl⟩ : ∃ d, dp = d + 1 := ⟨dp - 1, by omega⟩
    have r60 : r < 60 := by omega
    obtain ⟨o, o1, o2, o3, o4⟩ := hSQ.1 d (by omega)
    -- the class
    have m1 : jup M 33 3 ((d : Int)) 33 3 = (d : Int) := by rw [jup_if, if_pos rfl]
    obtain ⟨M4, c1, c2, c3, c4, c5, c6, c7⟩ := c_addRow (n := n) (M := jup (jup M 33 3 (d : Int)) (34 + 4) o (r : Int)) (w1 := 25) (x := 0) (y := 0) (r := r) (by rw [jup_cell (by omega), jup_cell (by omega)]; exact q2) r60
    have eC : f_X10_takeEnd n M = bnd (f_X6_advance n (jup M4 38 r (o : Int))) fun _ M2 => some (0, M2) := by
      unfold f_X10_takeEnd f_X10_takeEnd_L91
      rw [q6, if_pos (show 0 < jw ((d + 1 : Nat) : Int) by rw [jwN (by omega)]; omega), show ((d + 1 : Nat) : Int) - 1 = (d : Int) by omega, letm_ap, m1, chk_pos (jinN (by omega) (by omega)), jwT (by omega), show jup M 33 3 (d : Int) 39 d = (o : Int) by rw [jup_cell (by omega)]; exact o1, letv_ap, chk_pos (jinN (by omega) (by omega)), jwT (by omega), show jup M 33 3 (d : Int) 34 2 = (r : Int) by rw [jup_cell (by omega)]; exact q2, letm_ap, c1, bnd_some, c3 2, if_pos rfl, if_neg (by rw [jwN (by omega)]; omega), show ((r + 1 : Nat) : Int) - 1 = (r : Int) by omega, chk_pos (jinN (by omega) (by omega)), jwT (by omega), letm_ap]
    -- the reference
    obtain ⟨X1, x1, x2, x3, x4⟩ := q_rowAhead (n := n) (X := X) (v1 := 22) (v4 := 0) (w1 := (st : Int)) (w2 := 0) hn r60
    have x2023 : X1 168 2023 = (r : Int) := by rw [x4 2023, if_neg (by omega), if_neg (by omega)]; exact q3
    -- both go on
    have k9 : jup M4 38 r (o : Int) 9 = M 9 := by rw [jup_cell (by omega), c2 9 (by omega), jup_cell (by omega), jup_cell (by omega)]
    have t1 : TL T N (jup M4 38 r (o : Int) 9) (jup X1 168 2023 ((r + 1 : Nat) : Int) 167) s k w v := by
      refine h.2.1.congr (fun j _ _ => by rw [k9]) (fun j j1 j2 => by rw [jup_cell (by omega), x3 j, if_neg (by omega)])
    have kc : ∀ c : Nat, c < 33 ∨ 40 ≤ c → jup M4 38 r (o : Int) c = M c := fun c hc => by rw [jup_cell (by omega), c2 c (by omega), jup_cell (by omega), jup_cell (by omega)]
    obtain ⟨F', G', s', k', w', v', g1, g2, g3, g4, g5, g6, g7⟩ := s_adv (n := n) hn (h.1.mv (kc 10 (by omega)) (kc 11 (by omega)) (by rw [jup_cell (by omega), x2 174 (by omega) (by omega)])) t1 (by omega)
    have gs := g5 (by omega)
    have y22 : jrow (jup X1 168 2023 ((r + 1 : Nat) : Int)) 167 G' 167 22 = ((d + 1 : Nat) : Int) := by rw [jrow_same, g7 22 (by omega), jup_cell (by omega), x3 22, if_neg (by omega)]; exact q7
    have y175 : jrow (jup X1 168 2023 ((r + 1 : Nat) : Int)) 167 G' 175 d = (o : Int) := by rw [jrow_ne _ (by omega), jup_cell (by omega), x2 175 (by omega) (by omega), h175 d (by omega)]; exact o1
    have eR : f_X12_weekStep_L42 n 22 (r : Int) ((2152 + 6 * r : Nat) : Int) 0 X = f_X12_weekStep_L279 n (jup (jup (jup (jrow (jup X1 168 2023 ((r + 1 : Nat) : Int)) 167 G') 167 22 (d : Int)) 168 (2156 + 6 * r) (o : Int)) 168 (2156 + 6 * o) (r : Int)) := by
      unfold f_X12_weekStep_L42 f_X12_weekStep_L75 f_X12_weekStep_L97 f_X12_weekStep_L117
      rw [letv_ap, if_neg (by decide), if_neg (by decide), if_pos (show jw 22 = jw 22 from rfl), q7, if_neg (by rw [jwN (by omega)]; omega), if_pos (show jw 22 = jw 22 from rfl), if_pos (by decide), if_pos (show jw 22 = jw 22 from rfl), q5, x1]
      unfold f_X12_weekStep_L170
      rw [chk_pos (by decide), chk_pos (by decide), show (jw 2023).toNat = 2023 by decide, x2023, show (r : Int) + 1 = ((r + 1 : Nat) : Int) by omega, letm_ap, g2, bnd_some, show f_X12_weekOrder n 22 ((2152 + 6 * r : Nat) : Int) (jrow (jup X1 168 2023 ((r + 1 : Nat) : Int)) 167 G') = some (1, jrow (jup X1 168 2023 ((r + 1 : Nat) : Int)) 167 G') from rfl, bnd_some, if_neg (by decide), if_pos (by decide)]
      unfold f_X12_weekStep_L222
      have z22 : ∀ (Y : JMem) (x : Int), jup Y 167 22 x 167 22 = x := fun Y x => by rw [jup_if, if_pos rfl]
      have z68 : ∀ (Y : JMem) (q : Nat) (x : Int) (i : Nat), jup Y 168 q x 167 i = Y 167 i := fun Y q x i => by rw [jup_cell (by omega)]
      have z75 : ∀ (Y : JMem) (q b : Nat) (x : Int) (i : Nat), b ≠ 175 → jup Y b q x 175 i = Y 175 i := fun Y q b x i hb => by rw [jup_cell (by omega)]
      rw [if_pos (show jw 22 = jw 22 from rfl), y22, show ((d + 1 : Nat) : Int) - 1 = (d : Int) by omega, letm_ap, z22, chk_pos (jinN (by omega) (by omega)), show ((2152 + 6 * r : Nat) : Int) + 4 = ((2156 + 6 * r : Nat) : Int) by omega, chk_pos (jinN (by omega) (by omega)), jwT (a := d) (by omega), jwT (a := 2156 + 6 * r) (by omega), z75 _ 22 167 _ d (by omega), y175, letm_ap, z68, z22, chk_pos (jinN (by omega) (by omega)), jwT (a := d) (by omega), z75 _ (2156 + 6 * r) 168 _ d (by omega), z75 _ 22 167 _ d (by omega), y175, show (2152 : Int) + 6 * (o : Int) + 4 = ((2156 + 6 * o : Nat) : Int) by omega, chk_pos (jinN (by omega) (by omega)), jwT (a := 2156 + 6 * o) (by omega), letm_ap]
    rw [eC, g1, bnd_some, bnd_some, eR]
    -- what stands there now
    have xc : ∀ u : Nat, jup (jup (jup (jrow (jup X1 168 2023 ((r + 1 : Nat) : Int)) 167 G') 167 22 (d : Int)) 168 (2156 + 6 * r) (o : Int)) 168 (2156 + 6 * o) (r : Int) 168 u = if u = 2156 + 6 * o then (r : Int) else if u = 2156 + 6 * r then (o : Int) else if u = 2023 then ((r + 1 : Nat) : Int) else if u = 2152 + 6 * r then 22 else if 2153 + 6 * r ≤ u ∧ u < 2158 + 6 * r then 0 else X 168 u := fun u => by
      rw [jup_if, jup_if, jup_cell (by omega), jrow_ne _ (by omega), jup_if, x4 u]
    have x67 : ∀ j : Nat, j < 11 ∨ 19 ≤ j → jup (jup (jup (jrow (jup X1 168 2023 ((r + 1 : Nat) : Int)) 167 G') 167 22 (d : Int)) 168 (2156 + 6 * r) (o : Int)) 168 (2156 + 6 * o) (r : Int) 167 j = if j = 22 then (d : Int) else if j = 23 then (st : Int) + 0 else X 167 j := fun j hj => by
      rw [jup_cell (by omega), jup_cell (by omega), jup_if, jrow_same, g7 j hj, jup_cell (by omega), x3 j]
    have x67g : ∀ j : Nat, 11 ≤ j → j < 19 → jup (jup (jup (jrow (jup X1 168 2023 ((r + 1 : Nat) : Int)) 167 G') 167 22 (d : Int)) 168 (2156 + 6 * r) (o : Int)) 168 (2156 + 6 * o) (r : Int) 167 j = G' j := fun j j1 j2 => by
      rw [jup_cell (by omega), jup_cell (by omega), jup_if, if_neg (by omega), jrow_same]
    have xo : ∀ c : Nat, c ≠ 167 → c ≠ 168 → jup (jup (jup (jrow (jup X1 168 2023 ((r + 1 : Nat) : Int)) 167 G') 167 22 (d : Int)) 168 (2156 + 6 * r) (o : Int)) 168 (2156 + 6 * o) (r : Int) c = X c := fun c h1 h2 => by
      rw [jup_cell h2, jup_cell h2, jup_cell h1, jrow_ne _ h1, jup_cell h2, x2 c h1 h2]
    generalize jup (jup (jup (jrow (jup X1 168 2023 ((r + 1 : Nat) : Int)) 167 G') 167 22 (d : Int)) 168 (2156 + 6 * r) (o : Int)) 168 (2156 + 6 * o) (r : Int) = X6 at xc x67 x67g xo
    have f9 : ∀ c : Nat, c ≠ 9 → jrow (jup M4 38 r (o : Int)) 9 F' c = jup M4 38 r (o : Int) c := fun c hc => jrow_ne _ hc
    have m35 : ∀ k : Nat, jrow (jup M4 38 r (o : Int)) 9 F' 35 k = if k = r then 25 else M 35 k := fun k => by rw [f9 35 (by omega), jup_cell (by omega), c4 k, jup_cell (by omega), jup_cell (by omega)]
    have m36 : ∀ k : Nat, jrow (jup M4 38 r (o : Int)) 9 F' 36 k = if k = r then 0 else M 36 k := fun k => by rw [f9 36 (by omega), jup_cell (by omega), c5 k, jup_cell (by omega), jup_cell (by omega)]
    have m37 : ∀ k : Nat, jrow (jup M4 38 r (o : Int)) 9 F' 37 k = if k = r then 0 else M 37 k := fun k => by rw [f9 37 (by omega), jup_cell (by omega), c6 k, jup_cell (by omega), jup_cell (by omega)]
    have m38 : ∀ k : Nat, jrow (jup M4 38 r (o : Int)) 9 F' 38 k = if k = r then (o : Int) else if k = o then (r : Int) else M 38 k := fun k => by
      rw [f9 38 (by omega), jup_if, c7 k, show (34 + 4) = 38 from rfl, jup_if, jup_cell (show 38 ≠ 33 by omega)]
      by_cases e : k = r
      · rw [if_pos e, if_pos e]
      · rw [if_neg e, if_neg e, if_neg e]
    have m39 : ∀ i : Nat, jrow (jup M4 38 r (o : Int)) 9 F' 39 i = M 39 i := fun i => by rw [f9 39 (by omega), jup_cell (by omega), c2 39 (by omega), jup_cell (by omega), jup_cell (by omega)]
    have m34 : ∀ j : Nat, jrow (jup M4 38 r (o : Int)) 9 F' 34 j = if j = 2 then ((r + 1 : Nat) : Int) else M 34 j := fun j => by rw [f9 34 (by omega), jup_cell (by omega), c3 j, jup_cell (by omega), jup_cell (by omega)]
    have m33 : jrow (jup M4 38 r (o : Int)) 9 F' 33 3 = (d : Int) := by rw [f9 33 (by omega), jup_cell (by omega), c2 33 (by omega), jup_cell (by omega), m1]
    have mc : ∀ c : Nat, c ≠ 9 → c < 33 ∨ 40 ≤ c → jrow (jup M4 38 r (o : Int)) 9 F' c = M c := fun c h1 h2 => by rw [f9 c h1, kc c h2]
    have m9 : jrow (jup M4 38 r (o : Int)) 9 F' 9 = F' := by rw [jrow_same]
    generalize jrow (jup M4 38 r (o : Int)) 9 F' = M7 at m35 m36 m37 m38 m39 m34 m33 mc m9
    refine wo_sign hn (s := s') (k := k') (w := w') (v := v') (r := r + 1) (dp := d) (st := st) (h.go mc (by rw [m9, ← k9]; exact g6) (fun c h1 h2 _ => xo c h1 h2) (fun j hj => by rw [x67 j (by omega), if_neg (by omega), if_neg (by omega)]) (fun i hi => by rw [xc i, if_neg (by omega), if_neg (by omega), if_neg (by omega), if_neg (by omega), if_neg (by omega)]) (by rw [m9]; exact g3.congr (fun _ _ _ => rfl) (fun j j1 j2 => x67g j (by omega) (by omega)))) ⟨⟨by rw [m34, if_neg (by omega)]; exact q1, by rw [m34, if_pos rfl], by rw [xc, if_neg (by omega), if_neg (by omega), if_pos rfl], by rw [m34, if_neg (by omega)]; exact q4, by rw [x67 23 (by omega), if_neg (by omega), if_pos rfl]; omega, m33, by rw [x67 22 (by omega), if_pos rfl]⟩, ⟨by omega, by omega, by omega⟩, fun k hk => ?_, fun i hi => by rw [xo 175 (by omega) (by omega), m39]; exact h175 i (by omega), ?_⟩ (by omega)
    · unfold Wrow
      by_cases e : k = r
      · rw [e]
        exact Or.inr ⟨by rw [m35, if_pos rfl], by rw [xc, if_neg (by omega), if_neg (by omega), if_neg (by omega), if_pos rfl]⟩
      · have hx : ∀ j : Nat, j < 6 → j ≠ 4 → X6 168 (2152 + j + 6 * k) = X 168 (2152 + j + 6 * k) := fun j hj j4 => by
          rw [xc, if_neg (by omega), if_neg (by omega), if_neg (by omega), if_neg (by omega), if_neg (by omega)]
        have := hrow k (by omega)
        unfold Wrow at this
        rw [m35, if_neg e, m36, if_neg e, m37, if_neg e, show X6 168 (2152 + 6 * k) = X 168 (2152 + 6 * k) from hx 0 (by omega) (by omega), show X6 168 (2153 + 6 * k) = X 168 (2153 + 6 * k) from hx 1 (by omega) (by omega), show X6 168 (2154 + 6 * k) = X 168 (2154 + 6 * k) from hx 2 (by omega) (by omega), show X6 168 (2157 + 6 * k) = X 168 (2157 + 6 * k) from hx 5 (by omega) (by omega)]
        exact this
    · refine hSQ.close (o := o) o1 (by rw [m35, if_pos rfl]) (fun k hk => by rw [m35, if_neg (by omega)]) (by rw [m38, if_pos rfl]) (by rw [m38, if_neg (by omega), if_pos rfl]) (fun k hk ho => by rw [m38, if_neg (by omega), if_neg ho]) ?_ ?_ (fun k hk ho => ?_) (fun i hi => m39 i)
      · show X6 168 (2156 + 6 * r) = _
        rw [xc, if_neg (by omega), if_pos rfl]
      · show X6 168 (2156 + 6 * o) = _
        rw [xc, if_pos rfl]
      · show X6 168 (2156 + 6 * k) = X 168 (2156 + 6 * k)
        rw [xc, if_neg (by omega), if_neg (by omega), if_neg (by omega), if_neg (by omega), if_neg (by omega)]
end PWCLOSE

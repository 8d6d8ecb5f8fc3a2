section PWEEKS3
variable {n : Nat} {M X : JMem}
theorem p_weeks (hn : 2000 ≤ n) : jO_weeks JR n := by
  intro x1 hx M h
  have e := jwI hx
  have g3 := h.2.2.1
  obtain ⟨⟨t1, t2, t3⟩, t4, t5, t6, t7⟩ := g3
  have j9 : jw (M 9 1) = M 9 1 := jw_of (by omega) (by omega)
  have j300 : ∀ _ : True, jw 300 = 300 := fun _ => by decide
  by_cases c : 0 ≤ x1 ∧ x1 ≤ M 9 1 ∧ x1 ≤ 300
  · obtain ⟨N, N901, rfl⟩ := natOf (x := x1) (k := 301) c.1 (by omega)
    have bytes : ∀ k : Nat, k < N → -128 ≤ M 10 k ∧ M 10 k < 128 := fun k hk => (t4 k (by omega) (by omega)).2
    have head : f_X11_weeks n (N : Int) M = bnd (f_X10_takesAll n (N : Int) 40 M) fun r1 M2 => letv r1 fun y3 => letm (jup M2 9 1 0) fun M4 => if jw y3 = 0 then (bnd (f_X11_refuse n 9 M4) fun r9 M10 => some (r9, M10)) else (bnd (f_X9_copyFrom n 60 34 M4) fun _ M6 => bnd (f_X11_answer n (M6 60 1) M6) fun r7 M8 => some (r7, M8)) := by
      unfold f_X11_weeks
      rw [if_neg (by omega), if_neg (by omega), if_pos (by rw [j300 trivial]; omega)]
    have np := h.np
    have nt := h.nt
    have nb := h.nb
    have ham : am (fun o => M 40 o) := fun u hu => by
      rcases (show u = 0 ∨ u = 1 ∨ u = 2 by omega) with rfl | rfl | rfl
      · exact ⟨by show 0 ≤ M 40 0; omega, by show M 40 0 ≤ 6; omega⟩
      · exact ⟨by show 0 ≤ M 40 1; omega, by show M 40 1 ≤ 8; omega⟩
      · exact ⟨by show 0 ≤ M 40 2; omega, by show M 40 2 ≤ 8; omega⟩
    have hRK : RKn (blk M 40 12) (fun j => M 169 (0 + j)) (fun o => M 40 o) := by
      rw [show (fun j => M 169 (0 + j)) = M 169 from funext fun k => by rw [Nat.zero_add]]
      exact h.cur.2.2.1.toN
    have h68 : ∀ u : Nat, u < 3 → M 168 u = M 40 u := fun u hu => by
      rcases (show u = 0 ∨ u = 1 ∨ u = 2 by omega) with rfl | rfl | rfl
      · exact np.1.symm
      · exact nt.1.symm
      · exact nb.1.symm
    obtain ⟨M', X0', -, r2, -, -, -, -, r8⟩ := weeks_core (n := n) (M := M) (X := M) (N := N) (f1 := M 9 1) (a := fun o => M 40 o) hn c.2.1 ⟨t2, t3⟩ (by omega) bytes (fun k hk => ((t4 k (by omega) (by omega)).1).symm) t7 t1.symm ham hRK h68
    have second : ∀ (Mc : JMem), (∀ c : Nat, 167 ≤ c → Mc c = M c) → ∃ X' : JMem, f_X12_weeks n (N : Int) Mc = f_X12_weeks_L77 n X' ∧ (∀ c : Nat, c ≠ 167 → c ≠ 168 → c ≠ 174 → c ≠ 175 → X' c = Mc c) ∧ (∀ j : Nat, j < 10 ∨ 24 ≤ j → X' 167 j = M 167 j) ∧ X' 167 10 = 0 ∧ (∀ i : Nat, i < 2016 → X' 168 i = M 168 i) ∧
        ((f_X10_takesAll n (N : Int) 40 M = some (1, M') ∧ M' 9 2 = 0 ∧ M' 9 3 = -1 ∧ X' 167 18 = 0 ∧ X' 167 17 = -1 ∧ ∃ r st : Nat, WQ (M 40 2) (M 40 1) (M 40 0) M' X' r 0 st) ∨
         (f_X10_takesAll n (N : Int) 40 M = some (0, M') ∧ FLT (M' 9) (X' 167))) := fun Mc hMc => by
      obtain ⟨M2, X', s1, s2, s3, s4, s5, s6, s8⟩ := weeks_core (n := n) (M := M) (X := Mc) (N := N) (f1 := M 9 1) (a := fun o => M 40 o) hn c.2.1 ⟨t2, t3⟩ (by omega) bytes (fun k hk => by rw [hMc 173 (by omega)]; exact ((t4 k (by omega) (by omega)).1).symm) t7 (by rw [hMc 167 (by omega)]; exact t1.symm) ham (by rw [hMc 169 (by omega)]; exact hRK) (fun u hu => by rw [hMc 168 (by omega)]; exact h68 u hu)
      have eM : M2 = M' := by
        rcases r8 with r8 | r8 <;> rcases s8 with s8 | s8
        · have := r8.1.symm.trans s8.1
          simpa using this.symm
        · have := r8.1.symm.trans s8.1
          simp at this
        · have := r8.1.symm.trans s8.1
          simp at this
        · have := r8.1.symm.trans s8.1
          simpa using this.symm
      subst eM
      exact ⟨X', s1, s3, fun j hj => by rw [s4 j hj, hMc 167 (by omega)], s5, fun i hi => by rw [s6 i hi, hMc 168 (by omega)], s8⟩
    have hp := h.2.2.2.2.1
    rcases r8 with ⟨ok, -, -, -, -, r0, st0, hQ0⟩ | ⟨bad, hF⟩
    · -- they are weeks
      have q0 := hQ0.1.1
      obtain ⟨Ma, a1, a2, a3, a4⟩ := c_copyWeeks (n := n) (M := jup M' 9 1 0) (th := 60) (p := 34) (by omega) (by rw [jup_cell (by omega), q0]; exact Or.inr (by decide))
      have hcl : f_X11_weeks n (N : Int) M = some (Ma 60 1, jup Ma 0 0 0) := by
        rw [head, ok, bnd_some, letv_ap, letm_ap, if_neg (by decide), a1, bnd_some, q_answer, bnd_some]
      -- cells of the class at the end
      have kr : ∀ c : Nat, c ≠ 0 → c ≠ 9 → (c < 33 ∨ (40 ≤ c ∧ c < 60) ∨ 65 ≤ c) → jup Ma 0 0 0 c = M c := fun c c0 c9 hc => by
        rw [jup_cell c0, a2 c (by omega), jup_cell c9, r2 c c9 (by omega)]
      have k0 : ∀ j : Nat, j ≠ 0 → jup Ma 0 0 0 0 j = M 0 j := fun j hj => by
        rw [jup_if, if_neg hj, a2 0 (by omega), jup_cell (by omega), r2 0 (by omega) (by omega)]
      obtain ⟨X', s1, s3, s4, s5, s6, s8⟩ := second (jup Ma 0 0 0) (fun c hc => kr c (by omega) (by omega) (by omega))
      rcases s8 with ⟨-, f2, f3, x18, x17, r, st, hQ⟩ | ⟨z, -⟩
      · have q4 := hQ.1.2.2.2.1
        have q5 := hQ.1.2.2.2.2.1
        obtain ⟨Xa, v1, v2, v3⟩ := q_cpW (n := n) 360 136 n (jup X' 168 7 (X' 168 2023)) (by omega) (by omega)
        have xa67 : Xa 167 = X' 167 := by rw [v2 167 (by omega), jup_cell (by omega)]
        have hre : f_X12_weeks n (N : Int) (jup Ma 0 0 0) = some (Xa 167 23, jup (jup Xa 167 16 0) 167 2 0) := by
          rw [s1]
          unfold f_X12_weeks_L77
          rw [x18, if_pos (by decide), chk_pos (by decide), chk_pos (by decide), show (jw 7).toNat = 7 by decide, show (jw 2023).toNat = 2023 by decide, letm_ap, letv_ap, show f_X12_weeks_L103 n n 136 _ = _ from v1]
          unfold f_X12_weeks_L132
          rw [taken_yes (by rw [xa67]; exact x18), bnd_some]
        have zc : ∀ c : Nat, c ≠ 167 → c ≠ 168 → c ≠ 174 → c ≠ 175 → jup (jup Xa 167 16 0) 167 2 0 c = jup Ma 0 0 0 c := fun c c1 c2 c3 c4 => by
          rw [jup_cell c1, jup_cell c1, v2 c c2, jup_cell c2, s3 c c1 c2 c3 c4]
        have z67 : ∀ j : Nat, j ≠ 2 → j ≠ 16 → jup (jup Xa 167 16 0) 167 2 0 167 j = X' 167 j := fun j j1 j2 => by
          rw [jup_if, if_neg j1, jup_if, if_neg j2, xa67]
        have z68 : ∀ u : Nat, jup (jup Xa 167 16 0) 167 2 0 168 u = if 136 ≤ u ∧ u < 496 then X' 168 (2016 + u) else if u = 7 then X' 168 2023 else X' 168 u := fun u => by
          rw [jup_cell (by omega), jup_cell (by omega), v3 u, jup_if, jup_if, if_neg (show ¬ 2016 + u = 7 by omega)]
        have zlow : ∀ u : Nat, u < 136 → u ≠ 7 → jup (jup Xa 167 16 0) 167 2 0 168 u = M 168 u := fun u hu h7 => by
          rw [z68, if_neg (by omega), if_neg h7, s6 u (by omega)]
        have a61 : Ma 60 1 = (st : Int) := by rw [a3 1 (by omega), jup_cell (by omega)]; exact q4
        refine ⟨_, _, _, _, hcl, hre, by rw [a61, xa67, q5], h.frame3 ⟨?_, ?_, ?_⟩ ?_ (fun b hb => ?_) ?_ (fun q q1 q2 => ?_) (fun q q1 q2 => ?_) ?_ ?_ ?_⟩
        · rw [zc 0 (by omega) (by omega) (by omega) (by omega), jup_if, if_pos rfl, jup_if, if_pos rfl]
        · rw [zc 0 (by omega) (by omega) (by omega) (by omega), k0 1 (by omega), z67 3 (by omega) (by omega), s4 3 (by omega)]; exact h.1.2.1
        · rw [zc 0 (by omega) (by omega) (by omega) (by omega), k0 2 (by omega), z67 4 (by omega) (by omega), s4 4 (by omega)]; exact h.1.2.2
        · rw [zc 0 (by omega) (by omega) (by omega) (by omega), k0 13 (by omega)]
        · rw [zc b (by omega) (by omega) (by omega) (by omega), kr b (by omega) (by omega) (by omega)]
        · rw [z67 38 (by omega) (by omega), s4 38 (by omega)]
        · rw [z68, if_neg (by omega), if_neg (by omega), s6 q (by omega)]
        · rw [zc 169 (by omega) (by omega) (by omega) (by omega), kr 169 (by omega) (by omega) (by omega)]
        · have z9 : jup (jup Xa 167 16 0) 167 2 0 9 = jup M' 9 1 0 9 := by rw [zc 9 (by omega) (by omega) (by omega) (by omega), jup_cell (by omega), a2 9 (by omega)]
          rw [z9, zc 11 (by omega) (by omega) (by omega) (by omega), kr 11 (by omega) (by omega) (by omega)]
          refine ⟨⟨?_, ?_, ?_⟩, fun k _ hk => ?_, ?_, ?_, t7⟩
          · rw [jup_if, if_pos rfl, z67 10 (by omega) (by omega), s5]
          · rw [jup_if, if_pos rfl]; omega
          · rw [jup_if, if_pos rfl]; omega
          · rw [jup_if, if_pos rfl] at hk; omega
          · rw [jup_if, if_neg (by omega), f2, jup_if, if_neg (by omega), jup_if, if_pos rfl]
          · rw [jup_if, if_neg (by omega), f3, z67 17 (by omega) (by omega), x17]
        · rw [zc 86 (by omega) (by omega) (by omega) (by omega), zc 87 (by omega) (by omega) (by omega) (by omega), zc 185 (by omega) (by omega) (by omega) (by omega), z67 37 (by omega) (by omega), s4 37 (by omega), kr 86 (by omega) (by omega) (by omega), kr 87 (by omega) (by omega) (by omega), kr 185 (by omega) (by omega) (by omega)]
          exact h.2.2.2.1
        · have c40 : ∀ c : Nat, 40 ≤ c → c < 60 → jup (jup Xa 167 16 0) 167 2 0 c = M c := fun c c1 c2 => by rw [zc c (by omega) (by omega) (by omega) (by omega), kr c (by omega) (by omega) (by omega)]
          have c60 : ∀ c : Nat, 60 ≤ c → c < 65 → jup (jup Xa 167 16 0) 167 2 0 c = Ma c := fun c c1 c2 => by rw [zc c (by omega) (by omega) (by omega) (by omega), jup_cell (by omega)]
          have esl : ∀ q : Nat, slot (jup (jup Xa 167 16 0) 167 2 0) 0 q = if 136 ≤ q ∧ q < 496 then X' 168 (2016 + q) else if q = 7 then X' 168 2023 else X' 168 q := fun q => by rw [slot0]; exact z68 q
          have cur := h.cur
          have n7 : ∀ {A' A : Nat → Int} (u : Nat), (∀ u : Nat, u < 136 → u ≠ 7 → A' u = A u) → u < 136 → u ≠ 7 → A' u = A u := fun u hA h1 h2 => hA u h1 h2
          have low : ∀ u : Nat, u < 136 → u ≠ 7 → slot (jup (jup Xa 167 16 0) 167 2 0) 0 u = M 168 u := fun u hu h7 => by rw [slot0]; exact zlow u hu h7
          unfold Rpark
          refine ⟨?_, ?_, ?_, ?_⟩
          · rw [blk_congr (by decide) (M := M) (a := 40) (z := 12) (fun j hj => c40 _ (by omega) (by omega))]
            exact cur.1.congr2 (fun k hk => low k (by omega) (by omega)) (fun t k ht hk => low _ (by omega) (by omega)) (fun b hb => ⟨low _ (by omega) (by omega), low _ (by omega) (by omega), low _ (by omega) (by omega)⟩)
          · rw [blk_congr (by decide) (M := M) (a := 52) (z := 8) (fun j hj => c40 _ (by omega) (by omega))]
            exact cur.2.1.congr2 (fun k hk _ => low k (by omega) (by omega)) (fun t ht => ⟨low _ (by omega) (by omega), low _ (by omega) (by omega), low _ (by omega) (by omega)⟩) (fun b hb => ⟨low _ (by omega) (by omega), low _ (by omega) (by omega), low _ (by omega) (by omega), low _ (by omega) (by omega), low _ (by omega) (by omega), low _ (by omega) (by omega)⟩)
          · rw [blk_congr (by decide) (M := M) (a := 40) (z := 12) (fun j hj => c40 _ (by omega) (by omega)), zc 169 (by omega) (by omega) (by omega) (by omega), kr 169 (by omega) (by omega) (by omega), show (fun k => M 169 (0 + k)) = M 169 from funext fun k => by rw [Nat.zero_add]]
            exact cur.2.2.1
          · rw [c40 40 (by omega) (by omega)]
            refine hQ.rw ?_ ?_ (fun k hk => ⟨?_, ?_, ?_, ?_⟩) ?_ (fun i i1 i2 => ?_)
            · rw [blk_at (by omega), c60 _ (by omega) (by omega), a3 0 (by omega), jup_cell (by omega)]
            · rw [blk_at (by omega), c60 _ (by omega) (by omega), a3 2 (by omega), jup_cell (by omega)]
            · rw [blk_at (by omega), c60 _ (by omega) (by omega), a4 1 k (by omega) (by omega) hk, jup_cell (by omega)]
            · rw [blk_at (by omega), c60 _ (by omega) (by omega), a4 2 k (by omega) (by omega) hk, jup_cell (by omega)]
            · rw [blk_at (by omega), c60 _ (by omega) (by omega), a4 3 k (by omega) (by omega) hk, jup_cell (by omega)]
            · rw [blk_at (by omega), c60 _ (by omega) (by omega), a4 4 k (by omega) (by omega) hk, jup_cell (by omega)]
            · rw [esl, if_neg (by omega), if_pos rfl]
            · rw [esl, if_pos ⟨i1, i2⟩]
      · exact absurd (ok.symm.trans z) (by simp)
    · -- a fault
      have hcl : f_X11_weeks n (N : Int) M = some (-1, jup (jup M' 9 1 0) 0 0 9) := by
        rw [head, bad, bnd_some, letv_ap, letm_ap, if_pos (by decide), q_refuse, bnd_some]
      have kr : ∀ c : Nat, (c < 33 ∨ 40 ≤ c) → c ≠ 9 → c ≠ 0 → jup (jup M' 9 1 0) 0 0 9 c = M c := fun c hc c9 c0 => by
        rw [jup_cell c0, jup_cell c9, r2 c c9 hc]
      have k0 : ∀ j : Nat, j ≠ 0 → jup (jup M' 9 1 0) 0 0 9 0 j = M 0 j := fun j hj => by
        rw [jup_if, if_neg hj, jup_cell (by omega), r2 0 (by omega) (by omega)]
      obtain ⟨X', s1, s3, s4, s5, s6, s8⟩ := second (jup (jup M' 9 1 0) 0 0 9) (fun c hc => kr c (by omega) (by omega) (by omega))
      rcases s8 with ⟨z, -⟩ | ⟨-, hF⟩
      · exact absurd (bad.symm.trans z) (by simp)
      · obtain ⟨f1, f2, f3, f4, f5⟩ := hF
        have x18 : 1 ≤ X' 167 18 ∧ X' 167 18 ≤ 9 := by omega
        have hre : f_X12_weeks n (N : Int) (jup (jup M' 9 1 0) 0 0 9) = some (-1, jup (jup X' 167 16 (X' 167 18)) 167 2 9) := by
          rw [s1]
          unfold f_X12_weeks_L77 f_X12_weeks_L132
          rw [if_neg (by rw [jw_of (x := X' 167 18) (by omega) (by omega)]; omega), taken_no x18, bnd_some]
        have zc : ∀ c : Nat, c ≠ 167 → c ≠ 168 → c ≠ 174 → c ≠ 175 → jup (jup X' 167 16 (X' 167 18)) 167 2 9 c = jup (jup M' 9 1 0) 0 0 9 c := fun c c1 c2 c3 c4 => by
          rw [jup_cell c1, jup_cell c1, s3 c c1 c2 c3 c4]
        have z67 : ∀ j : Nat, j ≠ 2 → j ≠ 16 → jup (jup X' 167 16 (X' 167 18)) 167 2 9 167 j = X' 167 j := fun j j1 j2 => by
          rw [jup_if, if_neg j1, jup_if, if_neg j2]
        have z68 : ∀ u : Nat, u < 2016 → jup (jup X' 167 16 (X' 167 18)) 167 2 9 168 u = M 168 u := fun u hu => by
          rw [jup_cell (by omega), jup_cell (by omega), s6 u hu]
        have z69 : ∀ u : Nat, jup (jup X' 167 16 (X' 167 18)) 167 2 9 169 u = M 169 u := fun u => by
          rw [zc 169 (by omega) (by omega) (by omega) (by omega), kr 169 (by omega) (by omega) (by omega)]
        refine ⟨_, _, _, _, hcl, hre, rfl, h.frame3 ⟨?_, ?_, ?_⟩ ?_ (fun b hb => ?_) ?_ (fun q q1 q2 => z68 q q2) (fun q q1 q2 => z69 q) ?_ ?_ ?_⟩
        · rw [zc 0 (by omega) (by omega) (by omega) (by omega), jup_if, if_pos rfl, jup_if, if_pos rfl]
        · rw [zc 0 (by omega) (by omega) (by omega) (by omega), k0 1 (by omega), z67 3 (by omega) (by omega), s4 3 (by omega)]; exact h.1.2.1
        · rw [zc 0 (by omega) (by omega) (by omega) (by omega), k0 2 (by omega), z67 4 (by omega) (by omega), s4 4 (by omega)]; exact h.1.2.2
        · rw [zc 0 (by omega) (by omega) (by omega) (by omega), k0 13 (by omega)]
        · rw [zc b (by omega) (by omega) (by omega) (by omega), kr b (by omega) (by omega) (by omega)]
        · rw [z67 38 (by omega) (by omega), s4 38 (by omega)]
        · have z9 : jup (jup X' 167 16 (X' 167 18)) 167 2 9 9 = jup M' 9 1 0 9 := by rw [zc 9 (by omega) (by omega) (by omega) (by omega), jup_cell (by omega)]
          rw [z9, zc 11 (by omega) (by omega) (by omega) (by omega), kr 11 (by omega) (by omega) (by omega)]
          refine ⟨⟨?_, ?_, ?_⟩, fun k _ hk => ?_, ?_, ?_, t7⟩
          · rw [jup_if, if_pos rfl, z67 10 (by omega) (by omega), s5]
          · rw [jup_if, if_pos rfl]; omega
          · rw [jup_if, if_pos rfl]; omega
          · rw [jup_if, if_pos rfl] at hk; omega
          · rw [jup_if, if_neg (by omega), f1, jup_if, if_neg (by omega), jup_if, if_pos rfl]
          · rw [jup_if, if_neg (by omega), f4, z67 17 (by omega) (by omega)]
        · rw [zc 86 (by omega) (by omega) (by omega) (by omega), zc 87 (by omega) (by omega) (by omega) (by omega), zc 185 (by omega) (by omega) (by omega) (by omega), z67 37 (by omega) (by omega), s4 37 (by omega), kr 86 (by omega) (by omega) (by omega), kr 87 (by omega) (by omega) (by omega), kr 185 (by omega) (by omega) (by omega)]
          exact h.2.2.2.1
        · have e : ∀ c : Nat, 40 ≤ c → c < 65 → jup (jup X' 167 16 (X' 167 18)) 167 2 9 c = M c := fun c c1 c2 => by rw [zc c (by omega) (by omega) (by omega) (by omega), kr c (by omega) (by omega) (by omega)]
          exact hp.gen ⟨fun q _ => by rw [e 40 (by omega) (by omega)], fun j q _ _ _ => by rw [e _ (by omega) (by omega)], fun j q _ _ _ => by rw [e _ (by omega) (by omega)]⟩ ⟨fun q _ => by rw [e 52 (by omega) (by omega)], fun j q _ _ _ => by rw [e _ (by omega) (by omega)]⟩ ⟨fun q _ => by rw [e 60 (by omega) (by omega)], fun j q _ _ _ => by rw [e _ (by omega) (by omega)]⟩ (fun q hq => z68 _ (by omega)) (fun q hq => z69 _)
  · refine Pr.end (r := -1) (s := -1) (x := 1) (y := 1) h ?_ ?_ rfl rfl
    · unfold f_X11_weeks f_X11_weeks_L22
      by_cases c2 : jw x1 < 0
      · rw [if_pos c2]; rfl
      · by_cases c3 : jw (M 9 1) < jw x1
        · rw [if_neg c2, if_pos c3]; rfl
        · rw [if_neg c2, if_neg c3, if_neg (by rw [j300 trivial]; omega)]; rfl
    · unfold f_X12_weeks
      have eb : f_X12_begins n x1 300 (jup M 0 0 1) = some (0, jup M 0 0 1) := by
        unfold f_X12_begins
        rw [show jup M 0 0 1 167 10 = M 9 1 from t1.symm]
        by_cases c2 : jw x1 < 0
        · rw [if_pos c2]
        · by_cases c3 : jw (M 9 1) < jw x1
          · rw [if_neg c2, if_pos c3]
          · rw [if_neg c2, if_neg c3, if_neg (by rw [j300 trivial]; omega)]
      rw [eb, bnd_some, if_pos (by decide)]; rfl
end PWEEKS3

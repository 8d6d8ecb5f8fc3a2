section PPARK3
variable {n : Nat} {M X : JMem}
/-- the frame: the tape, what was lived, the park that is now are other ones -/
theorem JR.frame3 (h : JR M) {M' : JMem} (hs : Rsta M') (h13 : M' 0 13 = M 0 13) (hk : ∀ b : Nat, ((3 ≤ b ∧ b ≤ 8) ∨ (92 ≤ b ∧ b < 167) ∨ (170 ≤ b ∧ b ≤ 172)) → M' b = M b) (h38 : M' 167 38 = M 167 38) (hslot : ∀ k : Nat, 504 ≤ k → k < 2016 → M' 168 k = M 168 k) (h69 : ∀ k : Nat, 22 ≤ k → k < 88 → M' 169 k = M 169 k) (hx : Rtxt (M' 9) (M' 10) (M' 11) (M' 167) (M' 173)) (hl : Rliv (M' 86) (M' 87) (M' 167 37) (M' 185)) (hp : Rpark M' 40 52 60 0 0) : JR M' := by
  obtain ⟨g1, g2, g3, g4, g5, g6⟩ := h
  refine ⟨hs, ?_, hx, hl, hp, ?_⟩
  · rw [show jwt M' = jwt M from funext fun t => by unfold jwt; rw [hk 3 (by omega), hk 4 (by omega), hk 5 (by omega), hk 6 (by omega)], hk 7 (by omega), hk 8 (by omega), hk 170 (by omega), hk 171 (by omega), hk 172 (by omega)]
    exact g2
  · unfold Rmrk at g6 ⊢
    rw [h13, h38]
    refine ⟨g6.1, g6.2.1, g6.2.2.1, fun i hi hl => ?_⟩
    exact (g6.2.2.2 i hi hl).gen ⟨fun k _ => by rw [hk _ (by omega)], fun j k _ _ _ => by rw [hk _ (by omega)], fun j k _ _ _ => by rw [hk _ (by omega)]⟩ ⟨fun k _ => by rw [hk _ (by omega)], fun j k _ _ _ => by rw [hk _ (by omega)]⟩ ⟨fun k _ => by rw [hk _ (by omega)], fun j k _ _ _ => by rw [hk _ (by omega)]⟩ (fun k hk5 => hslot _ (by omega) (by omega)) (fun k hk2 => h69 _ (by omega) (by omega))
theorem q_cpA : ∀ (d i q : Nat) (X : JMem), i + d = 504 → d < q → ∃ X1, f_X12_park_L59 n q (i : Int) X = f_X12_park_L88 n X1 ∧ (∀ c : Nat, c ≠ 168 → X1 c = X c) ∧ ∀ u : Nat, X1 168 u = if i ≤ u ∧ u < 504 then X 168 (2016 + u) else X 168 u := by
  intro d
  induction d with
  | zero =>
    intro i q X hi hq
    obtain ⟨q, rfl⟩ : ∃ z, q = z + 1 := ⟨q - 1, by omega⟩
    obtain rfl : i = 504 := by omega
    exact ⟨X, by rw [f_X12_park_L59, if_pos (by decide)], fun _ _ => rfl, fun u => by rw [if_neg (by omega)]⟩
  | succ d ih =>
    intro i q X hi hq
    obtain ⟨q, rfl⟩ : ∃ z, q = z + 1 := ⟨q - 1, by omega⟩
    obtain ⟨X1, r1, r2, r3⟩ := ih (i + 1) q (jup X 168 i (X 168 (2016 + i))) (by omega) (by omega)
    refine ⟨X1, ?_, fun c hc => by rw [r2 c hc, jup_cell hc], fun u => ?_⟩
    · rw [f_X12_park_L59, if_neg (by rw [jwN (by omega), show jw 504 = 504 by decide]; omega), show (2016 : Int) + (i : Int) = ((2016 + i : Nat) : Int) by omega, chk_pos (jinN (by omega) (by omega)), chk_pos (jinN (by omega) (by omega)), jwT (by omega), jwT (by omega), letm_ap, letv_ap, show (i : Int) + 1 = ((i + 1 : Nat) : Int) by omega]
      exact r1
    · rw [r3 u, jup_if, jup_if, if_neg (show ¬ 2016 + u = i by omega)]
      by_cases e : u = i
      · rw [if_neg (by omega), if_pos e, if_pos (by omega), e]
      · by_cases c : i + 1 ≤ u ∧ u < 504
        · rw [if_pos c, if_pos (by omega)]
        · rw [if_neg c, if_neg e, if_neg (by omega)]
theorem q_cpN : ∀ (d i q : Nat) (X : JMem), i + d = 22 → d < q → ∃ X1, f_X12_park_L90 n q (i : Int) X = f_X12_park_L117 n X1 ∧ (∀ c : Nat, c ≠ 169 → X1 c = X c) ∧ ∀ u : Nat, X1 169 u = if i ≤ u ∧ u < 22 then X 169 (88 + u) else X 169 u := by
  intro d
  induction d with
  | zero =>
    intro i q X hi hq
    obtain ⟨q, rfl⟩ : ∃ z, q = z + 1 := ⟨q - 1, by omega⟩
    obtain rfl : i = 22 := by omega
    exact ⟨X, by rw [f_X12_park_L90, if_pos (by decide)], fun _ _ => rfl, fun u => by rw [if_neg (by omega)]⟩
  | succ d ih =>
    intro i q X hi hq
    obtain ⟨q, rfl⟩ : ∃ z, q = z + 1 := ⟨q - 1, by omega⟩
    obtain ⟨X1, r1, r2, r3⟩ := ih (i + 1) q (jup X 169 i (X 169 (88 + i))) (by omega) (by omega)
    refine ⟨X1, ?_, fun c hc => by rw [r2 c hc, jup_cell hc], fun u => ?_⟩
    · rw [f_X12_park_L90, if_neg (by rw [jwN (by omega), show jw 22 = 22 by decide]; omega), show (88 : Int) + (i : Int) = ((88 + i : Nat) : Int) by omega, chk_pos (jinN (by omega) (by omega)), chk_pos (jinN (by omega) (by omega)), jwT (by omega), jwT (by omega), letm_ap, letv_ap, show (i : Int) + 1 = ((i + 1 : Nat) : Int) by omega]
      exact r1
    · rw [r3 u, jup_if, jup_if, if_neg (show ¬ 88 + u = i by omega)]
      by_cases e : u = i
      · rw [if_neg (by omega), if_pos e, if_pos (by omega), e]
      · by_cases c : i + 1 ≤ u ∧ u < 22
        · rw [if_pos c, if_pos (by omega)]
        · rw [if_neg c, if_neg e, if_neg (by omega)]
theorem taken_no (h : 1 ≤ X 167 18 ∧ X 167 18 ≤ 9) (x : Int) : f_X12_taken n x X = some (-1, jup (jup X 167 16 (X 167 18)) 167 2 9) := by
  unfold f_X12_taken
  rw [letm_ap, jup_if, if_neg (show ¬ (18 : Nat) = 16 by decide), if_neg (by rw [jw_of (x := X 167 18) (by omega) (by omega)]; omega), q_refuseM, bnd_some]
theorem taken_yes (h : X 167 18 = 0) (x : Int) : f_X12_taken n x X = some (x, jup (jup X 167 16 0) 167 2 0) := by
  unfold f_X12_taken
  rw [letm_ap, h, jup_if, if_neg (show ¬ (18 : Nat) = 16 by decide), h, if_pos (by decide), q_gives, bnd_some]
theorem p_park (hn : 2000 ≤ n) : jO_park JR n := by
  intro x1 hx M h
  have e := jwI hx
  have g3 := h.2.2.1
  obtain ⟨⟨t1, t2, t3⟩, t4, t5, t6, t7⟩ := g3
  have j9 : jw (M 9 1) = M 9 1 := jw_of (by omega) (by omega)
  by_cases c : 0 ≤ x1 ∧ x1 ≤ M 9 1
  · obtain ⟨N, N901, rfl⟩ := natOf (x := x1) (k := 901) c.1 (by omega)
    have bytes : ∀ k : Nat, k < N → -128 ≤ M 10 k ∧ M 10 k < 128 := fun k hk => (t4 k (by omega) (by omega)).2
    have head : f_X11_park n (N : Int) M = bnd (f_X2_takesAll n (N : Int) M) fun r1 M2 => letv r1 fun y3 => letm (jup M2 9 1 0) fun M4 => if jw y3 = 0 then (bnd (f_X11_refuse n 9 M4) fun r13 M14 => some (r13, M14)) else (bnd (f_X4_copyFrom n 40 13 M4) fun _ M6 => bnd (f_X1_copyFrom n 52 25 M6) fun _ M8 => bnd (f_X9_forget n 60 M8) fun _ M10 => bnd (f_X11_answer n (M10 40 2) M10) fun r11 M12 => some (r11, M12)) := by
      unfold f_X11_park
      rw [if_neg (by omega), if_pos (by omega)]
    obtain ⟨M', X0', -, r2, -, -, -, -, -, r8⟩ := park_core (n := n) (M := M) (X := M) (N := N) (f1 := M 9 1) hn c.2 ⟨t2, t3⟩ bytes (fun k hk => ((t4 k (by omega) (by omega)).1).symm) t7 t1.symm
    have second : ∀ (Mc : JMem), (∀ c : Nat, 167 ≤ c → Mc c = M c) → ∃ X' : JMem, f_X12_park n (N : Int) Mc = f_X12_park_L50 n X' ∧ (∀ c : Nat, c ≠ 167 → c ≠ 168 → c ≠ 169 → c ≠ 174 → X' c = Mc c) ∧ (∀ j : Nat, j < 10 ∨ 21 ≤ j → X' 167 j = M 167 j) ∧ X' 167 10 = 0 ∧ (∀ i : Nat, i < 2016 → X' 168 i = M 168 i) ∧ (∀ j : Nat, j < 88 → X' 169 j = M 169 j) ∧
        ((f_X2_takesAll n (N : Int) M = some (1, M') ∧ M' 9 2 = 0 ∧ M' 9 3 = -1 ∧ X' 167 18 = 0 ∧ X' 167 17 = -1 ∧ X' 168 2023 = -1 ∧ RP (blk M' 13 12) (slot X' 2016) ∧ RN (blk M' 25 8) (slot X' 2016) ∧ RK (blk M' 13 12) (fun j => X' 169 (88 + j))) ∨
         (f_X2_takesAll n (N : Int) M = some (0, M') ∧ FLT (M' 9) (X' 167))) := fun Mc hMc => by
      obtain ⟨M2, X', s1, s2, s3, s4, s5, s6, s7, s8⟩ := park_core (n := n) (M := M) (X := Mc) (N := N) (f1 := M 9 1) hn c.2 ⟨t2, t3⟩ bytes (fun k hk => by rw [hMc 173 (by omega)]; exact ((t4 k (by omega) (by omega)).1).symm) t7 (by rw [hMc 167 (by omega)]; exact t1.symm)
      have eM : M2 = M' := by
        rcases r8 with r8 | r8 <;> rcases s8 with s8 | s8
        · have := r8.1.symm.trans s8.1
          simpa using this.symm
        · have := r8.1.symm.trans s8.1
          simp at this
        · have := r8.1.symm.trans s8.1
          simp at this
        · have := r8.1.symm.trans s8.1
          simpa using this.symm
      subst eM
      exact ⟨X', s1, s3, fun j hj => by rw [s4 j hj, hMc 167 (by omega)], s5, fun i hi => by rw [s6 i hi, hMc 168 (by omega)], fun j hj => by rw [s7 j hj, hMc 169 (by omega)], s8⟩
    rcases r8 with ⟨ok, -⟩ | ⟨bad, hF⟩
    · -- it is a park
      obtain ⟨Ma, a1, a2, a3, a4, a5⟩ := c_copyPlan (n := n) (M := jup M' 9 1 0) (th := 40) (p := 13) (by omega)
      obtain ⟨Mb, b1, b2, b3, b4⟩ := c_copyNow (n := n) (M := Ma) (th := 52) (p := 25) (by omega)
      have cf : ∀ c : Nat, c ≠ 60 → jup (jup (jup Mb 60 0 0) 60 1 0) 60 2 0 c = Mb c := fun c hc => by rw [jup_cell hc, jup_cell hc, jup_cell hc]
      have k60 : ∀ j : Nat, j < 3 → jup (jup (jup Mb 60 0 0) 60 1 0) 60 2 0 60 j = 0 := fun j hj => by
        rw [jup_if, jup_if, jup_if]
        by_cases z2 : j = 2
        · rw [if_pos z2]
        · by_cases z1 : j = 1
          · rw [if_neg z2, if_pos z1]
          · rw [if_neg z2, if_neg z1, if_pos (by omega)]
      have efor : f_X9_forget n 60 Mb = some (0, jup (jup (jup Mb 60 0 0) 60 1 0) 60 2 0) := by
        unfold f_X9_forget
        rw [chk_pos (by decide), letm_ap, letm_ap, letm_ap]
      generalize jup (jup (jup Mb 60 0 0) 60 1 0) 60 2 0 = Md at cf k60 efor
      have hcl : f_X11_park n (N : Int) M = some (Md 40 2, jup Md 0 0 0) := by
        rw [head, ok, bnd_some, letv_ap, letm_ap, if_neg (by decide), a1, bnd_some, b1, bnd_some, efor, bnd_some, q_answer, bnd_some]
      -- cells of the class at the end
      have kd : ∀ c : Nat, c < 40 ∨ 61 ≤ c → c ≠ 0 → jup Md 0 0 0 c = jup M' 9 1 0 c := fun c hc c0 => by
        rw [jup_cell c0, cf c (by omega), b2 c (by omega), a2 c (by omega)]
      have kr : ∀ c : Nat, (c < 9 ∨ (10 ≤ c ∧ c < 12) ∨ (33 ≤ c ∧ c < 40) ∨ 61 ≤ c) → c ≠ 0 → jup Md 0 0 0 c = M c := fun c hc c0 => by
        rw [kd c (by omega) c0, jup_cell (by omega), r2 c (by omega) (by omega)]
      have k0 : ∀ j : Nat, j ≠ 0 → jup Md 0 0 0 0 j = M 0 j := fun j hj => by
        rw [jup_if, if_neg hj, cf 0 (by omega), b2 0 (by omega), a2 0 (by omega), jup_cell (by omega), r2 0 (by omega) (by omega)]
      obtain ⟨X', s1, s3, s4, s5, s6, s7, s8⟩ := second (jup Md 0 0 0) (fun c hc => kr c (by omega) (by omega))
      rcases s8 with ⟨-, f2, f3, x18, x17, x23, hP, hR, hK⟩ | ⟨z, -⟩
      · obtain ⟨Xa, v1, v2, v3⟩ := q_cpA (n := n) 504 0 n X' (by omega) (by omega)
        obtain ⟨Xb, w1, w2, w3⟩ := q_cpN (n := n) 22 0 n Xa (by omega) (by omega)
        have xb67 : Xb 167 = X' 167 := by rw [w2 167 (by omega), v2 167 (by omega)]
        have hre : f_X12_park n (N : Int) (jup Md 0 0 0) = some (Xb 168 2, jup (jup Xb 167 16 0) 167 2 0) := by
          rw [s1]
          unfold f_X12_park_L50
          rw [x18, if_pos (by decide), letv_ap, show f_X12_park_L59 n n 0 X' = _ from v1]
          unfold f_X12_park_L88
          rw [letv_ap, show f_X12_park_L90 n n 0 Xa = _ from w1]
          unfold f_X12_park_L117
          rw [chk_pos (by decide), show (jw 2).toNat = 2 by decide, taken_yes (by rw [xb67]; exact x18), bnd_some]
        have zc : ∀ c : Nat, c ≠ 167 → c ≠ 168 → c ≠ 169 → c ≠ 174 → jup (jup Xb 167 16 0) 167 2 0 c = jup Md 0 0 0 c := fun c c1 c2 c3 c4 => by
          rw [jup_cell c1, jup_cell c1, w2 c c3, v2 c c2, s3 c c1 c2 c3 c4]
        have z67 : ∀ j : Nat, j ≠ 2 → j ≠ 16 → jup (jup Xb 167 16 0) 167 2 0 167 j = X' 167 j := fun j j1 j2 => by
          rw [jup_if, if_neg j1, jup_if, if_neg j2, xb67]
        have z68 : ∀ u : Nat, jup (jup Xb 167 16 0) 167 2 0 168 u = if u < 504 then X' 168 (2016 + u) else X' 168 u := fun u => by
          rw [jup_cell (by omega), jup_cell (by omega), w2 168 (by omega), v3 u]
          by_cases z : u < 504
          · rw [if_pos (by omega), if_pos z]
          · rw [if_neg (by omega), if_neg z]
        have z69 : ∀ u : Nat, jup (jup Xb 167 16 0) 167 2 0 169 u = if u < 22 then X' 169 (88 + u) else X' 169 u := fun u => by
          rw [jup_cell (by omega), jup_cell (by omega), w3 u]
          by_cases z : u < 22
          · rw [if_pos (by omega), if_pos z, v2 169 (by omega)]
          · rw [if_neg (by omega), if_neg z, v2 169 (by omega)]
        have n2 : M' 13 2 = X' 168 2018 := hP.2.2.1.1
        have m40 : Md 40 2 = M' 13 2 := by rw [cf 40 (by omega), b2 40 (by omega), a3 2 (by omega), jup_cell (by omega)]
        have x2 : Xb 168 2 = X' 168 2018 := by rw [w2 168 (by omega), v3 2, if_pos (by omega)]
        refine ⟨_, _, _, _, hcl, hre, by rw [m40, n2, x2], h.frame3 ⟨?_, ?_, ?_⟩ ?_ (fun b hb => ?_) ?_ (fun q q1 q2 => ?_) (fun q q1 q2 => ?_) ?_ ?_ ?_⟩
        · rw [zc 0 (by omega) (by omega) (by omega) (by omega), jup_if, if_pos rfl, jup_if, if_pos rfl]
        · rw [zc 0 (by omega) (by omega) (by omega) (by omega), k0 1 (by omega), z67 3 (by omega) (by omega), s4 3 (by omega)]; exact h.1.2.1
        · rw [zc 0 (by omega) (by omega) (by omega) (by omega), k0 2 (by omega), z67 4 (by omega) (by omega), s4 4 (by omega)]; exact h.1.2.2
        · rw [zc 0 (by omega) (by omega) (by omega) (by omega), k0 13 (by omega)]
        · rw [zc b (by omega) (by omega) (by omega) (by omega), kr b (by omega) (by omega)]
        · rw [z67 38 (by omega) (by omega), s4 38 (by omega)]
        · rw [z68, if_neg (by omega), s6 q (by omega)]
        · rw [z69, if_neg (by omega), s7 q (by omega)]
        · have z9 : jup (jup Xb 167 16 0) 167 2 0 9 = jup M' 9 1 0 9 := by rw [zc 9 (by omega) (by omega) (by omega) (by omega), kd 9 (by omega) (by omega)]
          rw [z9, zc 11 (by omega) (by omega) (by omega) (by omega), kr 11 (by omega) (by omega)]
          refine ⟨⟨?_, ?_, ?_⟩, fun k _ hk => ?_, ?_, ?_, t7⟩
          · rw [jup_if, if_pos rfl, z67 10 (by omega) (by omega), s5]
          · rw [jup_if, if_pos rfl]; omega
          · rw [jup_if, if_pos rfl]; omega
          · rw [jup_if, if_pos rfl] at hk; omega
          · rw [jup_if, if_neg (by omega), f2, jup_if, if_neg (by omega), jup_if, if_pos rfl]
          · rw [jup_if, if_neg (by omega), f3, z67 17 (by omega) (by omega), x17]
        · rw [zc 86 (by omega) (by omega) (by omega) (by omega), zc 87 (by omega) (by omega) (by omega) (by omega), zc 185 (by omega) (by omega) (by omega) (by omega), z67 37 (by omega) (by omega), s4 37 (by omega), kr 86 (by omega) (by omega), kr 87 (by omega) (by omega), kr 185 (by omega) (by omega)]
          exact h.2.2.2.1
        · have c13 : ∀ j : Nat, j < 12 → jup (jup Xb 167 16 0) 167 2 0 (13 + j) = M' (13 + j) := fun j hj => by rw [zc _ (by omega) (by omega) (by omega) (by omega), kd _ (by omega) (by omega), jup_cell (by omega)]
          have c25 : ∀ j : Nat, j < 8 → jup (jup Xb 167 16 0) 167 2 0 (25 + j) = M' (25 + j) := fun j hj => by rw [zc _ (by omega) (by omega) (by omega) (by omega), kd _ (by omega) (by omega), jup_cell (by omega)]
          have c60 : jup (jup Xb 167 16 0) 167 2 0 60 = Md 60 := by rw [zc 60 (by omega) (by omega) (by omega) (by omega), jup_cell (by omega)]
          have d40 : ∀ j : Nat, j < 12 → jup (jup Xb 167 16 0) 167 2 0 (40 + j) = Ma (40 + j) := fun j hj => by rw [zc _ (by omega) (by omega) (by omega) (by omega), jup_cell (by omega), cf _ (by omega), b2 _ (by omega)]
          have d52 : ∀ j : Nat, j < 8 → jup (jup Xb 167 16 0) 167 2 0 (52 + j) = Mb (52 + j) := fun j hj => by rw [zc _ (by omega) (by omega) (by omega) (by omega), jup_cell (by omega), cf _ (by omega)]
          have esl : ∀ q : Nat, q < 504 → slot (jup (jup Xb 167 16 0) 167 2 0) 2016 q = slot X' 2016 q := fun q hq => by
            show jup (jup Xb 167 16 0) 167 2 0 168 (2016 + q) = X' 168 (2016 + q)
            rw [z68, if_neg (by omega)]
          have new : Rpark (jup (jup Xb 167 16 0) 167 2 0) 13 25 60 2016 88 := by
            refine ⟨?_, ?_, ?_, Or.inl ⟨?_, ?_⟩⟩
            · rw [blk_congr (by decide) (M := M') (a := 13) (z := 12) c13]
              exact hP.congr (fun _ _ => rfl) (fun q hq => esl q (by omega))
            · rw [blk_congr (by decide) (M := M') (a := 25) (z := 8) c25]
              exact hR.low (fun q hq => esl q (by omega))
            · rw [blk_congr (by decide) (M := M') (a := 13) (z := 12) c13]
              exact hK.congr3 hP (fun _ _ => rfl) (fun _ _ _ _ _ => rfl) (fun q hq => by show jup (jup Xb 167 16 0) 167 2 0 169 (88 + q) = X' 169 (88 + q); rw [z69, if_neg (by omega)])
            · show jup (jup Xb 167 16 0) 167 2 0 60 0 = 0
              rw [c60]; exact k60 0 (by omega)
            · rw [esl 7 (by omega)]; exact x23
          refine new.gen ⟨fun q hq => ?_, fun j q j1 j2 hq => ?_, fun j q j1 j2 hq => ?_⟩ ⟨fun q hq => ?_, fun j q j1 j2 hq => ?_⟩ ⟨fun _ _ => rfl, fun _ _ _ _ _ => rfl⟩ (fun q hq => ?_) (fun q hq => ?_)
          · rw [show jup (jup Xb 167 16 0) 167 2 0 40 = Ma 40 from d40 0 (by omega), show jup (jup Xb 167 16 0) 167 2 0 13 = M' 13 from c13 0 (by omega), a3 q hq, jup_cell (by omega)]
          · rw [d40 j (by omega), c13 j (by omega), a4 j q j1 j2 hq, jup_cell (by omega)]
          · rw [d40 j (by omega), c13 j (by omega), a5 j q j1 j2 hq, jup_cell (by omega)]
          · rw [show jup (jup Xb 167 16 0) 167 2 0 52 = Mb 52 from d52 0 (by omega), show jup (jup Xb 167 16 0) 167 2 0 25 = M' 25 from c25 0 (by omega), b3 q hq, a2 25 (by omega), jup_cell (by omega)]
          · rw [d52 j (by omega), c25 j (by omega), b4 j q j1 j2 hq, a2 _ (by omega), jup_cell (by omega)]
          · rw [Nat.zero_add, z68, if_pos hq, z68, if_neg (by omega)]
          · rw [Nat.zero_add, z69, if_pos hq, z69, if_neg (by omega)]
      · exact absurd (ok.symm.trans z) (by simp)
    · -- a fault
      have hcl : f_X11_park n (N : Int) M = some (-1, jup (jup M' 9 1 0) 0 0 9) := by
        rw [head, bad, bnd_some, letv_ap, letm_ap, if_pos (by decide), q_refuse, bnd_some]
      have kr : ∀ c : Nat, (c < 9 ∨ (10 ≤ c ∧ c < 12) ∨ 33 ≤ c) → c ≠ 0 → jup (jup M' 9 1 0) 0 0 9 c = M c := fun c hc c0 => by
        rw [jup_cell c0, jup_cell (by omega), r2 c (by omega) (by omega)]
      have k0 : ∀ j : Nat, j ≠ 0 → jup (jup M' 9 1 0) 0 0 9 0 j = M 0 j := fun j hj => by
        rw [jup_if, if_neg hj, jup_cell (by omega), r2 0 (by omega) (by omega)]
      obtain ⟨X', s1, s3, s4, s5, s6, s7, s8⟩ := second (jup (jup M' 9 1 0) 0 0 9) (fun c hc => kr c (by omega) (by omega))
      rcases s8 with ⟨z, -⟩ | ⟨-, hF⟩
      · exact absurd (bad.symm.trans z) (by simp)
      · obtain ⟨f1, f2, f3, f4, f5⟩ := hF
        have x18 : 1 ≤ X' 167 18 ∧ X' 167 18 ≤ 9 := by omega
        have hre : f_X12_park n (N : Int) (jup (jup M' 9 1 0) 0 0 9) = some (-1, jup (jup X' 167 16 (X' 167 18)) 167 2 9) := by
          rw [s1]
          unfold f_X12_park_L50 f_X12_park_L117
          rw [if_neg (by rw [jw_of (x := X' 167 18) (by omega) (by omega)]; omega), chk_pos (by decide), taken_no x18, bnd_some]
        have zc : ∀ c : Nat, c ≠ 167 → c ≠ 168 → c ≠ 169 → c ≠ 174 → jup (jup X' 167 16 (X' 167 18)) 167 2 9 c = jup (jup M' 9 1 0) 0 0 9 c := fun c c1 c2 c3 c4 => by
          rw [jup_cell c1, jup_cell c1, s3 c c1 c2 c3 c4]
        have z67 : ∀ j : Nat, j ≠ 2 → j ≠ 16 → jup (jup X' 167 16 (X' 167 18)) 167 2 9 167 j = X' 167 j := fun j j1 j2 => by
          rw [jup_if, if_neg j1, jup_if, if_neg j2]
        have z68 : ∀ u : Nat, u < 2016 → jup (jup X' 167 16 (X' 167 18)) 167 2 9 168 u = M 168 u := fun u hu => by
          rw [jup_cell (by omega), jup_cell (by omega), s6 u hu]
        have z69 : ∀ u : Nat, u < 88 → jup (jup X' 167 16 (X' 167 18)) 167 2 9 169 u = M 169 u := fun u hu => by
          rw [jup_cell (by omega), jup_cell (by omega), s7 u hu]
        refine ⟨_, _, _, _, hcl, hre, rfl, h.frame3 ⟨?_, ?_, ?_⟩ ?_ (fun b hb => ?_) ?_ (fun q q1 q2 => z68 q q2) (fun q q1 q2 => z69 q q2) ?_ ?_ ?_⟩
        · rw [zc 0 (by omega) (by omega) (by omega) (by omega), jup_if, if_pos rfl, jup_if, if_pos rfl]
        · rw [zc 0 (by omega) (by omega) (by omega) (by omega), k0 1 (by omega), z67 3 (by omega) (by omega), s4 3 (by omega)]; exact h.1.2.1
        · rw [zc 0 (by omega) (by omega) (by omega) (by omega), k0 2 (by omega), z67 4 (by omega) (by omega), s4 4 (by omega)]; exact h.1.2.2
        · rw [zc 0 (by omega) (by omega) (by omega) (by omega), k0 13 (by omega)]
        · rw [zc b (by omega) (by omega) (by omega) (by omega), kr b (by omega) (by omega)]
        · rw [z67 38 (by omega) (by omega), s4 38 (by omega)]
        · have z9 : jup (jup X' 167 16 (X' 167 18)) 167 2 9 9 = jup M' 9 1 0 9 := by rw [zc 9 (by omega) (by omega) (by omega) (by omega), jup_cell (by omega)]
          rw [z9, zc 11 (by omega) (by omega) (by omega) (by omega), kr 11 (by omega) (by omega)]
          refine ⟨⟨?_, ?_, ?_⟩, fun k _ hk => ?_, ?_, ?_, t7⟩
          · rw [jup_if, if_pos rfl, z67 10 (by omega) (by omega), s5]
          · rw [jup_if, if_pos rfl]; omega
          · rw [jup_if, if_pos rfl]; omega
          · rw [jup_if, if_pos rfl] at hk; omega
          · rw [jup_if, if_neg (by omega), f1, jup_if, if_neg (by omega), jup_if, if_pos rfl]
          · rw [jup_if, if_neg (by omega), f4, z67 17 (by omega) (by omega)]
        · rw [zc 86 (by omega) (by omega) (by omega) (by omega), zc 87 (by omega) (by omega) (by omega) (by omega), zc 185 (by omega) (by omega) (by omega) (by omega), z67 37 (by omega) (by omega), s4 37 (by omega), kr 86 (by omega) (by omega), kr 87 (by omega) (by omega), kr 185 (by omega) (by omega)]
          exact h.2.2.2.1
        · have e : ∀ c : Nat, 40 ≤ c → c < 65 → jup (jup X' 167 16 (X' 167 18)) 167 2 9 c = M c := fun c c1 c2 => by rw [zc c (by omega) (by omega) (by omega) (by omega), kr c (by omega) (by omega)]
          exact h.2.2.2.2.1.gen ⟨fun q _ => by rw [e 40 (by omega) (by omega)], fun j q _ _ _ => by rw [e _ (by omega) (by omega)], fun j q _ _ _ => by rw [e _ (by omega) (by omega)]⟩ ⟨fun q _ => by rw [e 52 (by omega) (by omega)], fun j q _ _ _ => by rw [e _ (by omega) (by omega)]⟩ ⟨fun q _ => by rw [e 60 (by omega) (by omega)], fun j q _ _ _ => by rw [e _ (by omega) (by omega)]⟩ (fun q hq => z68 _ (by omega)) (fun q hq => z69 _ (by omega))
  · refine Pr.end (r := -1) (s := -1) (x := 1) (y := 1) h ?_ ?_ rfl rfl
    · unfold f_X11_park f_X11_park_L15
      by_cases c2 : jw x1 < 0
      · rw [if_pos c2]; rfl
      · rw [if_neg c2, if_neg (by omega)]; rfl
    · unfold f_X12_park
      have eb : f_X12_begins n x1 900 (jup M 0 0 1) = some (0, jup M 0 0 1) := by
        unfold f_X12_begins
        rw [show jup M 0 0 1 167 10 = M 9 1 from t1.symm]
        by_cases c2 : jw x1 < 0
        · rw [if_pos c2]
        · rw [if_neg c2, if_pos (by omega)]
      rw [eb, bnd_some, if_pos (by decide)]; rfl
end PPARK3

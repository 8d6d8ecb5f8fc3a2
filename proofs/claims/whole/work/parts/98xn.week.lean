section PWEEK
variable {n : Nat} {M X M0 X0 : JMem} {T : Nat → Int} {N s s0 k r : Nat} {w : List Nat} {v : Int} {a : Nat → Int} {S : Int → Prop}
/-! a STEP of WEEKS that is being read -/
def FMw (M0 M : JMem) : Prop := (∀ c : Nat, c ≠ 9 → c < 33 ∨ 40 ≤ c → M c = M0 c) ∧ Fr9 (M0 9) (M 9)
def FXw (X0 X : JMem) : Prop := (∀ c : Nat, c ≠ 167 → c ≠ 168 → c ≠ 175 → X c = X0 c) ∧ (∀ j : Nat, j < 11 ∨ (19 ≤ j ∧ j ≠ 22 ∧ j ≠ 23) → X 167 j = X0 167 j) ∧ ∀ i : Nat, i < 2016 → X 168 i = X0 168 i
theorem FMw.row {F : Nat → Int} (h : FMw M0 M) (h2 : Fr9 (M 9) F) : FMw M0 (jrow M 9 F) := ⟨fun c c1 c2 => by rw [jrow_ne _ c1]; exact h.1 c c1 c2, by rw [jrow_same]; exact h.2.trans h2⟩
theorem FXw.row {F : Nat → Int} (h : FXw X0 X) (h2 : FrX (X 167) F) : FXw X0 (jrow X 167 F) := ⟨fun c c1 c2 c3 => by rw [jrow_ne _ c1]; exact h.1 c c1 c2 c3, fun j hj => by rw [jrow_same, h2 j (by omega)]; exact h.2.1 j hj, fun i hi => by rw [jrow_ne _ (by omega)]; exact h.2.2 i hi⟩
theorem FMw.mv {M' : JMem} (h : FMw M0 M) (h1 : ∀ c : Nat, c < 33 ∨ 40 ≤ c → M' c = M c) : FMw M0 M' := ⟨fun c c1 c2 => by rw [h1 c c2]; exact h.1 c c1 c2, by rw [h1 9 (by omega)]; exact h.2⟩
theorem FXw.up {q : Nat} {x : Int} (h : FXw X0 X) (hq : 2016 ≤ q) : FXw X0 (jup X 168 q x) := ⟨fun c c1 c2 c3 => by rw [jup_cell c2]; exact h.1 c c1 c2 c3, fun j hj => by rw [jup_cell (by omega)]; exact h.2.1 j hj, fun i hi => by rw [jup_if, if_neg (by omega)]; exact h.2.2 i hi⟩
def WT (T : Nat → Int) (N : Nat) (M0 X0 M X : JMem) (s k : Nat) (w : List Nat) (v : Int) (a : Nat → Int) : Prop := TXT T N M X ∧ TL T N (M 9) (X 167) s k w v ∧ FMw M0 M ∧ FXw X0 X ∧ am a ∧ RKn (blk M 40 12) (fun j => X 169 (0 + j)) a ∧ ∀ u : Nat, u < 3 → X 168 u = a u
def FJw (M0 X0 M X : JMem) : Prop := FLT (M 9) (X 167) ∧ FMw M0 M ∧ FXw X0 X ∧ 0 ≤ M 34 2 ∧ M 34 2 ≤ 60
def JTw (M0 M : JMem) : Prop := JK (M 9) ∧ FMw M0 M ∧ 0 ≤ M 34 2 ∧ M 34 2 ≤ 60
theorem FJw.jt (h : FJw M0 X0 M X) : JTw M0 M := ⟨h.1.jk, h.2.1, h.2.2.2⟩
theorem FJw.of (h : FJw M0 X0 M X) {M' : JMem} (h9 : M' 9 = M 9) (hj : JTw M0 M') : FJw M0 X0 M' X := ⟨by rw [h9]; exact h.1, hj.2.1, h.2.2.1, hj.2.2⟩
theorem WT.row {F G : Nat → Int} {s' k' : Nat} {w' : List Nat} {v' : Int} (h : WT T N M0 X0 M X s k w v a) (h1 : TL T N F G s' k' w' v') (h2 : Fr9 (M 9) F) (h3 : FrX (X 167) G) : WT T N M0 X0 (jrow M 9 F) (jrow X 167 G) s' k' w' v' a :=
  ⟨h.1.mv (jrow_ne _ (by omega)) (jrow_ne _ (by omega)) (jrow_ne _ (by omega)), by rw [jrow_same, jrow_same]; exact h1, h.2.2.1.row h2, h.2.2.2.1.row h3, h.2.2.2.2.1, by rw [blk_congr (by decide) (M := M) (a := 40) (z := 12) (fun j hj => jrow_ne _ (by omega)), jrow_ne _ (by omega)]; exact h.2.2.2.2.2.1, fun u hu => by rw [jrow_ne _ (by omega)]; exact h.2.2.2.2.2.2 u hu⟩
theorem WT.fl {F G : Nat → Int} (h : WT T N M0 X0 M X s k w v a) (hr : 0 ≤ M 34 2 ∧ M 34 2 ≤ 60) (h1 : FLT F G) (h2 : Fr9 (M 9) F) (h3 : FrX (X 167) G) : FJw M0 X0 (jrow M 9 F) (jrow X 167 G) := ⟨by rw [jrow_same, jrow_same]; exact h1, h.2.2.1.row h2, h.2.2.2.1.row h3, by rw [jrow_ne _ (by omega)]; exact hr.1, by rw [jrow_ne _ (by omega)]; exact hr.2⟩
theorem WT.up {q : Nat} {x : Int} (h : WT T N M0 X0 M X s k w v a) (hq : 2016 ≤ q) : WT T N M0 X0 M (jup X 168 q x) s k w v a :=
  ⟨h.1.mv rfl rfl (jup_cell (by omega)), by rw [jup_cell (by omega)]; exact h.2.1, h.2.2.1, h.2.2.2.1.up hq, h.2.2.2.2.1, by rw [jup_cell (by omega)]; exact h.2.2.2.2.2.1, fun u hu => by rw [jup_if, if_neg (by omega)]; exact h.2.2.2.2.2.2 u hu⟩
/-- a row, by its numbers -/
def rowrel (nb nt np w1 x y c0 c1 c2 c5 : Int) : Prop :=
  (w1 = 14 ∧ c0 = 14 ∧ x = c1 ∧ 1 ≤ x ∧ x ≤ 64) ∨ (w1 = 15 ∧ c0 = 15) ∨ (w1 = 16 ∧ c0 = 16 ∧ x = c1 ∧ y = c2 ∧ 0 ≤ x ∧ x < nb ∧ 0 ≤ y ∧ y < nt) ∨ (w1 = 17 ∧ c0 = 17 ∧ x = c1 ∧ 0 ≤ x ∧ x < nb) ∨ (w1 = 18 ∧ c0 = 18 ∧ x = c1 ∧ 0 ≤ x ∧ x < nt) ∨ (w1 = 19 ∧ c0 = 19) ∨ (w1 = 26 ∧ c0 = 23) ∨
  (w1 = 21 ∧ c0 = 2024 ∧ x = c1 ∧ y = c2 ∧ 0 ≤ x ∧ x < nb ∧ 0 ≤ y ∧ y < np) ∨ (w1 = 22 ∧ c0 = 2025 ∧ x = c1 ∧ 0 ≤ x ∧ x < nb) ∨ (w1 = 23 ∧ c0 = 2026 ∧ x = c5 ∧ y = c2 ∧ 60 ≤ x ∧ x ≤ 62 ∧ 0 ≤ y ∧ y ≤ 64) ∨ (w1 = 24 ∧ c0 = 21 ∧ x = c1 ∧ 1 ≤ x ∧ x ≤ 99)
/-- what a step's row comes to: the class is about to add it, the reference has it; or both have told a fault -/
def RO (S : Int → Prop) (n : Nat) (T : Nat → Int) (N : Nat) (M0 X0 M X : JMem) (s0 r : Nat) (a : Nat → Int) (f g : Option (Int × JMem)) : Prop :=
  (∃ (F' : Nat → Int) (w1 x y : Int) (X1 : JMem) (s' k' : Nat) (w' : List Nat) (v' : Int), f = (bnd (f_X9_add n 34 w1 x y (jrow M 9 F')) fun _ M2 => some (0, M2)) ∧ g = some (1, X1) ∧ WT T N M0 X0 (jrow M 9 F') X1 s' k' w' v' a ∧ s0 < s' ∧ (S w1 ∧ rowrel (a 2) (a 1) (a 0) w1 x y (X1 168 (2152 + 6 * r)) (X1 168 (2153 + 6 * r)) (X1 168 (2154 + 6 * r)) (X1 168 (2157 + 6 * r))) ∧ (∀ i : Nat, i < 2152 + 6 * r ∨ 2158 + 6 * r ≤ i ∨ i = 2156 + 6 * r → X1 168 i = X 168 i) ∧ X1 175 = X 175 ∧ X1 167 22 = X 167 22 ∧ X1 167 23 = X 167 23) ∨
  (∃ M' X' : JMem, f = some (0, M') ∧ g = some (0, X') ∧ FJw M0 X0 M' X')
theorem j_add {w1 x y : Int} (h : JTw M0 M) : ∃ M', (bnd (f_X9_add n 34 w1 x y M) fun _ M2 => some ((0 : Int), M2)) = some (0, M') ∧ M' 9 = M 9 ∧ JTw M0 M' := by
  obtain ⟨h1, h2, h3, h4⟩ := h
  obtain ⟨q, q61, eq⟩ := natOf (x := M 34 2) (k := 61) h3 (by omega)
  unfold f_X9_add
  by_cases c : q = 60
  · rw [eq, if_pos (by rw [jwN (by omega), show jw 60 = 60 by decide]; omega), bnd_some]
    exact ⟨M, rfl, rfl, h1, h2, h3, h4⟩
  · have jq : jin (q : Int) 60 := jinN (by omega) (by omega)
    rw [eq, if_neg (by rw [jwN (by omega), show jw 60 = 60 by decide]; omega), chk_pos jq, jwT (by omega), letm_ap, show jup M (34 + 1) q w1 34 2 = (q : Int) by rw [jup_cell (by omega)]; exact eq, chk_pos jq, jwT (by omega), letm_ap, show jup (jup M (34 + 1) q w1) (34 + 2) q x 34 2 = (q : Int) by rw [jup_cell (by omega), jup_cell (by omega)]; exact eq, chk_pos jq, jwT (by omega), letm_ap, show jup (jup (jup M (34 + 1) q w1) (34 + 2) q x) (34 + 3) q y 34 2 = (q : Int) by rw [jup_cell (by omega), jup_cell (by omega), jup_cell (by omega)]; exact eq, chk_pos jq, jwT (by omega), letm_ap, show jup (jup (jup (jup M (34 + 1) q w1) (34 + 2) q x) (34 + 3) q y) (34 + 4) q (q : Int) 34 2 = (q : Int) by rw [jup_cell (by omega), jup_cell (by omega), jup_cell (by omega), jup_cell (by omega)]; exact eq, letm_ap, bnd_some]
    have ec : ∀ c : Nat, c < 34 ∨ 39 ≤ c → jup (jup (jup (jup (jup M (34 + 1) q w1) (34 + 2) q x) (34 + 3) q y) (34 + 4) q (q : Int)) 34 2 ((q : Int) + 1) c = M c := fun c hc => by
      rw [jup_cell (by omega), jup_cell (by omega), jup_cell (by omega), jup_cell (by omega), jup_cell (by omega)]
    exact ⟨_, rfl, ec 9 (by omega), ⟨by rw [ec 9 (by omega)]; exact h1, h2.mv (fun c hc => ec c (by omega)), by rw [jup_if, if_pos rfl]; omega, by rw [jup_if, if_pos rfl]; omega⟩⟩
theorem ro_no {f g : Option (Int × JMem)} {M1 X' : JMem} (hf : FJw M0 X0 M1 X') (h : ∃ M', f = some (0, M') ∧ M' 9 = M1 9 ∧ JTw M0 M') (hg : g = some (0, X')) : RO S n T N M0 X0 M X s0 r a f g := by
  obtain ⟨M', r1, r2, r3⟩ := h
  exact Or.inr ⟨M', X', r1, hg, hf.of r2 r3⟩
/-- a number behind the word -/
theorem ro_number (hn : 2000 ≤ n) (h : WT T N M0 X0 M X s k w v a) (hs : s0 < s) (hr : r < 60) (h34 : 0 ≤ M 34 2 ∧ M 34 2 ≤ 60) {w1 hi : Int} (hS : S w1) (hw : (w1 = 14 ∧ hi = 64 ∧ X 168 (2152 + 6 * r) = 14) ∨ (w1 = 24 ∧ hi = 99 ∧ X 168 (2152 + 6 * r) = 21)) : RO S n T N M0 X0 M X s0 r a (bnd (f_X6_passNumber n 1 hi M) fun r10 M11 => bnd (f_X9_add n 34 w1 r10 0 M11) fun _ M13 => some (0, M13)) (bnd (f_X12_number n (((2152 + 6 * r : Nat) : Int) + 1) 1 hi X) fun r2 M3 => chk (jw r2 = 0 ∨ jw r2 = 1) (some (r2, M3))) := by
  rw [show ((2152 + 6 * r : Nat) : Int) + 1 = ((2153 + 6 * r : Nat) : Int) by omega]
  rcases s_number (n := n) (to := 2153 + 6 * r) (lo := 1) (hi := hi) hn h.1 h.2.1 (by omega) (by omega) (by omega) with ⟨x, x1, x2, F', G', s', k', w', v', c1, c2, c3, c4, c5, c6⟩ | ⟨F', G', c1, c2, c3, c4, c5⟩
  · rw [c1, bnd_some, c2, bnd_some, chk_pos (by decide)]
    have h1 := (h.up (q := 2153 + 6 * r) (x := x) (by omega)).row c3 c5 (by rw [jup_cell (by omega)]; exact c6)
    refine Or.inl ⟨F', w1, x, 0, _, s', k', w', v', rfl, rfl, h1, by omega, ?_, fun i hi => ?_, ?_, ?_, ?_⟩
    · refine ⟨hS, ?_⟩
      rw [jrow_ne _ (by omega), jup_if, if_neg (by omega), jup_if, if_pos rfl, jup_if, if_neg (by omega), jup_if, if_neg (by omega)]
      unfold rowrel
      rcases hw with ⟨e1, e2, e3⟩ | ⟨e1, e2, e3⟩
      · exact Or.inl ⟨e1, e3, rfl, x1, by omega⟩
      · exact Or.inr (Or.inr (Or.inr (Or.inr (Or.inr (Or.inr (Or.inr (Or.inr (Or.inr (Or.inr ⟨e1, e3, rfl, x1, by omega⟩)))))))))
    · rw [jrow_ne _ (by omega), jup_if, if_neg (by omega)]
    · rw [jrow_ne _ (by omega), jup_cell (by omega)]
    · rw [jrow_same, c6 22 (by omega)]
    · rw [jrow_same, c6 23 (by omega)]
  · have hf := h.fl h34 c3 c4 c5
    rw [c1, bnd_some, c2, bnd_some, chk_pos (by decide)]
    exact ro_no hf (j_add hf.jt) rfl
/-- a name of one kind comes to a place of the row -/
theorem w_old {o to : Nat} (hn : 2000 ≤ n) (h : WT T N M0 X0 M X s k w v a) (ho : o < 3) (hto : 2016 ≤ to) (hto2 : to < 3160) :
    (∃ (j : Nat) (F' G' : Nat → Int) (s' k' : Nat) (w' : List Nat) (v' : Int), (j : Int) < a o ∧ f_X4_numberAt n 40 (ki o) M = some ((j : Int), M) ∧ f_X6_advance n M = some (0, jrow M 9 F') ∧ (bnd (f_X12_oldOne n ((0 + bi o : Nat) : Int) (a o) (to : Int) X) fun r1 M2 => chk (jw r1 = 0 ∨ jw r1 = 1) (some (r1, M2))) = some (1, jrow (jup X 168 to j) 167 G') ∧ WT T N M0 X0 (jrow M 9 F') (jrow (jup X 168 to j) 167 G') s' k' w' v' a ∧ s < s' ∧ FrX (X 167) G') ∨
    (∃ (F' : Nat → Int) (X' : JMem), f_X4_numberAt n 40 (ki o) M = some (-1, jrow M 9 F') ∧ (bnd (f_X12_oldOne n ((0 + bi o : Nat) : Int) (a o) (to : Int) X) fun r1 M2 => chk (jw r1 = 0 ∨ jw r1 = 1) (some (r1, M2))) = some (0, X') ∧ ((0 ≤ M 34 2 ∧ M 34 2 ≤ 60) → FJw M0 X0 (jrow M 9 F') X')) := by
  rcases s_old2 (n := n) (th := 40) (off := 0) (to := to) hn h.1 h.2.1 ho h.2.2.2.2.2.1 h.2.2.2.2.1 (by omega) hto2 with ⟨j, d0, d1, -, -, jA⟩ | ⟨F2, G2, x, d1, d2, d3, d4, d5, -⟩
  · obtain ⟨F3, G3, s3, k3, w3, v3, g1, g2, g3, g4, g5, g6⟩ := jA M rfl rfl rfl
    refine Or.inl ⟨j, F3, G3, s3, k3, w3, v3, d0, d1, g1, ?_, (h.up (q := to) (x := (j : Int)) hto).row g3 g5 (by rw [jup_cell (by omega)]; exact g6), g4, g6⟩
    rw [g2, bnd_some, chk_pos (by decide)]
  · refine Or.inr ⟨F2, _, d1, by rw [d2, bnd_some, chk_pos (by decide)], fun h34 => (h.up (q := to) (x := x) hto).fl h34 d3 d4 (by rw [jup_cell (by omega)]; exact d5)⟩
theorem w_beastTo {x : Int} (h : WT T N M0 X0 M X s k w v a) : f_X12_beastTo n x X = bnd (f_X12_oldOne n ((0 + bi 2 : Nat) : Int) (a 2) x X) fun r1 M2 => chk (jw r1 = 0 ∨ jw r1 = 1) (some (r1, M2)) := by
  unfold f_X12_beastTo
  rw [chk_pos (by decide), jn2, h.2.2.2.2.2.2 2 (by omega)]
  rfl
theorem w_trainTo {x : Int} (h : WT T N M0 X0 M X s k w v a) : f_X12_trainTo n x X = bnd (f_X12_oldOne n ((0 + bi 1 : Nat) : Int) (a 1) x X) fun r1 M2 => chk (jw r1 = 0 ∨ jw r1 = 1) (some (r1, M2)) := by
  unfold f_X12_trainTo
  rw [chk_pos (by decide), jn1, h.2.2.2.2.2.2 1 (by omega)]
  rfl
/-- one name -/
theorem ro_name1 {o : Nat} (hn : 2000 ≤ n) (h : WT T N M0 X0 M X s k w v a) (hs : s0 < s) (hr : r < 60) (h34 : 0 ≤ M 34 2 ∧ M 34 2 ≤ 60) {w1 : Int} (hS : S w1) (hw : (w1 = 17 ∧ o = 2 ∧ X 168 (2152 + 6 * r) = 17) ∨ (w1 = 18 ∧ o = 1 ∧ X 168 (2152 + 6 * r) = 18) ∨ (w1 = 22 ∧ o = 2 ∧ X 168 (2152 + 6 * r) = 2025)) : RO S n T N M0 X0 M X s0 r a (bnd (f_X10_takeNames n 40 w1 (ki o) (-1) M) fun _ M15 => some (0, M15)) (bnd (bnd (f_X12_oldOne n ((0 + bi o : Nat) : Int) (a o) (((2152 + 6 * r : Nat) : Int) + 1) X) fun r1 M2 => chk (jw r1 = 0 ∨ jw r1 = 1) (some (r1, M2))) fun r8 M9 => chk (jw r8 = 0 ∨ jw r8 = 1) (some (r8, M9))) := by
  rw [show ((2152 + 6 * r : Nat) : Int) + 1 = ((2153 + 6 * r : Nat) : Int) by omega]
  have ho : o < 3 := by omega
  unfold f_X10_takeNames f_X10_takeNames_L46
  rcases w_old (n := n) (o := o) (to := 2153 + 6 * r) hn h ho (by omega) (by omega) with ⟨j, F', G', s', k', w', v', d0, d1, d2, d3, d4, d5, d6⟩ | ⟨F', X', d1, d2, d3⟩
  · rw [d1, bnd_some, letv_ap, d2, bnd_some, letv_ap, if_pos rfl, d3, bnd_some, chk_pos (by decide)]
    refine Or.inl ⟨F', w1, (j : Int), -1, _, s', k', w', v', by rw [bnd_bnd]; rfl, rfl, d4, by omega, ?_, fun i hi => ?_, ?_, ?_, ?_⟩
    · refine ⟨hS, ?_⟩
      rw [jrow_ne _ (by omega), jup_if, if_neg (by omega), jup_if, if_pos rfl, jup_if, if_neg (by omega), jup_if, if_neg (by omega)]
      unfold rowrel
      rcases hw with ⟨e1, rfl, e3⟩ | ⟨e1, rfl, e3⟩ | ⟨e1, rfl, e3⟩
      · exact Or.inr (Or.inr (Or.inr (Or.inl ⟨e1, e3, rfl, by omega, d0⟩)))
      · exact Or.inr (Or.inr (Or.inr (Or.inr (Or.inl ⟨e1, e3, rfl, by omega, d0⟩))))
      · exact Or.inr (Or.inr (Or.inr (Or.inr (Or.inr (Or.inr (Or.inr (Or.inr (Or.inl ⟨e1, e3, rfl, by omega, d0⟩))))))))
    · rw [jrow_ne _ (by omega), jup_if, if_neg (by omega)]
    · rw [jrow_ne _ (by omega), jup_cell (by omega)]
    · rw [jrow_same, d6 22 (by omega)]
    · rw [jrow_same, d6 23 (by omega)]
  · have hf := d3 h34
    rw [d1, bnd_some, letv_ap, j_adv hf.1.jk, bnd_some, letv_ap, if_pos rfl, d2, bnd_some, chk_pos (by decide)]
    refine ro_no hf ?_ rfl
    obtain ⟨M', r1, r2, r3⟩ := j_add (n := n) (w1 := w1) (x := -1) (y := -1) hf.jt
    exact ⟨M', by rw [r1, bnd_some], r2, r3⟩
/-- two names -/
theorem ro_name2 {o : Nat} (hn : 2000 ≤ n) (h : WT T N M0 X0 M X s k w v a) (hs : s0 < s) (hr : r < 60) (h34 : 0 ≤ M 34 2 ∧ M 34 2 ≤ 60) {w1 : Int} (hS : S w1) (hw : (w1 = 16 ∧ o = 1 ∧ X 168 (2152 + 6 * r) = 16) ∨ (w1 = 21 ∧ o = 0 ∧ X 168 (2152 + 6 * r) = 2024)) {g2 : JMem → Option (Int × JMem)} (hg : ∀ (X1 X' : JMem) (b : Int), (∀ u : Nat, u < 3 → X1 168 u = a u) → (bnd (f_X12_oldOne n ((0 + bi o : Nat) : Int) (a o) (((2152 + 6 * r : Nat) : Int) + 2) X1) fun r1 M2 => chk (jw r1 = 0 ∨ jw r1 = 1) (some (r1, M2))) = some (b, X') → (b = 0 ∨ b = 1) → g2 X1 = some (b, X')) :
    RO S n T N M0 X0 M X s0 r a (bnd (f_X10_takeNames n 40 w1 8 (ki o) M) fun _ M15 => some (0, M15)) (bnd (f_X12_beastTo n (((2152 + 6 * r : Nat) : Int) + 1) X) fun r1 M2 => if jw r1 = 0 then some (0, M2) else g2 M2) := by
  have ho : o < 3 := by omega
  have e1' : ((2152 + 6 * r : Nat) : Int) + 1 = ((2153 + 6 * r : Nat) : Int) := by omega
  have e2' : ((2152 + 6 * r : Nat) : Int) + 2 = ((2154 + 6 * r : Nat) : Int) := by omega
  have hkm : ¬ jw (ki o) = jw (-1) := by
    have : ∀ o : Nat, o < 3 → ¬ jw (ki o) = jw (-1) := by decide
    exact this o ho
  rw [w_beastTo h, e1']
  unfold f_X10_takeNames f_X10_takeNames_L46
  rcases w_old (n := n) (o := 2) (to := 2153 + 6 * r) hn h (by omega) (by omega) (by omega) with ⟨j, F', G', s', k', w', v', d0, d1, d2, d3, d4, d5, d6⟩ | ⟨F', X', d1, d2, d3⟩
  · have h34' : 0 ≤ jrow M 9 F' 34 2 ∧ jrow M 9 F' 34 2 ≤ 60 := by rw [jrow_ne _ (by omega)]; exact h34
    rw [show f_X4_numberAt n 40 8 M = _ from d1, bnd_some, letv_ap, d2, bnd_some, letv_ap, if_neg hkm, d3, bnd_some, if_neg (by decide)]
    rw [e2'] at hg
    rcases w_old (n := n) (o := o) (to := 2154 + 6 * r) hn d4 ho (by omega) (by omega) with ⟨u, F2, G2, s2, k2, w2, v2, f0, f1, f2, f3, f4, f5, f6⟩ | ⟨F2, X2, f1, f2, f3⟩
    · rw [f1, bnd_some, letv_ap, f2, bnd_some, hg _ _ 1 d4.2.2.2.2.2.2 f3 (Or.inr rfl)]
      refine Or.inl ⟨F2, w1, (j : Int), (u : Int), _, s2, k2, w2, v2, by rw [bnd_bnd, jrow_jrow]; rfl, rfl, by rw [← jrow_jrow (M := M) 9 F' F2]; exact f4, by omega, ?_, fun i hi => ?_, ?_, ?_, ?_⟩
      · refine ⟨hS, ?_⟩
        rw [jrow_ne _ (by omega), jup_if, if_neg (by omega), jrow_ne _ (by omega), jup_if, if_neg (by omega), jup_if, if_neg (by omega), jrow_ne _ (by omega), jup_if, if_pos rfl, jup_if, if_pos rfl, jup_if, if_neg (by omega), jrow_ne _ (by omega), jup_if, if_neg (by omega)]
        unfold rowrel
        rcases hw with ⟨e1, rfl, e3⟩ | ⟨e1, rfl, e3⟩
        · exact Or.inr (Or.inr (Or.inl ⟨e1, e3, rfl, rfl, by omega, d0, by omega, f0⟩))
        · exact Or.inr (Or.inr (Or.inr (Or.inr (Or.inr (Or.inr (Or.inr (Or.inl ⟨e1, e3, rfl, rfl, by omega, d0, by omega, f0⟩)))))))
      · rw [jrow_ne _ (by omega), jup_if, if_neg (by omega), jrow_ne _ (by omega), jup_if, if_neg (by omega)]
      · rw [jrow_ne _ (by omega), jup_cell (by omega), jrow_ne _ (by omega), jup_cell (by omega)]
      · rw [jrow_same, f6 22 (by omega), jrow_same, d6 22 (by omega)]
      · rw [jrow_same, f6 23 (by omega), jrow_same, d6 23 (by omega)]
    · have hf := f3 h34'
      rw [f1, bnd_some, letv_ap, j_adv hf.1.jk, bnd_some, hg _ _ 0 d4.2.2.2.2.2.2 f2 (Or.inl rfl)]
      refine ro_no hf ?_ rfl
      obtain ⟨M', r1, r2, r3⟩ := j_add (n := n) (w1 := w1) (x := (j : Int)) (y := -1) hf.jt
      exact ⟨M', by rw [r1, bnd_some], r2, r3⟩
  · have hf := d3 h34
    rw [show f_X4_numberAt n 40 8 M = _ from d1, bnd_some, letv_ap, j_adv hf.1.jk, bnd_some, letv_ap, if_neg hkm, j_numberAt hf.1.jk, bnd_some, letv_ap, j_adv hf.1.jk, bnd_some, d2, bnd_some, if_pos (by decide)]
    refine ro_no hf ?_ rfl
    obtain ⟨M', r1, r2, r3⟩ := j_add (n := n) (w1 := w1) (x := -1) (y := -1) hf.jt
    exact ⟨M', by rw [r1, bnd_some], r2, r3⟩
end PWEEK

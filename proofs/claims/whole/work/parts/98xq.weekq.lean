section PWEEKQ
variable {n : Nat} {M X M0 X0 : JMem} {T : Nat → Int} {N s s0 k r dp st : Nat} {w : List Nat} {v : Int} {a : Nat → Int}
/-! WEEKS, as far as they are read -/
def Wrow (nb nt np : Int) (M X : JMem) (k : Nat) : Prop := rowrel nb nt np (M 35 k) (M 36 k) (M 37 k) (X 168 (2152 + 6 * k)) (X 168 (2153 + 6 * k)) (X 168 (2154 + 6 * k)) (X 168 (2157 + 6 * k)) ∨ (M 35 k = 25 ∧ X 168 (2152 + 6 * k) = 22)
def WQ (nb nt np : Int) (M X : JMem) (r dp st : Nat) : Prop :=
  (M 34 0 = 1 ∧ M 34 2 = r ∧ X 168 2023 = r ∧ M 34 1 = st ∧ X 167 23 = st ∧ M 33 3 = dp ∧ X 167 22 = dp) ∧ (dp ≤ 3 ∧ st ≤ 30 ∧ r + dp ≤ 2 * st) ∧ (∀ k : Nat, k < r → Wrow nb nt np M X k) ∧ (∀ i : Nat, i < dp → X 175 i = M 39 i) ∧ SQ (M 35) (M 38) (M 39) (fun k => X 168 (2156 + 6 * k)) r dp
theorem WQ.mv {nb nt np : Int} {M' X' : JMem} (h : WQ nb nt np M X r dp st) (h1 : ∀ c : Nat, 33 ≤ c → c < 40 → M' c = M c) (h2 : X' 168 = X 168) (h3 : X' 175 = X 175) (h4 : X' 167 22 = X 167 22) (h5 : X' 167 23 = X 167 23) : WQ nb nt np M' X' r dp st := by
  unfold WQ Wrow at h ⊢
  rw [h1 33 (by omega) (by omega), h1 34 (by omega) (by omega), h1 35 (by omega) (by omega), h1 36 (by omega) (by omega), h1 37 (by omega) (by omega), h1 38 (by omega) (by omega), h1 39 (by omega) (by omega), h2, h3, h4, h5]
  exact h
theorem WT.go {M' X' : JMem} {s' k' : Nat} {w' : List Nat} {v' : Int} (h : WT T N M0 X0 M X s k w v a) (h1 : ∀ c : Nat, c ≠ 9 → c < 33 ∨ 40 ≤ c → M' c = M c) (h2 : Fr9 (M 9) (M' 9)) (h3 : ∀ c : Nat, c ≠ 167 → c ≠ 168 → c ≠ 175 → X' c = X c) (h4 : ∀ j : Nat, j < 11 ∨ (19 ≤ j ∧ j ≠ 22 ∧ j ≠ 23) → X' 167 j = X 167 j) (h5 : ∀ i : Nat, i < 2016 → X' 168 i = X 168 i) (h6 : TL T N (M' 9) (X' 167) s' k' w' v') : WT T N M0 X0 M' X' s' k' w' v' a := by
  obtain ⟨g1, g2, g3, g4, g5, g6, g7⟩ := h
  refine ⟨g1.mv (h1 10 (by omega) (by omega)) (h1 11 (by omega) (by omega)) (h3 174 (by omega) (by omega) (by omega)), h6, ⟨fun c c1 c2 => by rw [h1 c c1 c2]; exact g3.1 c c1 c2, g3.2.trans h2⟩, ⟨fun c c1 c2 c3 => by rw [h3 c c1 c2 c3]; exact g4.1 c c1 c2 c3, fun j hj => by rw [h4 j hj]; exact g4.2.1 j hj, fun i hi => by rw [h5 i hi]; exact g4.2.2 i hi⟩, g5, ?_, fun u hu => by rw [h5 u (by omega)]; exact g7 u hu⟩
  rw [blk_congr (by decide) (M := M) (a := 40) (z := 12) (fun j hj => h1 _ (by omega) (by omega)), h3 169 (by omega) (by omega) (by omega)]
  exact g6
theorem WT.fj {M' X' : JMem} (h : WT T N M0 X0 M X s k w v a) (h1 : ∀ c : Nat, c ≠ 9 → c < 33 ∨ 40 ≤ c → M' c = M c) (h2 : Fr9 (M 9) (M' 9)) (h3 : ∀ c : Nat, c ≠ 167 → c ≠ 168 → c ≠ 175 → X' c = X c) (h4 : ∀ j : Nat, j < 11 ∨ (19 ≤ j ∧ j ≠ 22 ∧ j ≠ 23) → X' 167 j = X 167 j) (h5 : ∀ i : Nat, i < 2016 → X' 168 i = X 168 i) (h6 : FLT (M' 9) (X' 167)) (h7 : 0 ≤ M' 34 2 ∧ M' 34 2 ≤ 60) : FJw M0 X0 M' X' := by
  obtain ⟨g1, g2, g3, g4, g5, g6, g7⟩ := h
  exact ⟨h6, ⟨fun c c1 c2 => by rw [h1 c c1 c2]; exact g3.1 c c1 c2, g3.2.trans h2⟩, ⟨fun c c1 c2 c3 => by rw [h3 c c1 c2 c3]; exact g4.1 c c1 c2 c3, fun j hj => by rw [h4 j hj]; exact g4.2.1 j hj, fun i hi => by rw [h5 i hi]; exact g4.2.2 i hi⟩, h7⟩
theorem c_addRow {w1 x y : Int} (h : M 34 2 = (r : Int)) (hr : r < 60) : ∃ M', f_X9_add n 34 w1 x y M = some (0, M') ∧ (∀ c : Nat, c < 34 ∨ 39 ≤ c → M' c = M c) ∧ (∀ j : Nat, M' 34 j = if j = 2 then ((r + 1 : Nat) : Int) else M 34 j) ∧ (∀ k : Nat, M' 35 k = if k = r then w1 else M 35 k) ∧ (∀ k : Nat, M' 36 k = if k = r then x else M 36 k) ∧ (∀ k : Nat, M' 37 k = if k = r then y else M 37 k) ∧ ∀ k : Nat, M' 38 k = if k = r then (r : Int) else M 38 k := by
  have jq : jin (r : Int) 60 := jinN (by omega) (by omega)
  refine ⟨jup (jup (jup (jup (jup M (34 + 1) r w1) (34 + 2) r x) (34 + 3) r y) (34 + 4) r (r : Int)) 34 2 ((r : Int) + 1), ?_, fun c hc => ?_, fun j => ?_, fun k => ?_, fun k => ?_, fun k => ?_, fun k => ?_⟩
  · unfold f_X9_add
    rw [h, if_neg (by rw [jwN (by omega), show jw 60 = 60 by decide]; omega), chk_pos jq, jwT (by omega), letm_ap, show jup M (34 + 1) r w1 34 2 = (r : Int) by rw [jup_cell (by omega)]; exact h, chk_pos jq, jwT (by omega), letm_ap, show jup (jup M (34 + 1) r w1) (34 + 2) r x 34 2 = (r : Int) by rw [jup_cell (by omega), jup_cell (by omega)]; exact h, chk_pos jq, jwT (by omega), letm_ap, show jup (jup (jup M (34 + 1) r w1) (34 + 2) r x) (34 + 3) r y 34 2 = (r : Int) by rw [jup_cell (by omega), jup_cell (by omega), jup_cell (by omega)]; exact h, chk_pos jq, jwT (by omega), letm_ap, show jup (jup (jup (jup M (34 + 1) r w1) (34 + 2) r x) (34 + 3) r y) (34 + 4) r (r : Int) 34 2 = (r : Int) by rw [jup_cell (by omega), jup_cell (by omega), jup_cell (by omega), jup_cell (by omega)]; exact h, letm_ap]
  · rw [jup_cell (by omega), jup_cell (by omega), jup_cell (by omega), jup_cell (by omega), jup_cell (by omega)]
  · rw [jup_if, jup_cell (by omega), jup_cell (by omega), jup_cell (by omega), jup_cell (by omega)]
    by_cases e : j = 2
    · rw [if_pos e, if_pos e]; omega
    · rw [if_neg e, if_neg e]
  · rw [jup_cell (by omega), jup_cell (by omega), jup_cell (by omega), jup_cell (by omega), jup_if]
  · rw [jup_cell (by omega), jup_cell (by omega), jup_cell (by omega), jup_if, jup_cell (by omega)]
  · rw [jup_cell (by omega), jup_cell (by omega), jup_if, jup_cell (by omega), jup_cell (by omega)]
  · rw [jup_cell (by omega), jup_if, jup_cell (by omega), jup_cell (by omega), jup_cell (by omega)]
/-- a step is read, or a fault told -/
def WO (T : Nat → Int) (N : Nat) (M0 X0 : JMem) (s : Nat) (a : Nat → Int) (f g : Option (Int × JMem)) : Prop :=
  (∃ (M' X' : JMem) (s' k' : Nat) (w' : List Nat) (v' : Int) (r' dp' st' : Nat), f = some (0, M') ∧ g = some (1, X') ∧ WT T N M0 X0 M' X' s' k' w' v' a ∧ WQ (a 2) (a 1) (a 0) M' X' r' dp' st' ∧ s < s') ∨
  (∃ M' X' : JMem, f = some (0, M') ∧ g = some (0, X') ∧ FJw M0 X0 M' X')
theorem WQ.r60 {nb nt np : Int} (h : WQ nb nt np M X r dp st) : 0 ≤ M 34 2 ∧ M 34 2 ≤ 60 := by
  have h1 := h.1.2.1
  have h2 := h.2.1
  omega
theorem wo_sign (hn : 2000 ≤ n) (h : WT T N M0 X0 M X s k w v a) (hq : WQ (a 2) (a 1) (a 0) M X r dp st) (hs : s0 ≤ s) : WO T N M0 X0 s0 a (f_X6_passSign n 59 M) (f_X12_weekStep_L279 n X) := by
  unfold f_X12_weekStep_L279
  rcases s_sign (n := n) hn h.1 h.2.1 with ⟨F', G', s', k', w', v', e1, e2, e3, e4, e5, e6⟩ | ⟨F', G', e1, e2, e3, e4, e5⟩
  · rw [e1, e2, bnd_some, chk_pos (by decide)]
    exact Or.inl ⟨_, _, s', k', w', v', r, dp, st, rfl, rfl, h.row e3 e5 e6, hq.mv (fun c c1 c2 => jrow_ne _ (by omega)) (jrow_ne _ (by omega)) (jrow_ne _ (by omega)) (by rw [jrow_same, e6 22 (by omega)]) (by rw [jrow_same, e6 23 (by omega)]), by omega⟩
  · rw [e1, e2, bnd_some, chk_pos (by decide)]
    exact Or.inr ⟨_, _, rfl, rfl, h.fl hq.r60 e3 e4 e5⟩
/-! the reference's row ahead -/
theorem q_zeros {v1 v4 : Int} (hr : r < 60) : ∀ (d i q : Nat) (X : JMem), i + d = 6 → d < q → ∃ X1, f_X12_weekStep_L147 n q v1 (r : Int) ((2152 + 6 * r : Nat) : Int) v4 (i : Int) X = f_X12_weekStep_L170 n v1 (r : Int) ((2152 + 6 * r : Nat) : Int) v4 X1 ∧ (∀ c : Nat, c ≠ 168 → X1 c = X c) ∧ ∀ u : Nat, X1 168 u = if 2152 + 6 * r + i ≤ u ∧ u < 2158 + 6 * r then 0 else X 168 u := by
  intro d
  induction d with
  | zero =>
    intro i q X hi hq
    obtain ⟨q, rfl⟩ : ∃ z, q = z + 1 := ⟨q - 1, by omega⟩
    obtain rfl : i = 6 := by omega
    exact ⟨X, by rw [f_X12_weekStep_L147, if_pos (by decide)], fun _ _ => rfl, fun u => by rw [if_neg (by omega)]⟩
  | succ d ih =>
    intro i q X hi hq
    obtain ⟨q, rfl⟩ : ∃ z, q = z + 1 := ⟨q - 1, by omega⟩
    obtain ⟨X1, r1, r2, r3⟩ := ih (i + 1) q (jup X 168 (2152 + 6 * r + i) 0) (by omega) (by omega)
    refine ⟨X1, ?_, fun c hc => by rw [r2 c hc, jup_cell hc], fun u => ?_⟩
    · rw [f_X12_weekStep_L147, if_neg (by rw [jwN (by omega), show jw 6 = 6 by decide]; omega), show ((2152 + 6 * r : Nat) : Int) + (i : Int) = ((2152 + 6 * r + i : Nat) : Int) by omega, chk_pos (jinN (by omega) (by omega)), jwT (by omega), letm_ap, letv_ap, show (i : Int) + 1 = ((i + 1 : Nat) : Int) by omega]
      exact r1
    · rw [r3 u, jup_if]
      by_cases e : u = 2152 + 6 * r + i
      · rw [if_neg (by omega), if_pos e, if_pos (by omega)]
      · by_cases c : 2152 + 6 * r + (i + 1) ≤ u ∧ u < 2158 + 6 * r
        · rw [if_pos c, if_pos (by omega)]
        · rw [if_neg c, if_neg e, if_neg (by omega)]
theorem q_rowAhead {v1 v4 w1 w2 : Int} (hn : 2000 ≤ n) (hr : r < 60) : ∃ X1, f_X12_weekStep_L133 n v1 (r : Int) ((2152 + 6 * r : Nat) : Int) v4 w1 w2 X = f_X12_weekStep_L170 n v1 (r : Int) ((2152 + 6 * r : Nat) : Int) v4 X1 ∧ (∀ c : Nat, c ≠ 167 → c ≠ 168 → X1 c = X c) ∧ (∀ j : Nat, X1 167 j = if j = 23 then w1 + w2 else X 167 j) ∧ ∀ u : Nat, X1 168 u = if u = 2152 + 6 * r then v1 else if 2153 + 6 * r ≤ u ∧ u < 2158 + 6 * r then 0 else X 168 u := by
  obtain ⟨X1, r1, r2, r3⟩ := q_zeros (n := n) (v1 := v1) (v4 := v4) hr 5 1 n (jup (jup X 167 23 (w1 + w2)) 168 (2152 + 6 * r) v1) (by omega) (by omega)
  refine ⟨X1, ?_, fun c c1 c2 => by rw [r2 c c2, jup_cell c2, jup_cell c1], fun j => by rw [r2 167 (by omega), jup_cell (by omega), jup_if], fun u => ?_⟩
  · unfold f_X12_weekStep_L133
    rw [letm_ap, chk_pos (jinN (by omega) (by omega)), jwT (by omega), letm_ap, letv_ap]
    exact r1
  · rw [r3 u, jup_if, jup_cell (by omega)]
    by_cases e : u = 2152 + 6 * r
    · rw [if_neg (by omega), if_pos e, if_pos e]
    · by_cases c : 2153 + 6 * r ≤ u ∧ u < 2158 + 6 * r
      · rw [if_pos (by omega), if_neg e, if_pos c]
      · rw [if_neg (by omega), if_neg e, if_neg e, if_neg c]
end PWEEKQ

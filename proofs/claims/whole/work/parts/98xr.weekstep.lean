section PWSTEP
variable {n : Nat} {M X M0 X0 : JMem} {T : Nat → Int} {N s s0 k r dp st : Nat} {w : List Nat} {v : Int} {a : Nat → Int}
/-! one step of WEEKS -/
def wsf (n : Nat) (M : JMem) : Option (Int × JMem) := bnd (f_X6_isAt n 25 M) fun r1 M2 => if jw r1 = 0 then (bnd (f_X10_takeStep n 40 M2) fun _ M' => f_X6_passSign n 59 M') else (bnd (f_X10_takeEnd n M2) fun _ M' => f_X6_passSign n 59 M')
theorem q_ws {y : Int} (hy : f_X12_inWords n X = some (y, X)) (h23 : X 168 2023 = (r : Int)) : f_X12_weekStep n X = f_X12_weekStep_L42 n y (r : Int) ((2152 + 6 * r : Nat) : Int) (if jw y = 20 ∨ jw y = 21 then 1 else 0) X := by
  unfold f_X12_weekStep f_X12_weekStep_L37
  rw [hy, bnd_some, letv_ap, chk_pos (by decide), show (jw 2023).toNat = 2023 by decide, h23, letv_ap, show (2152 : Int) + 6 * (r : Int) = ((2152 + 6 * r : Nat) : Int) by omega, letv_ap]
  by_cases c1 : jw y = 20
  · rw [if_pos (show jw y = jw 20 from c1), if_pos (Or.inl c1)]
  · rw [if_neg (show ¬ jw y = jw 20 from c1)]
    by_cases c2 : jw y = 21
    · rw [if_pos (show jw y = jw 21 from c2), if_pos (Or.inr c2)]
    · rw [if_neg (show ¬ jw y = jw 21 from c2), if_neg (fun z => z.elim c1 c2)]
theorem wo_bad {why : Int} {f g : Option (Int × JMem)} (h : WT T N M0 X0 M X s k w v a) (hq : 0 ≤ M 34 2 ∧ M 34 2 ≤ 60) (hw : 1 ≤ why ∧ why ≤ 9) (hf : ∀ F', JK F' → f_X6_fail n why M = some (0, jrow M 9 F') → f = some (0, jrow M 9 F')) (hg : ∀ X2, f_X12_fails n why X = some (0, X2) → g = some (0, X2)) : WO T N M0 X0 s0 a f g := by
  obtain ⟨F', G', c1, c2, c3, c4, c5, -⟩ := s_fail (n := n) h.2.1 hw
  exact Or.inr ⟨_, _, hf F' c3.jk c1, hg _ c2, h.fl hq c3 c4 c5⟩
theorem ts_no {y why : Int} (hw : f_X6_wordAt n M = some (y, M)) (hm : f_X10_mayBegin n y M = bnd (f_X6_fail n why M) fun _ M9 => f_X10_mayBegin_L114 n M9) (F' : Nat → Int) (hj : JK F') (hf : f_X6_fail n why M = some (0, jrow M 9 F')) : (bnd (f_X10_takeStep n 40 M) fun _ M' => f_X6_passSign n 59 M') = some (0, jrow M 9 F') := by
  have hj' : JK (jrow M 9 F' 9) := by rw [jrow_same]; exact hj
  unfold f_X10_takeStep
  rw [hw, bnd_some, letv_ap, hm, hf, bnd_some]
  unfold f_X10_mayBegin_L114
  rw [if_neg (j12 _ hj'.1 hj'.2.1), bnd_some, if_pos (by decide), bnd_some, j_passSign hj']
theorem ts_yes {y : Int} {M1 M2 : JMem} (hw : f_X6_wordAt n M = some (y, M)) (hm : f_X10_mayBegin n y M = some (1, M1)) (ha : f_X6_advance n M1 = some (0, M2)) : f_X10_takeStep n 40 M = sw n y (jup M2 34 1 (M2 34 1 + 1)) := by
  unfold f_X10_takeStep
  rw [hw, bnd_some, letv_ap, hm, bnd_some, if_neg (by decide), ha, bnd_some, letm_ap]
  rfl
def stepc (c : Nat) : Prop := c = 14 ∨ c = 15 ∨ c = 16 ∨ c = 17 ∨ c = 18 ∨ c = 19 ∨ c = 20 ∨ c = 24 ∨ c = 26
theorem c_isStep {c : Nat} (hc : c < 27) : (stepc c → f_X10_isStep n (c : Int) M = some (1, M)) ∧ (¬ stepc c → f_X10_isStep n (c : Int) M = some (0, M)) := by
  refine ⟨fun h => ?_, fun h => ?_⟩
  · rcases h with rfl | rfl | rfl | rfl | rfl | rfl | rfl | rfl | rfl <;> rfl
  · have e : ∀ d : Nat, d < 27 → stepc d → ¬ jw (c : Int) = (d : Int) := fun d hd hs z => by
      rw [jwN (by omega)] at z
      have : c = d := by omega
      rw [this] at h
      exact h hs
    unfold f_X10_isStep
    rw [if_neg (show ¬ jw (c : Int) = 14 from e 14 (by omega) (by unfold stepc; omega)), if_neg (show ¬ jw (c : Int) = 15 from e 15 (by omega) (by unfold stepc; omega)), if_neg (show ¬ jw (c : Int) = 16 from e 16 (by omega) (by unfold stepc; omega)), if_neg (show ¬ jw (c : Int) = 17 from e 17 (by omega) (by unfold stepc; omega)), if_neg (show ¬ jw (c : Int) = 18 from e 18 (by omega) (by unfold stepc; omega)), if_neg (show ¬ jw (c : Int) = 19 from e 19 (by omega) (by unfold stepc; omega)), if_neg (show ¬ jw (c : Int) = 20 from e 20 (by omega) (by unfold stepc; omega)), if_neg (show ¬ jw (c : Int) = 24 from e 24 (by omega) (by unfold stepc; omega)), if_neg (show ¬ jw (c : Int) = 26 from e 26 (by omega) (by unfold stepc; omega))]
theorem mb_no {y : Int} (h : f_X10_isStep n y M = some (0, M)) : f_X10_mayBegin n y M = bnd (f_X6_fail n 2 M) fun _ M9 => f_X10_mayBegin_L114 n M9 := by
  have e : ∀ w0 : Int, f_X10_mayBegin_L17 n y w0 M = bnd (f_X6_fail n 2 M) fun _ M9 => f_X10_mayBegin_L114 n M9 := fun w0 => by
    unfold f_X10_mayBegin_L17
    rw [letv_ap, h, bnd_some, if_pos (by decide)]
  unfold f_X10_mayBegin f_X10_mayBegin_L12
  rw [e, e]
  by_cases c1 : jw y = jw 20
  · rw [if_pos c1]
  · rw [if_neg c1]
    by_cases c2 : jw y = jw 24
    · rw [if_pos c2]
    · rw [if_neg c2]
theorem mb_head {c : Nat} (hc : c < 27) (hs : stepc c) : f_X10_mayBegin n (c : Int) M = (if jw (M 34 1) < jw 30 then (if jw (if c = 20 ∨ c = 24 then 1 else 0) = 0 then (f_X10_mayBegin_L84 n (if c = 20 ∨ c = 24 then 1 else 0) M) else (if jw (M 33 3) < jw 3 then (f_X10_mayBegin_L84 n (if c = 20 ∨ c = 24 then 1 else 0) M) else (bnd (f_X6_fail n 7 M) fun _ M5 => f_X10_mayBegin_L114 n M5))) else (bnd (f_X6_fail n 6 M) fun _ M7 => f_X10_mayBegin_L114 n M7)) := by
  have e : ∀ w0 : Int, f_X10_mayBegin_L17 n (c : Int) w0 M = (if jw (M 34 1) < jw 30 then (if jw w0 = 0 then (f_X10_mayBegin_L84 n w0 M) else (if jw (M 33 3) < jw 3 then (f_X10_mayBegin_L84 n w0 M) else (bnd (f_X6_fail n 7 M) fun _ M5 => f_X10_mayBegin_L114 n M5))) else (bnd (f_X6_fail n 6 M) fun _ M7 => f_X10_mayBegin_L114 n M7)) := fun w0 => by
    unfold f_X10_mayBegin_L17
    rw [letv_ap, (c_isStep hc).1 hs, bnd_some, if_neg (by decide)]
  unfold f_X10_mayBegin f_X10_mayBegin_L12
  have e20 : jw (c : Int) = jw 20 ↔ c = 20 := by rw [jwN (by omega), show jw 20 = 20 by decide]; omega
  have e24 : jw (c : Int) = jw 24 ↔ c = 24 := by rw [jwN (by omega), show jw 24 = 24 by decide]; omega
  by_cases c1 : c = 20
  · rw [if_pos (e20.2 c1), if_pos (Or.inl c1), e]
  · rw [if_neg (fun z => c1 (e20.1 z))]
    by_cases c2 : c = 24
    · rw [if_pos (e24.2 c2), if_pos (Or.inr c2), e]
    · rw [if_neg (fun z => c2 (e24.1 z)), if_neg (show ¬ (c = 20 ∨ c = 24) from fun z => z.elim c1 c2), e]
theorem mb_yes {c : Nat} (hc : c < 27) (hs : stepc c) (h2 : M 9 2 = 0) (hst : M 34 1 = (st : Int)) (h30 : st < 30) (hdp : M 33 3 = (dp : Int)) (hr : M 34 2 = (r : Int)) (hd3 : dp ≤ 3) (ho : c = 20 ∨ c = 24 → dp < 3) : ∃ (M1 : JMem) (p : Nat), f_X10_mayBegin n (c : Int) M = some (1, M1) ∧ p = (if c = 20 ∨ c = 24 then 1 else 0) ∧ (∀ b : Nat, b ≠ 33 → b ≠ 39 → M1 b = M b) ∧ (∀ j : Nat, M1 33 j = if j = 3 then ((dp + p : Nat) : Int) else M 33 j) ∧ ∀ i : Nat, M1 39 i = if p = 1 ∧ i = dp then (r : Int) else M 39 i := by
  rw [mb_head hc hs, hst, if_pos (show jw (st : Int) < jw 30 by rw [jwN (by omega), show jw 30 = 30 by decide]; omega)]
  unfold f_X10_mayBegin_L84 f_X10_mayBegin_L114
  by_cases co : c = 20 ∨ c = 24
  · have d3 := ho co
    have hM : ∀ x y : Int, jup (jup M 39 dp x) 33 3 y 9 2 = 0 := fun x y => by rw [jup_cell (by omega), jup_cell (by omega)]; exact h2
    rw [if_pos co, if_neg (by decide), hdp, if_pos (show jw (dp : Int) < jw 3 by rw [jwN (by omega), show jw 3 = 3 by decide]; omega), if_neg (by decide), chk_pos (jinN (by omega) (by omega)), jwT (by omega), letm_ap, letm_ap, hM, if_pos (by decide)]
    refine ⟨_, 1, rfl, by rw [if_pos co], fun b b1 b2 => by rw [jup_cell b1, jup_cell b2], fun j => ?_, fun i => ?_⟩
    · rw [jup_if, jup_cell (by omega), hdp]
      by_cases e : j = 3
      · rw [if_pos e, if_pos e]; omega
      · rw [if_neg e, if_neg e]
    · rw [jup_cell (by omega), jup_if, hr]
      by_cases e : i = dp
      · rw [if_pos e, if_pos ⟨rfl, e⟩]
      · rw [if_neg e, if_neg (fun z => e z.2)]
  · rw [if_neg co, if_pos (by decide), if_pos (by decide), h2, if_pos (by decide)]
    refine ⟨_, 0, rfl, by rw [if_neg co], fun b b1 b2 => rfl, fun j => ?_, fun i => by rw [if_neg (by omega)]⟩
    by_cases e : j = 3
    · rw [if_pos e, e, hdp]; rfl
    · rw [if_neg e]
end PWSTEP

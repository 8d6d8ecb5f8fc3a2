section PSYNC
variable {n : Nat} {M X : JMem}
/-! both readers, a step at a time -/
/-- both have told the same fault -/
def FLT (F G : Nat → Int) : Prop := F 2 = G 18 ∧ 1 ≤ F 2 ∧ F 2 ≤ 9 ∧ F 3 = G 17 ∧ F 4 = 6
/-- the class has told a fault -/
def JK (F : Nat → Int) : Prop := 1 ≤ F 2 ∧ F 2 ≤ 9 ∧ F 4 = 6
theorem FLT.jk {F G : Nat → Int} (h : FLT F G) : JK F := ⟨h.2.1, h.2.2.1, h.2.2.2.2⟩
def Fr9 (F F' : Nat → Int) : Prop := ∀ j : Nat, j = 0 ∨ j = 1 → F' j = F j
def FrX (G G' : Nat → Int) : Prop := ∀ j : Nat, j < 11 ∨ 19 ≤ j → G' j = G j
theorem Fr9.refl (F : Nat → Int) : Fr9 F F := fun _ _ => rfl
theorem FrX.refl (F : Nat → Int) : FrX F F := fun _ _ => rfl
theorem Fr9.trans {F F' F'' : Nat → Int} (h : Fr9 F F') (h2 : Fr9 F' F'') : Fr9 F F'' := fun j hj => (h2 j hj).trans (h j hj)
theorem FrX.trans {F F' F'' : Nat → Int} (h : FrX F F') (h2 : FrX F' F'') : FrX F F'' := fun j hj => (h2 j hj).trans (h j hj)
def TXT (T : Nat → Int) (N : Nat) (M X : JMem) : Prop := TT T N ∧ (∀ k : Nat, k < N → M 10 k = T k) ∧ (∀ k : Nat, k < N → X 174 k = T k) ∧ ∀ k : Nat, k < 27 → M 11 k = jM0 11 k
theorem TXT.mv {T : Nat → Int} {N : Nat} {M' X' : JMem} (h : TXT T N M X) (h1 : M' 10 = M 10) (h2 : M' 11 = M 11) (h3 : X' 174 = X 174) : TXT T N M' X' := by
  unfold TXT
  rw [h1, h2, h3]
  exact h
theorem jup_cell_ne_13 {y : Int} : jup X 167 18 y 167 13 = X 167 13 := by rw [jup_if, if_neg (by omega)]
theorem j12 : ∀ x : Int, 1 ≤ x → x ≤ 9 → ¬ jw x = 0 := fun x h1 h2 => by rw [jw_of (by omega) (by omega)]; omega
theorem self9 {F : Nat → Int} (h : M 9 = F) : jrow M 9 F = M := by rw [← h, jrow_self]
theorem self67 {F : Nat → Int} (h : X 167 = F) : jrow X 167 F = X := by rw [← h, jrow_self]
/-! behind a fault the class's text is as it was -/
theorem j_adv (h : JK (M 9)) : f_X6_advance n M = some (0, M) := by
  unfold f_X6_advance
  rw [if_neg (j12 _ h.1 h.2.1)]
theorem j_fail {why : Int} (h : JK (M 9)) : f_X6_fail n why M = some (0, M) := by
  unfold f_X6_fail f_X6_fail_L20
  rw [if_neg (j12 _ h.1 h.2.1), letm_ap, jup_jrow, upA_id h.2.2.symm, jrow_self]
theorem j4 {x : Int} (hx : 0 ≤ x ∧ x < 6) (h : JK (M 9)) : ¬ jw (M 9 4) = jw x := by
  rw [h.2.2, jw_of (x := x) (by omega) (by omega), show jw 6 = 6 by decide]; omega
theorem j_isAt {c : Int} (h : JK (M 9)) : f_X6_isAt n c M = some (0, M) := by
  unfold f_X6_isAt
  rw [if_neg (j4 (by omega) h)]
theorem j_wordAt (h : JK (M 9)) : f_X6_wordAt n M = some (-1, M) := by
  unfold f_X6_wordAt
  rw [if_neg (j4 (by omega) h)]
theorem j_passWord {c : Int} (h : JK (M 9)) : f_X6_passWord n c M = some (0, M) := by
  unfold f_X6_passWord
  rw [j_isAt h, bnd_some, if_pos (by decide), j_fail h, bnd_some]
theorem j_passSign {c : Int} (h : JK (M 9)) : f_X6_passSign n c M = some (0, M) := by
  unfold f_X6_passSign f_X6_passSign_L23
  rw [if_neg (j4 (by omega) h), j_fail h, bnd_some]
theorem j_passNumber {a b : Int} (h : JK (M 9)) : f_X6_passNumber n a b M = some (-1, M) := by
  unfold f_X6_passNumber
  rw [if_neg (j4 (by omega) h), j_fail h, bnd_some]
theorem j_numberAt {th : Nat} {a : Int} (h : JK (M 9)) : f_X4_numberAt n th a M = some (-1, M) := by
  unfold f_X4_numberAt
  rw [if_neg (j4 (by omega) h), j_fail h, bnd_some]
theorem j_optional {a b c d : Int} (h : JK (M 9)) : f_X2_optional n a b c d M = some (d, M) := by
  unfold f_X2_optional
  rw [j_isAt h, bnd_some, if_pos (by decide)]
theorem j_newName {a b : Int} (h : JK (M 9)) : f_X2_passNewName n a b M = some (0, M) := by
  unfold f_X2_passNewName
  rw [if_neg (j4 (by omega) h), j_fail h, bnd_some]
/-! what is asked of the token, on both sides -/
section PQ
variable {T : Nat → Int} {N s k : Nat} {w : List Nat} {v : Int}
theorem TL.ws (hS : TXT T N M X) (h : TL T N (M 9) (X 167) s k w v) (hk : 1 ≤ k ∧ k ≤ 3) : WSt T N (X 167) s w := by
  obtain ⟨a1, a2, a3, a4, a5, a6, a7, a8, a9, a10, a11, a12⟩ := h
  obtain ⟨b1, b2, p, b3, b4, b5, b6, b7, b8⟩ := a12 (by omega)
  rcases b8 with b8 | b8 | b8 | b8
  · have z := b8.1; clear b8 a11 a12; omega
  · obtain ⟨c1, c2, c3, c4, c5, c6⟩ := b8
    exact ⟨a2, c1, a5, by rw [b4, c2], by omega, c4, c5⟩
  · have z := b8.1; clear b8 a11 a12; omega
  · have z := b8.1; clear b8 a11 a12; omega
theorem TL.k1 (h : TL T N (M 9) (X 167) s k w v) (hk : k = 1) : ∃ c : Nat, c < 27 ∧ w = kw c ∧ v = (c : Int) ∧ M 9 6 = (c : Int) := by
  obtain ⟨a1, a2, a3, a4, a5, a6, a7, a8, a9, a10, a11, a12⟩ := h
  obtain ⟨b1, b2, p, b3, b4, b5, b6, b7, b8⟩ := a12 (by omega)
  rcases b8 with b8 | b8 | b8 | b8
  · have z := b8.1; clear b8 a11 a12; omega
  · rcases b8.2.2.2.2.2 with q | q | q
    · exact q.2
    · have z := q.1; clear q b8 a11 a12; omega
    · have z := q.1; clear q b8 a11 a12; omega
  · have z := b8.1; clear b8 a11 a12; omega
  · have z := b8.1; clear b8 a11 a12; omega
theorem TL.k23 (h : TL T N (M 9) (X 167) s k w v) (hk : k = 2 ∨ k = 3) : (∀ c : Nat, c < 27 → w ≠ kw c) ∧ (k = 2 → w.length ≤ 8 ∧ M 9 7 = ((wd5 w : Nat) : Int)) ∧ (k = 3 → 8 < w.length) := by
  obtain ⟨a1, a2, a3, a4, a5, a6, a7, a8, a9, a10, a11, a12⟩ := h
  obtain ⟨b1, b2, p, b3, b4, b5, b6, b7, b8⟩ := a12 (by omega)
  rcases b8 with b8 | b8 | b8 | b8
  · have z := b8.1; clear b8 a11 a12; omega
  · rcases b8.2.2.2.2.2 with q | q | q
    · have z := q.1; clear q b8 a11 a12; omega
    · exact ⟨q.2.2.1, fun _ => ⟨q.2.1, q.2.2.2⟩, fun z => by omega⟩
    · exact ⟨q.2.2, fun z => by omega, fun _ => q.2.1⟩
  · have z := b8.1; clear b8 a11 a12; omega
  · have z := b8.1; clear b8 a11 a12; omega
theorem TL.tok (h : TL T N (M 9) (X 167) s k w v) : X 167 12 = if k = 0 then 0 else if k = 6 then 1 else if k ≤ 3 then 2 else if k = 4 then 3 else 4 := by
  obtain ⟨a1, a2, a3, a4, a5, a6, a7, a8, a9, a10, a11, a12⟩ := h
  by_cases z6 : k = 6
  · rw [if_neg (by omega), if_pos z6]; exact (a11 z6).2.2
  · obtain ⟨b1, b2, p, b3, b4, b5, b6, b7, b8⟩ := a12 z6
    rcases b8 with b8 | b8 | b8 | b8
    · rw [if_pos b8.1]; exact b8.2
    · rcases b8.2.2.2.2.2 with q | q | q
      · rw [if_neg (by omega), if_neg z6, if_pos (by omega)]; exact b8.1
      · rw [if_neg (by omega), if_neg z6, if_pos (by omega)]; exact b8.1
      · rw [if_neg (by omega), if_neg z6, if_pos (by omega)]; exact b8.1
    · rw [if_neg (by omega), if_neg z6, if_neg (by omega), if_pos b8.1]; exact b8.2.1
    · rw [if_neg (by omega), if_neg z6, if_neg (by omega), if_neg (by omega)]; exact b8.2.1
theorem TL.num (h : TL T N (M 9) (X 167) s k w v) (hk : k = 4 ∨ k = 5) : M 9 6 = v ∧ X 167 15 = v ∧ 0 ≤ v ∧ v ≤ 9999 ∧ (k = 5 → v = 59 ∨ v = 60 ∨ v = 61 ∨ v = 62) := by
  obtain ⟨a1, a2, a3, a4, a5, a6, a7, a8, a9, a10, a11, a12⟩ := h
  obtain ⟨b1, b2, p, b3, b4, b5, b6, b7, b8⟩ := a12 (by omega)
  rcases b8 with b8 | b8 | b8 | b8
  · have z := b8.1; clear b8 a11 a12; omega
  · rcases b8.2.2.2.2.2 with q | q | q <;> (have z := q.1; clear q b8 a11 a12; omega)
  · exact ⟨b8.2.2.1, b8.2.2.2.1, b8.2.2.2.2.1, b8.2.2.2.2.2, fun z => by omega⟩
  · exact ⟨b8.2.2.1, b8.2.2.2.1, by omega, by omega, fun _ => b8.2.2.2.2⟩
theorem TL.jk (h : TL T N (M 9) (X 167) s k w v) (hk : k = 6) : JK (M 9) := by
  obtain ⟨a1, a2, a3, a4, a5, a6, a7, a8, a9, a10, a11, a12⟩ := h
  have := a11 hk
  exact ⟨by omega, by omega, by rw [a3, hk]; rfl⟩
theorem q_inWords (hn : 2000 ≤ n) (hS : TXT T N M X) (h : TL T N (M 9) (X 167) s k w v) : f_X12_inWords n X = some (if k = 1 then ((kp v.toNat : Nat) : Int) else -1, X) := by
  have ht := h.tok
  have h9 := h.2.2.2.2.2.2.2.2.1
  by_cases c : 1 ≤ k ∧ k ≤ 3
  · have hw := h.ws hS c
    obtain ⟨q1, q2⟩ := q_inW (n := n) hn hS.1 hS.2.2.1 hw
    rw [jrow_self] at q1 q2
    by_cases c1 : k = 1
    · obtain ⟨c', e1, e2, e3, e4⟩ := h.k1 c1
      rw [if_pos c1, e3, q1 c' e1 e2]
      rfl
    · rw [if_neg c1]
      exact q2 (h.k23 (by omega)).1
  · rw [if_neg (by omega)]
    unfold f_X12_inWords
    rw [if_neg]
    rw [ht]
    by_cases z0 : k = 0
    · rw [if_pos z0]; decide
    · by_cases z6 : k = 6
      · rw [if_neg z0, if_pos z6]; decide
      · by_cases z4 : k = 4
        · rw [if_neg z0, if_neg z6, if_neg (by omega), if_pos z4]; decide
        · rw [if_neg z0, if_neg z6, if_neg (by omega), if_neg z4]; decide
theorem q_isName (hn : 2000 ≤ n) (hS : TXT T N M X) (h : TL T N (M 9) (X 167) s k w v) : f_X12_isName n X = some (if k = 2 then 1 else 0, X) := by
  have ht := h.tok
  have h900 := hS.1.1
  have hi := q_inWords (n := n) hn hS h
  unfold f_X12_isName
  by_cases c : 1 ≤ k ∧ k ≤ 3
  · have hw := h.ws hS c
    have e1 : jw (X 167 14 - X 167 13) = ((w.length : Nat) : Int) := by
      have hl := hw.2.2.2.2.1
      rw [hw.2.2.2.1, hw.2.2.1, jwS (by omega) (by omega)]
      congr 1
      omega
    rw [hw.2.1, if_pos rfl, e1, hi, show jw 8 = 8 by decide]
    by_cases c3 : k = 3
    · rw [if_pos (by have := (h.k23 (by omega)).2.2 c3; omega), if_neg (by omega)]
    · by_cases c1 : k = 1
      · obtain ⟨c', d1, d2, d3, d4⟩ := h.k1 c1
        have := (k_wd c' d1).2.1
        rw [if_neg (by rw [d2]; omega), if_pos c1, bnd_some, if_neg (by rw [jwm1, jwN (by rw [d3]; have := (k_pq c' d1).2.1; show kp c' < 100000; omega)]; omega), if_neg (by omega)]
      · rw [if_neg (by have := ((h.k23 (by omega)).2.1 (by omega)).1; omega), if_neg c1, bnd_some, if_pos rfl, if_pos (by omega)]
  · have e2 : ¬ jw (X 167 12) = jw 2 := by
      rw [ht]
      by_cases z0 : k = 0
      · rw [if_pos z0]; decide
      · by_cases z6 : k = 6
        · rw [if_neg z0, if_pos z6]; decide
        · by_cases z4 : k = 4
          · rw [if_neg z0, if_neg z6, if_neg (by omega), if_pos z4]; decide
          · have h9 := h.2.2.2.2.2.2.2.2.1
            rw [if_neg z0, if_neg z6, if_neg (by omega), if_neg z4]; decide
    rw [if_neg e2, if_neg (by omega)]
theorem q_isSign (h : TL T N (M 9) (X 167) s k w v) {c : Int} (hc : 0 ≤ c ∧ c < 1000) : f_X12_isSign n c X = some (if k = 5 ∧ v = c then 1 else 0, X) := by
  have ht := h.tok
  have h9 := h.2.2.2.2.2.2.2.2.1
  unfold f_X12_isSign
  by_cases z5 : k = 5
  · have hv := h.num (Or.inr z5)
    have e4 : X 167 12 = 4 := by rw [ht, if_neg (by omega), if_neg (by omega), if_neg (by omega), if_neg (by omega)]
    rw [e4, if_pos rfl, hv.2.1]
    by_cases e : v = c
    · rw [if_pos (by rw [e]), if_pos ⟨z5, e⟩]
    · rw [if_neg (by rw [jw_of (x := v) (by omega) (by omega), jw_of (x := c) (by omega) (by omega)]; exact e), if_neg (fun q => e q.2)]
  · have e2 : ¬ jw (X 167 12) = jw 4 := by
      rw [ht]
      by_cases z0 : k = 0
      · rw [if_pos z0]; decide
      · by_cases z6 : k = 6
        · rw [if_neg z0, if_pos z6]; decide
        · by_cases z4 : k = 4
          · rw [if_neg z0, if_neg z6, if_neg (by omega), if_pos z4]; decide
          · rw [if_neg z0, if_neg z6, if_pos (by omega)]; decide
    rw [if_neg e2, if_neg (fun q => z5 q.1)]
theorem c_kind (h : TL T N (M 9) (X 167) s k w v) {c : Nat} (hc : c ≤ 6) : (jw (M 9 4) = jw (c : Int)) ↔ k = c := by
  have h9 := h.2.2.2.2.2.2.2.2.1
  rw [h.2.2.1, jwN (by omega), jwN (by omega)]
  omega
theorem c_isAt (h : TL T N (M 9) (X 167) s k w v) {c : Nat} (hc : c < 27) : f_X6_isAt n (c : Int) M = some (if k = 1 ∧ v = (c : Int) then 1 else 0, M) := by
  unfold f_X6_isAt
  by_cases k1 : k = 1
  · obtain ⟨c', e1, e2, e3, e4⟩ := h.k1 k1
    rw [if_pos (show jw (M 9 4) = jw 1 from (c_kind h (c := 1) (by omega)).2 k1), e4, jwN (by omega), jwN (by omega), e3]
    by_cases e : (c' : Int) = (c : Int)
    · rw [if_pos e, if_pos ⟨k1, e⟩]
    · rw [if_neg e, if_neg (fun q => e q.2)]
  · rw [if_neg (show ¬ jw (M 9 4) = jw 1 from fun q => k1 ((c_kind h (c := 1) (by omega)).1 q)), if_neg (fun q => k1 q.1)]
/-- both tell a fault of the token -/
theorem s_fail (h : TL T N (M 9) (X 167) s k w v) {why : Int} (hw : 1 ≤ why ∧ why ≤ 9) : ∃ F' G' : Nat → Int, f_X6_fail n why M = some (0, jrow M 9 F') ∧ f_X12_fails n why X = some (0, jrow X 167 G') ∧ FLT F' G' ∧ Fr9 (M 9) F' ∧ FrX (X 167) G' ∧ (k = 6 → F' = M 9) := by
  have ht := h.tok
  obtain ⟨a1, a2, a3, a4, a5, a6, a7, a8, a9, a10, a11, a12⟩ := h
  by_cases z6 : k = 6
  · obtain ⟨b1, b2, b3⟩ := a11 z6
    have hj : JK (M 9) := ⟨by omega, by omega, by rw [a3, z6]; rfl⟩
    refine ⟨M 9, upA (upA (X 167) 18 1) 17 (X 167 13), by rw [jrow_self]; exact j_fail hj, ?_, ⟨?_, by omega, by omega, ?_, hj.2.2⟩, Fr9.refl _, fun j hj => ?_, fun _ => rfl⟩
    · unfold f_X12_fails f_X12_fails_L21
      rw [a7, if_pos (by decide), b3, if_pos rfl, letm_ap, letm_ap, jup_cell_ne_13, jup2]
    · rw [upA_ne (by omega), upA_same]; exact b1
    · rw [upA_same, a5]; exact b2
    · rw [upA_ne (by omega), upA_ne (by omega)]
  · obtain ⟨b1, b2, p, b3, b4, b5, b6, b7, b8⟩ := a12 z6
    have n1 : ¬ jw (X 167 12) = jw 1 := by
      rw [ht]
      by_cases z0 : k = 0
      · rw [if_pos z0]; decide
      · by_cases z3 : k ≤ 3
        · rw [if_neg z0, if_neg z6, if_pos z3]; decide
        · by_cases z4 : k = 4
          · rw [if_neg z0, if_neg z6, if_neg z3, if_pos z4]; decide
          · rw [if_neg z0, if_neg z6, if_neg z3, if_neg z4]; decide
    refine ⟨upA (upA (upA (M 9) 2 why) 3 (M 9 5)) 4 6, upA (upA (X 167) 18 why) 17 (X 167 13), ?_, ?_, ⟨?_, ?_, ?_, ?_, ?_⟩, fun j hj => ?_, fun j hj => ?_, fun q => absurd q z6⟩
    · unfold f_X6_fail f_X6_fail_L20
      rw [b1, if_pos (by decide), letm_ap, letm_ap, letm_ap, show jup M 9 2 why 9 5 = M 9 5 by rw [jup_if, if_neg (by omega)], jup_jrow 9 2 why, jup_row_up, jup_row_up]
    · unfold f_X12_fails f_X12_fails_L21
      rw [a7, if_pos (by decide), if_neg n1, letm_ap, letm_ap, jup_cell_ne_13, jup2]
    · rw [upA_ne (by omega), upA_ne (by omega), upA_same, upA_ne (by omega), upA_same]
    · rw [upA_ne (by omega), upA_ne (by omega), upA_same]; exact hw.1
    · rw [upA_ne (by omega), upA_ne (by omega), upA_same]; exact hw.2
    · rw [upA_ne (by omega), upA_same, upA_same, a4, a5]
    · rw [upA_same]
    · rw [upA_ne (by omega), upA_ne (by omega), upA_ne (by omega)]
    · rw [upA_ne (by omega), upA_ne (by omega)]
/-- both go on to the next token -/
theorem s_adv (hn : 2000 ≤ n) (hS : TXT T N M X) (h : TL T N (M 9) (X 167) s k w v) (hk : k ≠ 6) : ∃ (F' G' : Nat → Int) (s' k' : Nat) (w' : List Nat) (v' : Int), f_X6_advance n M = some (0, jrow M 9 F') ∧ f_X12_ahead n X = some (0, jrow X 167 G') ∧ TL T N F' G' s' k' w' v' ∧ s ≤ s' ∧ (k ≠ 0 → s < s') ∧ Fr9 (M 9) F' ∧ FrX (X 167) G' := by
  obtain ⟨a1, a2, a3, a4, a5, a6, a7, a8, a9, a10, a11, a12⟩ := h
  obtain ⟨b1, b2, p, b3, b4, b5, b6, b7, b8⟩ := a12 hk
  obtain ⟨f', g', s', k', w', v', c1, c2, c3, c4, c5, c6⟩ := adv (n := n) (M := M) (X := X) hn hS.1 hS.2.1 hS.2.2.1 hS.2.2.2 b6 b1 b2 a1 b3 a2 b4 a7 a8
  rw [jrow_self] at c1 c2
  exact ⟨f', g', s', k', w', v', c1, c2, c3, by omega, fun z => by have := b7 z; omega, c5, fun j hj => c6 j (by omega) (by omega) (by omega) (by omega)⟩
end PQ
end PSYNC

section PSET
variable {n : Nat} {M : JMem}
/-! what one number does to the relations -/
def upA (A : Nat → Int) (q : Nat) (v : Int) : Nat → Int := fun k => if k = q then v else A k
theorem upA_same (A : Nat → Int) (q : Nat) (v : Int) : upA A q v q = v := if_pos rfl
theorem upA_ne {A : Nat → Int} {q : Nat} {v : Int} {k : Nat} (h : k ≠ q) : upA A q v k = A k := if_neg h
theorem jup_at_row (M : JMem) (a q : Nat) (v : Int) : jup M a q v a = upA (M a) q v := by
  funext k
  rw [jup_at]
  unfold upA
  by_cases h : k = q
  · rw [if_pos ⟨rfl, h⟩, if_pos h]
  · rw [if_neg (fun q => h q.2), if_neg h]
theorem RP.congr2 {P : JV} {A A' : Nat → Int} (h : RP P A) (h0 : ∀ k : Nat, k < 4 → A' k = A k) (ht : ∀ t k : Nat, t < 8 → k < 5 → A' (8 + k + 6 * t) = A (8 + k + 6 * t)) (hb : ∀ b : Nat, b < 8 → A' (56 + 10 * b) = A (56 + 10 * b) ∧ A' (57 + 10 * b) = A (57 + 10 * b) ∧ A' (62 + 10 * b) = A (62 + 10 * b)) : RP P A' := by
  unfold RP at h ⊢
  obtain ⟨q0, q1, q2, q3, q4, q5, q6⟩ := h
  rw [h0 0 (by omega), h0 1 (by omega), h0 2 (by omega), h0 3 (by omega)]
  refine ⟨q0, q1, q2, q3, q4, fun t t8 hl => ?_, fun b b8 hl => ?_⟩
  · rw [show A' (8 + 6 * t) = _ from ht t 0 t8 (by omega), show A' (9 + 6 * t) = _ from ht t 1 t8 (by omega), show A' (10 + 6 * t) = _ from ht t 2 t8 (by omega), show A' (11 + 6 * t) = _ from ht t 3 t8 (by omega), show A' (12 + 6 * t) = _ from ht t 4 t8 (by omega)]
    exact q5 t t8 hl
  · rw [(hb b b8).1, (hb b b8).2.1, (hb b b8).2.2]
    exact q6 b b8 hl
theorem RN.congr2 {N : JV} {A A' : Nat → Int} (h : RN N A) (h0 : ∀ k : Nat, k < 7 → k ≠ 3 → A' k = A k) (ht : ∀ t : Nat, t < 8 → A' (11 + 6 * t) = A (11 + 6 * t) ∧ A' (13 + 6 * t) = A (13 + 6 * t) ∧ A' (10 + 6 * t) = A (10 + 6 * t)) (hb : ∀ b : Nat, b < 8 → A' (58 + 10 * b) = A (58 + 10 * b) ∧ A' (59 + 10 * b) = A (59 + 10 * b) ∧ A' (60 + 10 * b) = A (60 + 10 * b) ∧ A' (61 + 10 * b) = A (61 + 10 * b) ∧ A' (63 + 10 * b) = A (63 + 10 * b) ∧ A' (64 + 10 * b) = A (64 + 10 * b)) : RN N A' := by
  unfold RN at h ⊢
  obtain ⟨q0, q1, ⟨a2, q2⟩, q3, ⟨a4, q4⟩, q5, ⟨a6, q6⟩, q7, q8, q9, q10, q11, q12, q13, q14, q15, q16⟩ := h
  rw [h0 0 (by omega) (by omega), h0 1 (by omega) (by omega), h0 2 (by omega) (by omega), h0 4 (by omega) (by omega), h0 5 (by omega) (by omega), h0 6 (by omega) (by omega)]
  refine ⟨q0, q1, ⟨a2, fun b b8 => ?_⟩, fun b b8 => ?_, ⟨a4, fun b b8 => ?_⟩, fun b b8 => ?_, ⟨a6, fun t t8 => ?_⟩, fun t t8 => ?_, fun b b8 => ?_, fun b b8 => ?_, q10, q11, q12, fun p p6 => ⟨(q13 p p6).1, fun b b8 => ?_⟩, fun t t8 => ⟨(q14 t t8).1, fun b b8 => ?_⟩, fun b b8 => ?_, fun t t8 b b8 => ?_⟩
  · rw [(hb b b8).1]; exact q2 b b8
  · rw [(hb b b8).1]; exact q3 b b8
  · rw [(hb b b8).2.1]; exact q4 b b8
  · rw [(hb b b8).2.1]; exact q5 b b8
  · rw [(ht t t8).2.1]; exact q6 t t8
  · rw [(ht t t8).2.1]; exact q7 t t8
  · rw [(hb b b8).2.2.2.1]; exact q8 b b8
  · rw [(hb b b8).2.2.1]; exact q9 b b8
  · rw [(hb b b8).2.1, (hb b b8).2.2.2.2.1]; exact (q13 p p6).2 b b8
  · rw [(hb b b8).2.1, (hb b b8).2.2.2.2.1]; exact (q14 t t8).2 b b8
  · rw [(hb b b8).2.1, (hb b b8).2.2.2.2.1]; exact q15 b b8
  · rw [(ht t t8).1, (ht t t8).2.2, (hb b b8).2.2.2.2.2]; exact q16 t t8 b b8
theorem Rrow.congr2 {nb nt np nr : Int} {W : JV} {A A' : Nat → Int} {k : Nat} (h : Rrow nb nt np nr W A k) (hA : ∀ j : Nat, j < 6 → A' (136 + j + 6 * k) = A (136 + j + 6 * k)) : Rrow nb nt np nr W A' k := by
  unfold Rrow at h ⊢
  rw [show A' (136 + 6 * k) = _ from hA 0 (by omega), show A' (137 + 6 * k) = _ from hA 1 (by omega), show A' (138 + 6 * k) = _ from hA 2 (by omega), show A' (141 + 6 * k) = _ from hA 5 (by omega)]
  exact h
theorem RW.congr2 {nb nt np : Int} {W : JV} {A A' : Nat → Int} (h : RW nb nt np W A) (h7 : A' 7 = A 7) (hA : ∀ k j : Nat, k < 60 → j < 6 → A' (136 + j + 6 * k) = A (136 + j + 6 * k)) : RW nb nt np W A' := by
  unfold RW at h ⊢
  rw [h7]
  refine h.imp id fun ⟨a1, a2, a3, a4, a5, a6, a7, a8⟩ => ⟨a1, a2, a3, a4, fun k k6 hk => (a5 k k6 hk).congr2 fun j hj => hA k j k6 hj, fun k k6 hk ho => ?_, fun e e6 he hw => ?_, a8⟩
  · rw [show A' (140 + 6 * k) = _ from hA k 4 k6 (by omega)]; exact a6 k k6 hk ho
  · rw [show A' (140 + 6 * e) = _ from hA e 4 e6 (by omega)]; exact a7 e e6 he hw
theorem Rmrk.upd {M : JMem} (h : Rmrk M) {q : Nat} {v : Int} (hq : q < 504) : Rmrk (jup M 168 q v) := by
  unfold Rmrk at h ⊢
  refine ⟨h.1, h.2.1, h.2.2.1, fun i hi hl => ?_⟩
  have h1 := h.2.2.2 i hi hl
  unfold Rpark at h1 ⊢
  rw [show slot (jup M 168 q v) (504 * (i + 1)) = slot M (504 * (i + 1)) from funext fun k => by unfold slot; rw [jup_at_row, upA_ne (by omega)]]
  rw [blk_congr (by decide) (M := M) (M' := jup M 168 q v) (a := 92 + 25 * i) (z := 12) (fun j hj => jup_cell (by omega)), blk_congr (by decide) (M := M) (M' := jup M 168 q v) (a := 104 + 25 * i) (z := 8) (fun j hj => jup_cell (by omega)), blk_congr (by decide) (M := M) (M' := jup M 168 q v) (a := 112 + 25 * i) (z := 5) (fun j hj => jup_cell (by omega)), show jup M 168 q v (92 + 25 * i) = M (92 + 25 * i) from jup_cell (by omega), show jup M 168 q v 169 = M 169 from rfl]
  exact h1
theorem RP.odds {P P' : JV} {A : Nat → Int} {x : Int} (h : RP P A) (hP : ∀ j k : Nat, j < 12 → ¬ (j = 0 ∧ k = 3) → P' j k = P j k) (h3 : P' 0 3 = x) (hx : 0 ≤ x ∧ x ≤ 16) : RP P' (upA A 3 x) := by
  unfold RP at h ⊢
  obtain ⟨q0, q1, q2, q3, q4, q5, q6⟩ := h
  rw [hP 0 0 (by omega) (by omega), hP 0 1 (by omega) (by omega), hP 0 2 (by omega) (by omega), h3, upA_same, upA_ne (show (0 : Nat) ≠ 3 by decide), upA_ne (show (1 : Nat) ≠ 3 by decide), upA_ne (show (2 : Nat) ≠ 3 by decide)]
  refine ⟨q0, q1, q2, ⟨rfl, hx⟩, q4, fun t t8 hl => ?_, fun b b8 hl => ?_⟩
  · rw [hP 4 t (by omega) (by omega), hP 5 t (by omega) (by omega), hP 6 t (by omega) (by omega), hP 7 t (by omega) (by omega), hP 8 t (by omega) (by omega), upA_ne (show 8 + 6 * t ≠ 3 by omega), upA_ne (show 9 + 6 * t ≠ 3 by omega), upA_ne (show 10 + 6 * t ≠ 3 by omega), upA_ne (show 11 + 6 * t ≠ 3 by omega), upA_ne (show 12 + 6 * t ≠ 3 by omega)]
    exact q5 t t8 hl
  · rw [hP 9 b (by omega) (by omega), hP 10 b (by omega) (by omega), hP 11 b (by omega) (by omega), upA_ne (show 56 + 10 * b ≠ 3 by omega), upA_ne (show 57 + 10 * b ≠ 3 by omega), upA_ne (show 62 + 10 * b ≠ 3 by omega)]
    exact q6 b b8 hl
/-! the odds -/
theorem p_rule : jO_rule JR n := by
  intro x1 hx M h
  have e := jwI hx
  have c16 : jw 16 = 16 := by decide
  have hf : ∀ M', f_X12_isFrom n (jw x1) 0 16 M' = some (if 0 ≤ x1 ∧ x1 ≤ 16 then 1 else 0, M') := fun M' => by
    rw [e]; exact q_isFrom ⟨by have := hx.1; omega, by have := hx.2; omega⟩ (by omega) (by omega)
  by_cases h1 : 0 ≤ x1 ∧ x1 ≤ 16
  · refine ⟨1, jup (jup M 40 3 x1) 0 0 0, 1, jup (jup (jup (jup M 40 3 x1) 0 0 0) 168 3 x1) 167 2 0, ?_, ?_, rfl, ?_⟩
    · unfold f_X11_rule; rw [if_neg (by omega), if_pos (by omega)]; rfl
    · unfold f_X12_rule; rw [hf, bnd_some, if_pos h1, if_neg (by decide)]; rfl
    · obtain ⟨g1, g2, g3, g4, g5, g6⟩ := h
      have hc := JR.cur ⟨g1, g2, g3, g4, g5, g6⟩
      refine JR.of ⟨rfl, g1.2⟩ g2 g3 g4 ?_ ?_ hc.2.2.1 ?_ ?_
      · rw [show jup (jup (jup (jup M 40 3 x1) 0 0 0) 168 3 x1) 167 2 0 168 = upA (M 168) 3 x1 from jup_at_row _ _ _ _]
        refine hc.1.odds (fun j k hj hjk => ?_) rfl h1
        unfold blk
        rw [jup_cell (by omega), jup_cell (by omega), jup_cell (by omega), jup_at, if_neg (fun q => hjk ⟨by omega, q.2⟩)]
      · rw [show jup (jup (jup (jup M 40 3 x1) 0 0 0) 168 3 x1) 167 2 0 168 = upA (M 168) 3 x1 from jup_at_row _ _ _ _]
        refine RN.congr2 hc.2.1 (fun k _ hk => upA_ne hk) (fun t ht => ⟨upA_ne (by omega), upA_ne (by omega), upA_ne (by omega)⟩) (fun b hb => ⟨upA_ne (by omega), upA_ne (by omega), upA_ne (by omega), upA_ne (by omega), upA_ne (by omega), upA_ne (by omega)⟩)
      · rw [show jup (jup (jup (jup M 40 3 x1) 0 0 0) 168 3 x1) 167 2 0 168 = upA (M 168) 3 x1 from jup_at_row _ _ _ _]
        exact RW.congr2 hc.2.2.2 (upA_ne (by omega)) (fun k j hk hj => upA_ne (by omega))
      · refine Rmrk.congr (M := jup (jup (jup M 40 3 x1) 0 0 0) 168 3 x1) ?_ rfl rfl (fun a q1 q2 q3 => jup_cell q3)
        have g7 : Rmrk (jup (jup M 40 3 x1) 0 0 0) := g6.congr rfl rfl (fun a q1 q2 q3 => by rw [jup_cell (by omega), jup_cell (by omega)])
        exact g7.upd (by omega)
  · refine Pr.end (r := 0) (s := 0) (x := 1) (y := 1) h ?_ ?_ rfl rfl
    · unfold f_X11_rule f_X11_rule_L10
      by_cases h2 : jw x1 < 0
      · rw [if_pos h2]; rfl
      · rw [if_neg h2, if_neg (by omega)]; rfl
    · unfold f_X12_rule; rw [hf, bnd_some, if_neg h1, if_pos (by decide)]; rfl
end PSET

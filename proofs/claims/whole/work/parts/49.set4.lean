section PSET4
variable {n : Nat} {M : JMem}
theorem RP.hunt {P P' : JV} {A : Nat → Int} {c : Nat} {x : Int} (h : RP P A) (c8 : c < 8) (hP : ∀ j k : Nat, j < 12 → ¬ (j = 11 ∧ k = c) → P' j k = P j k) (h3 : P' 11 c = x) (hx : S8 x ∧ bit x c = false ∧ ∀ o : Nat, o < 8 → A 2 ≤ (o : Int) → bit x o = false) : RP P' (upA A (62 + 10 * c) x) := by
  unfold RP at h ⊢
  obtain ⟨q0, q1, q2, q3, q4, q5, q6⟩ := h
  rw [hP 0 0 (by omega) (by omega), hP 0 1 (by omega) (by omega), hP 0 2 (by omega) (by omega), hP 0 3 (by omega) (by omega), upA_ne (show 0 ≠ 62 + 10 * c by omega), upA_ne (show 1 ≠ 62 + 10 * c by omega), upA_ne (show 2 ≠ 62 + 10 * c by omega), upA_ne (show 3 ≠ 62 + 10 * c by omega)]
  refine ⟨q0, q1, q2, q3, q4, fun t t8 hl => ?_, fun b b8 hl => ?_⟩
  · rw [hP 4 t (by omega) (by omega), hP 5 t (by omega) (by omega), hP 6 t (by omega) (by omega), hP 7 t (by omega) (by omega), hP 8 t (by omega) (by omega), upA_ne (show 8 + 6 * t ≠ 62 + 10 * c by omega), upA_ne (show 9 + 6 * t ≠ 62 + 10 * c by omega), upA_ne (show 10 + 6 * t ≠ 62 + 10 * c by omega), upA_ne (show 11 + 6 * t ≠ 62 + 10 * c by omega), upA_ne (show 12 + 6 * t ≠ 62 + 10 * c by omega)]
    exact q5 t t8 hl
  · have q7 := q6 b b8 hl
    rw [hP 9 b (by omega) (by omega), hP 10 b (by omega) (by omega), upA_ne (show 56 + 10 * b ≠ 62 + 10 * c by omega), upA_ne (show 57 + 10 * b ≠ 62 + 10 * c by omega)]
    by_cases e : b = c
    · subst e
      rw [h3, upA_same]
      exact ⟨q7.1, q7.2.1, rfl, hx⟩
    · rw [hP 11 b (by omega) (by omega), upA_ne (show 62 + 10 * b ≠ 62 + 10 * c by omega)]
      exact q7
theorem RP.shift {P P' : JV} {A : Nat → Int} {c : Nat} {x : Int} (h : RP P A) (c8 : c < 8) (hP : ∀ j k : Nat, j < 12 → ¬ (j = 6 ∧ k = c) → P' j k = P j k) (h3 : P' 6 c = x) (hx : 0 ≤ x ∧ x ≤ 63) : RP P' (upA A (10 + 6 * c) x) := by
  unfold RP at h ⊢
  obtain ⟨q0, q1, q2, q3, q4, q5, q6⟩ := h
  rw [hP 0 0 (by omega) (by omega), hP 0 1 (by omega) (by omega), hP 0 2 (by omega) (by omega), hP 0 3 (by omega) (by omega), upA_ne (show 0 ≠ 10 + 6 * c by omega), upA_ne (show 1 ≠ 10 + 6 * c by omega), upA_ne (show 2 ≠ 10 + 6 * c by omega), upA_ne (show 3 ≠ 10 + 6 * c by omega)]
  refine ⟨q0, q1, q2, q3, q4, fun t t8 hl => ?_, fun b b8 hl => ?_⟩
  · have q7 := q5 t t8 hl
    rw [hP 4 t (by omega) (by omega), hP 5 t (by omega) (by omega), hP 7 t (by omega) (by omega), hP 8 t (by omega) (by omega), upA_ne (show 8 + 6 * t ≠ 10 + 6 * c by omega), upA_ne (show 9 + 6 * t ≠ 10 + 6 * c by omega), upA_ne (show 11 + 6 * t ≠ 10 + 6 * c by omega), upA_ne (show 12 + 6 * t ≠ 10 + 6 * c by omega)]
    by_cases e : t = c
    · subst e
      rw [h3, upA_same]
      exact ⟨q7.1, q7.2.1, ⟨rfl, hx⟩, q7.2.2.2⟩
    · rw [hP 6 t (by omega) (by omega), upA_ne (show 10 + 6 * t ≠ 10 + 6 * c by omega)]
      exact q7
  · rw [hP 9 b (by omega) (by omega), hP 10 b (by omega) (by omega), hP 11 b (by omega) (by omega), upA_ne (show 56 + 10 * b ≠ 10 + 6 * c by omega), upA_ne (show 57 + 10 * b ≠ 10 + 6 * c by omega), upA_ne (show 62 + 10 * b ≠ 10 + 6 * c by omega)]
    exact q6 b b8 hl
theorem JR.two (h : JR M) {x1 x2 : Int} (hx1 : I32 x1) (hx2 : I32 x2) : f_X11_areTwoBeasts n x1 x2 M = some (if (0 ≤ x1 ∧ x1 < M 168 2) ∧ (0 ≤ x2 ∧ x2 < M 168 2) ∧ x1 ≠ x2 then 1 else 0, M) := by
  unfold f_X11_areTwoBeasts
  have e1 := jwI hx1
  have e2 := jwI hx2
  rw [h.isB hx1, bnd_some]
  by_cases c1 : 0 ≤ x1 ∧ x1 < M 168 2
  · rw [if_pos c1, if_neg (by decide), h.isB hx2, bnd_some]
    by_cases c2 : 0 ≤ x2 ∧ x2 < M 168 2
    · rw [if_pos c2, if_neg (by decide)]
      by_cases c3 : x1 = x2
      · rw [if_pos (by omega), if_neg (fun q => q.2.2 c3)]
      · rw [if_neg (by omega), if_pos ⟨c1, c2, c3⟩]
    · rw [if_neg c2, if_pos (by decide), if_neg (fun q => c2 q.2.1)]
  · rw [if_neg c1, if_pos (by decide), if_neg (fun q => c1 q.1)]
theorem JR.twoM (h : JR M) {x1 x2 : Int} (hx1 : I32 x1) (hx2 : I32 x2) (M' : JMem) (e : M' 168 = M 168) : f_X12_areTwo n x1 x2 M' = some (if (0 ≤ x1 ∧ x1 < M 168 2) ∧ (0 ≤ x2 ∧ x2 < M 168 2) ∧ x1 ≠ x2 then 1 else 0, M') := by
  unfold f_X12_areTwo
  have e1 := jwI hx1
  have e2 := jwI hx2
  rw [h.isBM hx1 M' e, bnd_some]
  by_cases c1 : 0 ≤ x1 ∧ x1 < M 168 2
  · rw [if_pos c1, if_neg (by decide), h.isBM hx2 M' e, bnd_some]
    by_cases c2 : 0 ≤ x2 ∧ x2 < M 168 2
    · rw [if_pos c2, if_neg (by decide)]
      by_cases c3 : x1 = x2
      · rw [if_pos (by omega), if_neg (fun q => q.2.2 c3)]
      · rw [if_neg (by omega), if_pos ⟨c1, c2, c3⟩]
    · rw [if_neg c2, if_pos (by decide), if_neg (fun q => c2 q.2.1)]
  · rw [if_neg c1, if_pos (by decide), if_neg (fun q => c1 q.1)]
theorem JR.beast (h : JR M) {b : Nat} (b8 : b < 8) (hb : (b : Int) < M 168 2) : (M 49 b = M 168 (56 + 10 * b) ∧ 1 ≤ M 168 (56 + 10 * b) ∧ M 168 (56 + 10 * b) ≤ 9) ∧ (M 50 b = M 168 (57 + 10 * b) ∧ 0 ≤ M 168 (57 + 10 * b) ∧ M 168 (57 + 10 * b) ≤ 16) ∧ (M 51 b = M 168 (62 + 10 * b) ∧ S8 (M 168 (62 + 10 * b)) ∧ bit (M 168 (62 + 10 * b)) b = false ∧ ∀ o : Nat, o < 8 → M 168 2 ≤ (o : Int) → bit (M 168 (62 + 10 * b)) o = false) := h.cur.1.2.2.2.2.2.2 b b8 hb
theorem p_hunt : jO_hunt JR n := by
  intro x1 x2 x3 hx1 hx2 hx3 M h
  have nb := h.nb
  have i3 : jw x3 = x3 := jw_of (by omega) (by omega)
  by_cases h1 : (0 ≤ x1 ∧ x1 < M 168 2) ∧ (0 ≤ x2 ∧ x2 < M 168 2) ∧ x1 ≠ x2
  · obtain ⟨b, b8, rfl⟩ := natOf (x := x1) (k := 8) (by omega) (by omega)
    obtain ⟨o, o8, rfl⟩ := natOf (x := x2) (k := 8) (by omega) (by omega)
    obtain ⟨-, -, g1, g2, g3, g4⟩ := h.beast b8 h1.1.2
    have hb : jw (if bit (M 168 (62 + 10 * b)) o = true then (1 : Int) else 0) = if bit (M 168 (62 + 10 * b)) o = true then 1 else 0 := by split <;> decide
    by_cases h2 : (if bit (M 168 (62 + 10 * b)) o = true then (1 : Int) else 0) = x3
    · refine Pr.end (r := 0) (s := 0) (x := 7) (y := 7) h ?_ ?_ rfl rfl
      · unfold f_X11_hunt
        rw [h.two hx1 hx2, bnd_some, if_pos h1, if_neg (by decide), chk_pos (jin_of (by omega) (by omega) (by omega)), jwb (by omega), show M (40 + 11) b = M 168 (62 + 10 * b) from g1, q_isIn g2 o8, bnd_some, hb, i3, if_pos h2]
        rfl
      · unfold f_X12_hunt
        rw [h.twoM hx1 hx2 (jup M 0 0 7) rfl, bnd_some, if_pos h1, if_neg (by decide), show f_X12_beastOf n (b : Int) 6 (jup M 0 0 7) = _ from q_beastOf (k := 6) b8 (by omega), bnd_some, show jup M 0 0 7 168 (56 + 10 * b + 6) = M 168 (62 + 10 * b) by rw [jup_cell (by omega), show 56 + 10 * b + 6 = 62 + 10 * b by omega], q_isInM g2 o8, bnd_some, hb, i3, if_pos h2]
        rfl
    · have ht := jtog g2 o8
      refine ⟨1, jup (jup M 51 b (jxor (M 168 (62 + 10 * b)) (jshl 1 (o : Int)))) 0 0 0, 1, jup (jup (jup (jup M 51 b (jxor (M 168 (62 + 10 * b)) (jshl 1 (o : Int)))) 0 0 0) 168 (62 + 10 * b) (jxor (M 168 (62 + 10 * b)) (jshl 1 (o : Int)))) 167 2 0, ?_, ?_, rfl, h.set (Or.inr (by omega)) (by omega) (by omega) ?_ ?_⟩
      · unfold f_X11_hunt
        rw [h.two hx1 hx2, bnd_some, if_pos h1, if_neg (by decide), chk_pos (jin_of (by omega) (by omega) (by omega)), jwb (by omega), show M (40 + 11) b = M 168 (62 + 10 * b) from g1, q_isIn g2 o8, bnd_some, hb, i3, if_neg h2, chk_pos (jin_of (by omega) (by omega) (by omega)), chk_pos (jin_of (by omega) (by omega) (by omega)), show M (40 + 11) b = M 168 (62 + 10 * b) from g1]
        rfl
      · unfold f_X12_hunt
        have hM : ∀ q : Nat, jup (jup M 51 b (jxor (M 168 (62 + 10 * b)) (jshl 1 (o : Int)))) 0 0 0 168 q = M 168 q := fun q => rfl
        rw [h.twoM hx1 hx2 (jup (jup M 51 b (jxor (M 168 (62 + 10 * b)) (jshl 1 (o : Int)))) 0 0 0) rfl, bnd_some, if_pos h1, if_neg (by decide), show f_X12_beastOf n (b : Int) 6 (jup (jup M 51 b (jxor (M 168 (62 + 10 * b)) (jshl 1 (o : Int)))) 0 0 0) = _ from q_beastOf (k := 6) b8 (by omega), bnd_some, hM, show 56 + 10 * b + 6 = 62 + 10 * b by omega, q_isInM g2 o8, bnd_some, hb, i3, if_neg h2, q_beastRow, bnd_some, chk_pos (jin_of (by omega) (by omega) (by omega)), chk_pos (jin_of (by omega) (by omega) (by omega)), jwn (by omega) (by omega), show ((56 + 10 * (b : Int) + 6).toNat) = 62 + 10 * b by omega, hM]
        rfl
      · refine h.cur.1.hunt b8 (fun j k hj hjk => blk_jup hj (fun q => hjk ⟨by omega, q.2⟩)) ?_ ⟨ht.1, ?_, fun o' o8' hl => ?_⟩
        · show jup M 51 b _ 51 b = _
          rw [jup_at, if_pos ⟨rfl, rfl⟩]
        · rw [ht.2 b b8, g3, decide_eq_false (show ¬ b = o by omega)]; rfl
        · rw [ht.2 o' o8', g4 o' o8' hl, decide_eq_false (show ¬ o' = o by omega)]; rfl
      · rw [blk_jup_row (fun j hj => by omega) (by decide)]
        exact RN.congr2 h.cur.2.1 (fun k hk _ => upA_ne (by omega)) (fun t ht => ⟨upA_ne (by omega), upA_ne (by omega), upA_ne (by omega)⟩) (fun b hb => ⟨upA_ne (by omega), upA_ne (by omega), upA_ne (by omega), upA_ne (by omega), upA_ne (by omega), upA_ne (by omega)⟩)
  · refine Pr.end (r := 0) (s := 0) (x := 1) (y := 1) h ?_ ?_ rfl rfl
    · unfold f_X11_hunt
      rw [h.two hx1 hx2, bnd_some, if_neg h1, if_pos (by decide)]; rfl
    · unfold f_X12_hunt
      rw [h.twoM hx1 hx2 (jup M 0 0 1) rfl, bnd_some, if_neg h1, if_pos (by decide)]; rfl
end PSET4

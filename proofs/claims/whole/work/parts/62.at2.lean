section PAT2
variable {n : Nat} {M : JMem}
theorem JR.spot (h : JR M) (hf : 100 ≤ n) {b : Nat} (b8 : b < 8) (hb : (b : Int) < M 168 2) : f_X1_spotOf n 52 40 (b : Int) M = some (wh (M 168) b, M) := q_spotOf hf h.cur.1 h.cur.2.1 b8 hb
theorem JR.whM (h : JR M) {b : Nat} (b8 : b < 8) (hb : (b : Int) < M 168 2) (M' : JMem) (e : M' 168 = M 168) : f_X12_whereOf n (b : Int) M' = some (wh (M 168) b, M') := by
  rw [q_whereOf b8 (by rw [e]; exact (h.eat b8 hb).2.1), e]
  rfl
theorem p_at (hf : 100 ≤ n) : jO_at JR n := by
  intro x1 hx1 M h
  have nb := h.nb
  by_cases h1 : 0 ≤ x1 ∧ x1 < M 168 2
  · obtain ⟨b, b8, rfl⟩ := natOf (x := x1) (k := 8) (by omega) (by omega)
    have hw := (h.wh_of b8 h1.2).2
    by_cases c : M 168 (59 + 10 * b) = 1
    · have w1 : wh (M 168) b = -1 := if_pos c
      refine Pr.end (r := -1) (s := -1) (x := 6) (y := 6) h ?_ ?_ rfl rfl
      · unfold f_X11_at
        rw [h.isB hx1, bnd_some, if_pos h1, if_neg (by decide), h.isE b8 h1.2, bnd_some, if_pos c, if_neg (by decide)]; rfl
      · unfold f_X12_at f_X12_orNone
        rw [h.isBM hx1 (jup M 0 0 6) rfl, bnd_some, if_pos h1, if_neg (by decide), h.whM b8 h1.2 (jup M 0 0 6) rfl, bnd_some, w1, if_pos rfl]; rfl
    · have hn := h.cur.2.1
      unfold RN at hn
      have w0 : wh (M 168) b = M 168 (63 + 10 * b) := if_neg c
      have q := hn.2.2.2.2.2.2.2.2.2.2.2.2.2.2.2.1 b b8 h1.2 c
      have w2 : ¬ jw (wh (M 168) b) = jw (-1) := by
        rw [jw_m1, jwI hw, w0]
        omega
      refine Pr.end (r := wh (M 168) b) (s := wh (M 168) b) (x := 0) (y := 0) h ?_ ?_ rfl rfl
      · unfold f_X11_at
        rw [h.isB hx1, bnd_some, if_pos h1, if_neg (by decide), h.isE b8 h1.2, bnd_some, if_neg c, if_pos (by decide), h.spot hf b8 h1.2]; rfl
      · unfold f_X12_at f_X12_orNone
        rw [h.isBM hx1 (jup M 0 0 0) rfl, bnd_some, if_pos h1, if_neg (by decide), h.whM b8 h1.2 (jup M 0 0 0) rfl, bnd_some, if_neg w2]; rfl
  · refine Pr.end (r := -1) (s := -1) (x := 1) (y := 1) h ?_ ?_ rfl rfl
    · unfold f_X11_at
      rw [h.isB hx1, bnd_some, if_neg h1, if_pos (by decide)]; rfl
    · unfold f_X12_at
      rw [h.isBM hx1 (jup M 0 0 1) rfl, bnd_some, if_neg h1, if_pos (by decide)]; rfl
end PAT2

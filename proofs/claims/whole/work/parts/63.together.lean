section PTOG
variable {n : Nat} {M : JMem}
theorem p_together (hf : 100 ≤ n) : jO_together JR n := by
  intro x1 x2 hx1 hx2 M h
  have nb := h.nb
  by_cases h1 : (0 ≤ x1 ∧ x1 < M 168 2) ∧ (0 ≤ x2 ∧ x2 < M 168 2) ∧ x1 ≠ x2
  · obtain ⟨a, a8, rfl⟩ := natOf (x := x1) (k := 8) (by omega) (by omega)
    obtain ⟨b, b8, rfl⟩ := natOf (x := x2) (k := 8) (by omega) (by omega)
    have wa := jwI (h.wh_of a8 h1.1.2).2
    have wb := jwI (h.wh_of b8 h1.2.1.2).2
    have hA : f_X1_hasTogether n 52 40 (a : Int) (b : Int) M = some (if 0 < wh (M 168) a ∧ wh (M 168) a = wh (M 168) b then 1 else 0, M) := by
      unfold f_X1_hasTogether
      rw [h.spot hf a8 h1.1.2, bnd_some, letv_eq, wa]
      by_cases c : wh (M 168) a ≤ 0
      · rw [if_pos c, if_neg (fun q => by omega)]
      · rw [if_neg c, h.spot hf b8 h1.2.1.2, bnd_some, wb]
        by_cases d : wh (M 168) a = wh (M 168) b
        · rw [if_pos d, if_pos ⟨by omega, d⟩]
        · rw [if_neg d, if_neg (fun q => d q.2)]
    have hB : ∀ M', M' 168 = M 168 → f_X12_areTogether n (a : Int) (b : Int) M' = some (if 0 < wh (M 168) a ∧ wh (M 168) a = wh (M 168) b then 1 else 0, M') := fun M' e => by
      unfold f_X12_areTogether
      rw [h.whM a8 h1.1.2 M' e, bnd_some, wa]
      by_cases c : wh (M 168) a ≤ 0
      · rw [if_pos c, if_neg (fun q => by omega)]
      · rw [if_neg c, h.whM a8 h1.1.2 M' e, bnd_some, h.whM b8 h1.2.1.2 M' e, bnd_some, wa, wb]
        by_cases d : wh (M 168) a = wh (M 168) b
        · rw [if_pos d, if_pos ⟨by omega, d⟩]
        · rw [if_neg d, if_neg (fun q => d q.2)]
    by_cases c : 0 < wh (M 168) a ∧ wh (M 168) a = wh (M 168) b
    · refine Pr.end (r := 1) (s := 1) (x := 0) (y := 0) h ?_ ?_ rfl rfl
      · unfold f_X11_together
        rw [h.two hx1 hx2, bnd_some, if_pos h1, if_neg (by decide), hA, bnd_some, if_pos c, if_neg (by decide)]; rfl
      · unfold f_X12_together
        rw [h.twoM hx1 hx2 (jup M 0 0 0) rfl, bnd_some, if_pos h1, if_neg (by decide), hB (jup M 0 0 0) rfl, bnd_some, if_pos c, if_neg (by decide)]; rfl
    · refine Pr.end (r := 0) (s := 0) (x := 0) (y := 0) h ?_ ?_ rfl rfl
      · unfold f_X11_together
        rw [h.two hx1 hx2, bnd_some, if_pos h1, if_neg (by decide), hA, bnd_some, if_neg c, if_pos (by decide)]; rfl
      · unfold f_X12_together
        rw [h.twoM hx1 hx2 (jup M 0 0 0) rfl, bnd_some, if_pos h1, if_neg (by decide), hB (jup M 0 0 0) rfl, bnd_some, if_neg c, if_pos (by decide)]; rfl
  · refine Pr.end (r := -1) (s := -1) (x := 1) (y := 1) h ?_ ?_ rfl rfl
    · unfold f_X11_together
      rw [h.two hx1 hx2, bnd_some, if_neg h1, if_pos (by decide)]; rfl
    · unfold f_X12_together
      rw [h.twoM hx1 hx2 (jup M 0 0 1) rfl, bnd_some, if_neg h1, if_pos (by decide)]; rfl
end PTOG

section PTELL2
variable {n : Nat} {M : JMem}
theorem p_beast : jO_beast JR n := by
  intro x1 x2 hx1 hx2 M h
  have nb := h.nb
  have e2 := jwI hx2
  have c6 : jw 6 = 6 := by decide
  by_cases h1 : 0 ≤ x1 ∧ x1 < M 168 2
  · obtain ⟨b, b8, rfl⟩ := natOf (x := x1) (k := 8) (by omega) (by omega)
    by_cases h2 : 0 ≤ x2 ∧ x2 ≤ 6
    · have g := h.beast b8 h1.2
      have key : ∀ v, f_X11_beast n (b : Int) x2 M = some (v, jup M 0 0 0) → (∀ k : Nat, k < 7 → x2 = k → v = M 168 (56 + 10 * b + k)) → ∃ r M1 s M2, f_X11_beast n (b : Int) x2 M = some (r, M1) ∧ f_X12_beast n (b : Int) x2 M1 = some (s, M2) ∧ jw r = jw s ∧ JR M2 := fun v hv kk => by
        refine Pr.end (r := v) (s := v) (x := 0) (y := 0) h hv ?_ rfl rfl
        unfold f_X12_beast
        rw [h.isBM hx1 (jup M 0 0 0) rfl, bnd_some, if_pos h1, if_neg (by decide), if_neg (by omega), if_pos (by omega)]
        obtain ⟨k, k7, hk⟩ := natOf (x := x2) (k := 7) (by omega) (by omega)
        rw [hk, q_beastOf b8 (by omega), bnd_some, kk k k7 hk]; rfl
      have hj : jin (b : Int) 8 := jin_of (by omega) (by omega) (by omega)
      rcases (show x2 = 0 ∨ x2 = 1 ∨ x2 = 2 ∨ x2 = 3 ∨ x2 = 4 ∨ x2 = 5 ∨ x2 = 6 by omega) with rfl | rfl | rfl | rfl | rfl | rfl | rfl
      · refine key (M 49 b) ?_ (fun k k7 hk => by
          obtain rfl : k = 0 := by omega
          exact g.1.1)
        unfold f_X11_beast
        rw [h.isB hx1, bnd_some, if_pos h1, if_neg (by decide), if_pos (by decide), chk_pos hj, jwb (by omega)]; rfl
      · refine key (M 50 b) ?_ (fun k k7 hk => by
          obtain rfl : k = 1 := by omega
          rw [g.2.1.1]; congr 1; omega)
        unfold f_X11_beast
        rw [h.isB hx1, bnd_some, if_pos h1, if_neg (by decide), if_neg (by decide), if_pos (by decide), chk_pos hj, jwb (by omega)]; rfl
      · refine key (M 168 (58 + 10 * b)) ?_ (fun k k7 hk => by
          obtain rfl : k = 2 := by omega
          congr 1; omega)
        have hh := h.outs b8 h1.2
        unfold f_X11_beast
        rw [h.isB hx1, bnd_some, if_pos h1, if_neg (by decide), if_neg (by decide), if_neg (by decide), if_pos (by decide), jbit hh.1 b8]
        have ev : (if bit (M 52 2) b = true then (1 : Int) else 0) = M 168 (58 + 10 * b) := by
          by_cases c : M 168 (58 + 10 * b) = 1
          · rw [if_pos (hh.2.2.2 c), c]
          · rw [if_neg (fun q => c (hh.2.2.1 q)), hh.2.1.resolve_right c]
        rw [ev]; rfl
      · refine key (M 168 (59 + 10 * b)) ?_ (fun k k7 hk => by
          obtain rfl : k = 3 := by omega
          congr 1; omega)
        have hh := h.eat b8 h1.2
        unfold f_X11_beast
        rw [h.isB hx1, bnd_some, if_pos h1, if_neg (by decide), if_neg (by decide), if_neg (by decide), if_neg (by decide), if_pos (by decide), jbit hh.1 b8]
        have ev : (if bit (M 52 3) b = true then (1 : Int) else 0) = M 168 (59 + 10 * b) := by
          by_cases c : M 168 (59 + 10 * b) = 1
          · rw [if_pos (hh.2.2.2 c), c]
          · rw [if_neg (fun q => c (hh.2.2.1 q)), hh.2.1.resolve_right c]
        rw [ev]; rfl
      · refine key (M 54 b) ?_ (fun k k7 hk => by
          obtain rfl : k = 4 := by omega
          rw [h.late b8 h1.2]; congr 1; omega)
        unfold f_X11_beast
        rw [h.isB hx1, bnd_some, if_pos h1, if_neg (by decide), if_neg (by decide), if_neg (by decide), if_neg (by decide), if_neg (by decide), if_pos (by decide), chk_pos hj, jwb (by omega)]; rfl
      · refine key (M 53 b) ?_ (fun k k7 hk => by
          obtain rfl : k = 5 := by omega
          rw [(h.tick b8 h1.2).1]; congr 1; omega)
        unfold f_X11_beast
        rw [h.isB hx1, bnd_some, if_pos h1, if_neg (by decide), if_neg (by decide), if_neg (by decide), if_neg (by decide), if_neg (by decide), if_neg (by decide), if_pos (by decide), chk_pos hj, jwb (by omega)]; rfl
      · refine key (M 51 b) ?_ (fun k k7 hk => by
          obtain rfl : k = 6 := by omega
          rw [g.2.2.1]; congr 1; omega)
        unfold f_X11_beast
        rw [h.isB hx1, bnd_some, if_pos h1, if_neg (by decide), if_neg (by decide), if_neg (by decide), if_neg (by decide), if_neg (by decide), if_neg (by decide), if_neg (by decide), if_pos (by decide), chk_pos hj, jwb (by omega)]; rfl
    · refine Pr.end (r := -1) (s := -1) (x := 1) (y := 1) h ?_ ?_ rfl rfl
      · unfold f_X11_beast
        rw [h.isB hx1, bnd_some, if_pos h1, if_neg (by decide), if_neg (by omega), if_neg (by omega), if_neg (by omega), if_neg (by omega), if_neg (by omega), if_neg (by omega), if_neg (by omega)]; rfl
      · unfold f_X12_beast f_X12_beast_L18
        rw [h.isBM hx1 (jup M 0 0 1) rfl, bnd_some, if_pos h1, if_neg (by decide)]
        by_cases h3 : jw x2 < 0
        · rw [if_pos h3]; rfl
        · rw [if_neg h3, if_neg (by omega)]; rfl
  · refine Pr.end (r := -1) (s := -1) (x := 1) (y := 1) h ?_ ?_ rfl rfl
    · unfold f_X11_beast
      rw [h.isB hx1, bnd_some, if_neg h1, if_pos (by decide)]; rfl
    · unfold f_X12_beast f_X12_beast_L18
      rw [h.isBM hx1 (jup M 0 0 1) rfl, bnd_some, if_neg h1, if_pos (by decide)]; rfl
end PTELL2

section PTELL
variable {n : Nat} {M : JMem}
theorem p_there (hf : 100 ≤ n) : jO_there JR n := by
  intro x1 hx1 M h
  have np := h.np
  by_cases h1 : 0 ≤ x1 ∧ x1 < M 168 0
  · obtain ⟨p, p6, rfl⟩ := natOf (x := x1) (k := 6) (by omega) (by omega)
    refine Pr.end (r := M 55 p) (s := M 55 p) (x := 0) (y := 0) h ?_ ?_ rfl rfl
    · unfold f_X11_there
      rw [h.isP hx1, bnd_some, if_pos h1, if_neg (by decide), chk_pos (jin_of (by omega) (by omega) (by omega)), jwb (by omega)]; rfl
    · unfold f_X12_there
      rw [h.isPM hx1 (jup M 0 0 0) rfl, bnd_some, if_pos h1, if_neg (by decide), (h.atP (n := n) hf p6 (jup M 0 0 0) rfl).1]; rfl
  · refine Pr.end (r := -1) (s := -1) (x := 1) (y := 1) h ?_ ?_ rfl rfl
    · unfold f_X11_there
      rw [h.isP hx1, bnd_some, if_neg h1, if_pos (by decide)]; rfl
    · unfold f_X12_there
      rw [h.isPM hx1 (jup M 0 0 1) rfl, bnd_some, if_neg h1, if_pos (by decide)]; rfl
theorem JR.train (h : JR M) {t : Nat} (t8 : t < 8) (ht : (t : Int) < M 168 1) : (M 44 t = M 168 (8 + 6 * t) ∧ 0 ≤ M 168 (8 + 6 * t) ∧ M 168 (8 + 6 * t) < M 168 0) ∧ (M 45 t = M 168 (9 + 6 * t) ∧ 0 ≤ M 168 (9 + 6 * t) ∧ M 168 (9 + 6 * t) < M 168 0) ∧ (M 46 t = M 168 (10 + 6 * t) ∧ 0 ≤ M 168 (10 + 6 * t) ∧ M 168 (10 + 6 * t) ≤ 63) ∧ (M 47 t = M 168 (11 + 6 * t) ∧ 1 ≤ M 168 (11 + 6 * t) ∧ M 168 (11 + 6 * t) ≤ 24) ∧ (M 48 t = M 168 (12 + 6 * t) ∧ 1 ≤ M 168 (12 + 6 * t) ∧ M 168 (12 + 6 * t) ≤ 9) := h.cur.1.2.2.2.2.2.1 t t8 ht
theorem JR.late (h : JR M) {b : Nat} (b8 : b < 8) (hb : (b : Int) < M 168 2) : M 54 b = M 168 (60 + 10 * b) := by
  have hn := h.cur.2.1
  unfold RN at hn
  exact hn.2.2.2.2.2.2.2.2.2.1 b b8 hb
theorem p_train (hf : 100 ≤ n) : jO_train JR n := by
  intro x1 x2 hx1 hx2 M h
  have nb := h.nt
  have e2 := jwI hx2
  have c6 : jw 6 = 6 := by decide
  by_cases h1 : 0 ≤ x1 ∧ x1 < M 168 1
  · obtain ⟨b, b8, rfl⟩ := natOf (x := x1) (k := 8) (by omega) (by omega)
    by_cases h2 : 0 ≤ x2 ∧ x2 ≤ 6
    · have g := h.train b8 h1.2
      have hT := (h.atT (n := n) hf b8 (jup M 0 0 0) rfl).1
      have key : ∀ v, f_X11_train n (b : Int) x2 M = some (v, jup M 0 0 0) → (x2 = 6 → v = M 56 b) → (∀ k : Nat, k < 6 → x2 = k → v = M 168 (8 + 6 * b + k)) → ∃ r M1 s M2, f_X11_train n (b : Int) x2 M = some (r, M1) ∧ f_X12_train n (b : Int) x2 M1 = some (s, M2) ∧ jw r = jw s ∧ JR M2 := fun v hv k6 kk => by
        refine Pr.end (r := v) (s := v) (x := 0) (y := 0) h hv ?_ rfl rfl
        unfold f_X12_train f_X12_train_L48
        rw [h.isTM hx1 (jup M 0 0 0) rfl, bnd_some, if_pos h1, if_neg (by decide), if_neg (by omega), if_pos (by omega)]
        by_cases h6 : x2 = 6
        · rw [if_pos (by omega), hT, bnd_some, k6 h6]; rfl
        · obtain ⟨k, k6', hk⟩ := natOf (x := x2) (k := 6) (by omega) (by omega)
          rw [if_neg (by omega), hk, q_trainOf b8 k6', bnd_some, kk k k6' hk]; rfl
      have hj : jin (b : Int) 8 := jin_of (by omega) (by omega) (by omega)
      rcases (show x2 = 0 ∨ x2 = 1 ∨ x2 = 2 ∨ x2 = 3 ∨ x2 = 4 ∨ x2 = 5 ∨ x2 = 6 by omega) with rfl | rfl | rfl | rfl | rfl | rfl | rfl
      · refine key (M 44 b) ?_ (by omega) (fun k k6 hk => by
        obtain rfl : k = 0 := by omega
        exact g.1.1)
        unfold f_X11_train
        rw [h.isT hx1, bnd_some, if_pos h1, if_neg (by decide), if_pos (by decide), chk_pos hj, jwb (by omega)]; rfl
      · refine key (M 45 b) ?_ (by omega) (fun k k6 hk => by
        obtain rfl : k = 1 := by omega
        rw [g.2.1.1]; congr 1; omega)
        unfold f_X11_train
        rw [h.isT hx1, bnd_some, if_pos h1, if_neg (by decide), if_neg (by decide), if_pos (by decide), chk_pos hj, jwb (by omega)]; rfl
      · refine key (M 46 b) ?_ (by omega) (fun k k6 hk => by
        obtain rfl : k = 2 := by omega
        rw [g.2.2.1.1]; congr 1; omega)
        unfold f_X11_train
        rw [h.isT hx1, bnd_some, if_pos h1, if_neg (by decide), if_neg (by decide), if_neg (by decide), if_pos (by decide), chk_pos hj, jwb (by omega)]; rfl
      · refine key (M 47 b) ?_ (by omega) (fun k k6 hk => by
        obtain rfl : k = 3 := by omega
        rw [g.2.2.2.1.1]; congr 1; omega)
        unfold f_X11_train
        rw [h.isT hx1, bnd_some, if_pos h1, if_neg (by decide), if_neg (by decide), if_neg (by decide), if_neg (by decide), if_pos (by decide), chk_pos hj, jwb (by omega)]; rfl
      · refine key (M 48 b) ?_ (by omega) (fun k k6 hk => by
        obtain rfl : k = 4 := by omega
        rw [g.2.2.2.2.1]; congr 1; omega)
        unfold f_X11_train
        rw [h.isT hx1, bnd_some, if_pos h1, if_neg (by decide), if_neg (by decide), if_neg (by decide), if_neg (by decide), if_neg (by decide), if_pos (by decide), chk_pos hj, jwb (by omega)]; rfl
      · refine key (M 168 (13 + 6 * b)) ?_ (by omega) (fun k k6 hk => by
        obtain rfl : k = 5 := by omega
        congr 1; omega)
        have hh := h.halts b8 h1.2
        unfold f_X11_train
        rw [h.isT hx1, bnd_some, if_pos h1, if_neg (by decide), if_neg (by decide), if_neg (by decide), if_neg (by decide), if_neg (by decide), if_neg (by decide), if_pos (by decide), jbit hh.1 b8]
        have ev : (if bit (M 52 4) b = true then (1 : Int) else 0) = M 168 (13 + 6 * b) := by
          by_cases c : M 168 (13 + 6 * b) = 1
          · rw [if_pos (hh.2.2.2 c), c]
          · rw [if_neg (fun q => c (hh.2.2.1 q)), hh.2.1.resolve_right c]
        rw [ev]; rfl
      · refine key (M 56 b) ?_ (fun _ => rfl) (fun k k6 hk => by omega)
        unfold f_X11_train
        rw [h.isT hx1, bnd_some, if_pos h1, if_neg (by decide), if_neg (by decide), if_neg (by decide), if_neg (by decide), if_neg (by decide), if_neg (by decide), if_neg (by decide), if_pos (by decide), chk_pos hj, jwb (by omega)]; rfl
    · refine Pr.end (r := -1) (s := -1) (x := 1) (y := 1) h ?_ ?_ rfl rfl
      · unfold f_X11_train
        rw [h.isT hx1, bnd_some, if_pos h1, if_neg (by decide), if_neg (by omega), if_neg (by omega), if_neg (by omega), if_neg (by omega), if_neg (by omega), if_neg (by omega), if_neg (by omega)]; rfl
      · unfold f_X12_train f_X12_train_L18
        rw [h.isTM hx1 (jup M 0 0 1) rfl, bnd_some, if_pos h1, if_neg (by decide)]
        by_cases h3 : jw x2 < 0
        · rw [if_pos h3]; rfl
        · rw [if_neg h3, if_neg (by omega)]; rfl
  · refine Pr.end (r := -1) (s := -1) (x := 1) (y := 1) h ?_ ?_ rfl rfl
    · unfold f_X11_train
      rw [h.isT hx1, bnd_some, if_neg h1, if_pos (by decide)]; rfl
    · unfold f_X12_train f_X12_train_L18
      rw [h.isTM hx1 (jup M 0 0 1) rfl, bnd_some, if_neg h1, if_pos (by decide)]; rfl
end PTELL

section PSET7
variable {n : Nat} {M : JMem}
theorem JR.outs (h : JR M) {b : Nat} (b8 : b < 8) (hb : (b : Int) < M 168 2) : S8 (M 52 2) ∧ (M 168 (58 + 10 * b) = 0 ∨ M 168 (58 + 10 * b) = 1) ∧ (bit (M 52 2) b = true ↔ M 168 (58 + 10 * b) = 1) := by
  have hn := h.cur.2.1
  unfold RN at hn
  obtain ⟨q0, q1, ⟨a4, q4⟩, q5, -⟩ := hn
  have := q4 b b8
  exact ⟨a4, q5 b b8 hb, fun g => (this.1 g).2, fun g => this.2 ⟨hb, g⟩⟩
theorem JR.halts (h : JR M) {t : Nat} (t8 : t < 8) (ht : (t : Int) < M 168 1) : S8 (M 52 4) ∧ (M 168 (13 + 6 * t) = 0 ∨ M 168 (13 + 6 * t) = 1) ∧ (bit (M 52 4) t = true ↔ M 168 (13 + 6 * t) = 1) := by
  have hn := h.cur.2.1
  unfold RN at hn
  obtain ⟨q0, q1, -, -, -, -, ⟨a4, q4⟩, q5, -⟩ := hn
  have := q4 t t8
  exact ⟨a4, q5 t t8 ht, fun g => (this.1 g).2, fun g => this.2 ⟨ht, g⟩⟩
theorem p_let : jO_let JR n := by
  intro x1 x2 hx1 hx2 M h
  have nb := h.nb
  have i2 : jw x2 = x2 := jw_of (by omega) (by omega)
  have c1 : jw 1 = 1 := by decide
  have c0 : jw 0 = 0 := by decide
  by_cases h1 : 0 ≤ x1 ∧ x1 < M 168 2
  · obtain ⟨b, b8, rfl⟩ := natOf (x := x1) (k := 8) (by omega) (by omega)
    obtain ⟨g1, g2, g3⟩ := h.outs b8 h1.2
    by_cases he : M 168 (59 + 10 * b) = 1
    · refine Pr.end (r := 0) (s := 0) (x := 7) (y := 7) h ?_ ?_ rfl rfl
      · unfold f_X11_let f_X11_let_L40
        rw [h.isB hx1, bnd_some, if_pos h1, if_neg (by decide), h.isE b8 h1.2, bnd_some, if_pos he, if_neg (by decide)]
        rfl
      · unfold f_X12_let f_X12_let_L41
        rw [h.isBM hx1 (jup M 0 0 7) rfl, bnd_some, if_pos h1, if_neg (by decide), h.isEM b8 h1.2 (jup M 0 0 7) rfl, bnd_some, if_pos he, if_neg (by decide)]
        rfl
    · by_cases h2 : (if bit (M 52 2) b = true then (1 : Int) else 0) = x2
      · refine Pr.end (r := 0) (s := 0) (x := 7) (y := 7) h ?_ ?_ rfl rfl
        · unfold f_X11_let f_X11_let_L40
          rw [h.isB hx1, bnd_some, if_pos h1, if_neg (by decide), h.isE b8 h1.2, bnd_some, if_neg he, if_pos (by decide), q_isIn g1 b8, bnd_some, jw01, i2, if_pos h2]
          rfl
        · unfold f_X12_let f_X12_let_L37 f_X12_let_L41
          rw [h.isBM hx1 (jup M 0 0 7) rfl, bnd_some, if_pos h1, if_neg (by decide), h.isEM b8 h1.2 (jup M 0 0 7) rfl, bnd_some, if_neg he, if_pos (by decide), show f_X12_beastOf n (b : Int) 2 (jup M 0 0 7) = _ from q_beastOf (k := 2) b8 (by omega), bnd_some, show jup M 0 0 7 168 (56 + 10 * b + 2) = M 168 (58 + 10 * b) by rw [jup_cell (by omega), show 56 + 10 * b + 2 = 58 + 10 * b by omega]]
          by_cases c : M 168 (58 + 10 * b) = 1
          · rw [if_pos (g3.2 c)] at h2
            rw [c, if_pos rfl, if_pos (by omega)]
            rfl
          · rw [if_neg (fun g => c (g3.1 g))] at h2
            rw [g2.resolve_right c, if_neg (by decide), if_pos (by omega)]
            rfl
      · have ht := jtog g1 b8
        refine ⟨1, jup (jup M 52 2 (jxor (M 52 2) (jshl 1 (b : Int)))) 0 0 0, 1, jup (jup (jup (jup M 52 2 (jxor (M 52 2) (jshl 1 (b : Int)))) 0 0 0) 168 (58 + 10 * b) x2) 167 2 0, ?_, ?_, rfl, h.set (Or.inr (by omega)) (by omega) (by omega) ?_ ?_⟩
        · unfold f_X11_let f_X1_turnOut
          rw [h.isB hx1, bnd_some, if_pos h1, if_neg (by decide), h.isE b8 h1.2, bnd_some, if_neg he, if_pos (by decide), q_isIn g1 b8, bnd_some, jw01, i2, if_neg h2]
          rfl
        · unfold f_X12_let f_X12_let_L37 f_X12_let_L67
          have hM : ∀ q : Nat, jup (jup M 52 2 (jxor (M 52 2) (jshl 1 (b : Int)))) 0 0 0 168 q = M 168 q := fun q => rfl
          rw [h.isBM hx1 (jup (jup M 52 2 (jxor (M 52 2) (jshl 1 (b : Int)))) 0 0 0) rfl, bnd_some, if_pos h1, if_neg (by decide), h.isEM b8 h1.2 (jup (jup M 52 2 (jxor (M 52 2) (jshl 1 (b : Int)))) 0 0 0) rfl, bnd_some, if_neg he, if_pos (by decide), show f_X12_beastOf n (b : Int) 2 (jup (jup M 52 2 (jxor (M 52 2) (jshl 1 (b : Int)))) 0 0 0) = _ from q_beastOf (k := 2) b8 (by omega), bnd_some, hM, show 56 + 10 * b + 2 = 58 + 10 * b by omega]
          by_cases c : M 168 (58 + 10 * b) = 1
          · rw [if_pos (g3.2 c)] at h2
            obtain rfl : x2 = 0 := by omega
            rw [c, if_pos rfl, if_neg (by decide), q_beastRow, bnd_some, if_pos c0, chk_pos (jin_of (by omega) (by omega) (by omega)), jwn (by omega) (by omega), show ((56 + 10 * (b : Int) + 2).toNat) = 58 + 10 * b by omega]
            rfl
          · rw [if_neg (fun g => c (g3.1 g))] at h2
            obtain rfl : x2 = 1 := by omega
            rw [g2.resolve_right c, if_neg (by decide), if_neg (by decide), q_beastRow, bnd_some, if_neg (by decide), chk_pos (jin_of (by omega) (by omega) (by omega)), jwn (by omega) (by omega), show ((56 + 10 * (b : Int) + 2).toNat) = 58 + 10 * b by omega]
            rfl
        · rw [blk_jup_row (fun j hj => by omega) (by decide)]
          exact RP.congr2 h.cur.1 (fun k hk => upA_ne (by omega)) (fun t k ht hk => upA_ne (by omega)) (fun b hb => ⟨upA_ne (by omega), upA_ne (by omega), upA_ne (by omega)⟩)
        · refine h.cur.2.1.out b8 h1.2 (fun j k hj hjk => blk_jup hj (fun q => hjk ⟨by omega, q.2⟩)) ?_ ht ?_
          · show jup M 52 2 _ 52 2 = _
            rw [jup_at, if_pos ⟨rfl, rfl⟩]
          · show (bit (M 52 2) b = true ∧ _) ∨ (bit (M 52 2) b = false ∧ _)
            by_cases c : bit (M 52 2) b = true
            · rw [if_pos c] at h2
              exact Or.inl ⟨c, by omega⟩
            · rw [if_neg c] at h2
              exact Or.inr ⟨by simpa using c, by omega⟩
  · refine Pr.end (r := 0) (s := 0) (x := 1) (y := 1) h ?_ ?_ rfl rfl
    · unfold f_X11_let
      rw [h.isB hx1, bnd_some, if_neg h1, if_pos (by decide)]; rfl
    · unfold f_X12_let
      rw [h.isBM hx1 (jup M 0 0 1) rfl, bnd_some, if_neg h1, if_pos (by decide)]; rfl
theorem p_halt : jO_halt JR n := by
  intro x1 x2 hx1 hx2 M h
  have nb := h.nt
  have i2 : jw x2 = x2 := jw_of (by omega) (by omega)
  have c1 : jw 1 = 1 := by decide
  have c0 : jw 0 = 0 := by decide
  by_cases h1 : 0 ≤ x1 ∧ x1 < M 168 1
  · obtain ⟨b, b8, rfl⟩ := natOf (x := x1) (k := 8) (by omega) (by omega)
    obtain ⟨g1, g2, g3⟩ := h.halts b8 h1.2
    by_cases h2 : (if bit (M 52 4) b = true then (1 : Int) else 0) = x2
    · refine Pr.end (r := 0) (s := 0) (x := 7) (y := 7) h ?_ ?_ rfl rfl
      · unfold f_X11_halt
        rw [h.isT hx1, bnd_some, if_pos h1, if_neg (by decide), q_isIn g1 b8, bnd_some, jw01, i2, if_pos h2]
        rfl
      · unfold f_X12_halt f_X12_halt_L29
        rw [h.isTM hx1 (jup M 0 0 7) rfl, bnd_some, if_pos h1, if_neg (by decide), show f_X12_trainOf n (b : Int) 5 (jup M 0 0 7) = _ from q_trainOf (k := 5) b8 (by omega), bnd_some, show jup M 0 0 7 168 (8 + 6 * b + 5) = M 168 (13 + 6 * b) by rw [jup_cell (by omega), show 8 + 6 * b + 5 = 13 + 6 * b by omega]]
        by_cases c : M 168 (13 + 6 * b) = 1
        · rw [if_pos (g3.2 c)] at h2
          rw [c, if_pos rfl, if_pos (by omega)]
          rfl
        · rw [if_neg (fun g => c (g3.1 g))] at h2
          rw [g2.resolve_right c, if_neg (by decide), if_pos (by omega)]
          rfl
    · have ht := jtog g1 b8
      refine ⟨1, jup (jup M 52 4 (jxor (M 52 4) (jshl 1 (b : Int)))) 0 0 0, 1, jup (jup (jup (jup M 52 4 (jxor (M 52 4) (jshl 1 (b : Int)))) 0 0 0) 168 (13 + 6 * b) x2) 167 2 0, ?_, ?_, rfl, h.set (Or.inr (by omega)) (by omega) (by omega) ?_ ?_⟩
      · unfold f_X11_halt f_X1_turnHalt
        rw [h.isT hx1, bnd_some, if_pos h1, if_neg (by decide), q_isIn g1 b8, bnd_some, jw01, i2, if_neg h2]
        rfl
      · unfold f_X12_halt f_X12_halt_L29 f_X12_halt_L59
        have hM : ∀ q : Nat, jup (jup M 52 4 (jxor (M 52 4) (jshl 1 (b : Int)))) 0 0 0 168 q = M 168 q := fun q => rfl
        rw [h.isTM hx1 (jup (jup M 52 4 (jxor (M 52 4) (jshl 1 (b : Int)))) 0 0 0) rfl, bnd_some, if_pos h1, if_neg (by decide), show f_X12_trainOf n (b : Int) 5 (jup (jup M 52 4 (jxor (M 52 4) (jshl 1 (b : Int)))) 0 0 0) = _ from q_trainOf (k := 5) b8 (by omega), bnd_some, hM, show 8 + 6 * b + 5 = 13 + 6 * b by omega]
        have hrow : ∀ M', f_X12_trainRow n (b : Int) M' = some (8 + 6 * (b : Int), M') := fun M' => q_trainRow _
        by_cases c : M 168 (13 + 6 * b) = 1
        · rw [if_pos (g3.2 c)] at h2
          obtain rfl : x2 = 0 := by omega
          rw [c, if_pos rfl, if_neg (by decide), hrow, bnd_some, if_pos c0, chk_pos (jin_of (by omega) (by omega) (by omega)), jwn (by omega) (by omega), show ((8 + 6 * (b : Int) + 5).toNat) = 13 + 6 * b by omega]
          rfl
        · rw [if_neg (fun g => c (g3.1 g))] at h2
          obtain rfl : x2 = 1 := by omega
          rw [g2.resolve_right c, if_neg (by decide), if_neg (by decide), hrow, bnd_some, if_neg (by decide), chk_pos (jin_of (by omega) (by omega) (by omega)), jwn (by omega) (by omega), show ((8 + 6 * (b : Int) + 5).toNat) = 13 + 6 * b by omega]
          rfl
      · rw [blk_jup_row (fun j hj => by omega) (by decide)]
        exact RP.congr2 h.cur.1 (fun k hk => upA_ne (by omega)) (fun t k ht hk => upA_ne (by omega)) (fun b hb => ⟨upA_ne (by omega), upA_ne (by omega), upA_ne (by omega)⟩)
      · refine h.cur.2.1.halt b8 h1.2 (fun j k hj hjk => blk_jup hj (fun q => hjk ⟨by omega, q.2⟩)) ?_ ht ?_
        · show jup M 52 4 _ 52 4 = _
          rw [jup_at, if_pos ⟨rfl, rfl⟩]
        · show (bit (M 52 4) b = true ∧ _) ∨ (bit (M 52 4) b = false ∧ _)
          by_cases c : bit (M 52 4) b = true
          · rw [if_pos c] at h2
            exact Or.inl ⟨c, by omega⟩
          · rw [if_neg c] at h2
            exact Or.inr ⟨by simpa using c, by omega⟩
  · refine Pr.end (r := 0) (s := 0) (x := 1) (y := 1) h ?_ ?_ rfl rfl
    · unfold f_X11_halt
      rw [h.isT hx1, bnd_some, if_neg h1, if_pos (by decide)]; rfl
    · unfold f_X12_halt
      rw [h.isTM hx1 (jup M 0 0 1) rfl, bnd_some, if_neg h1, if_pos (by decide)]; rfl
end PSET7

section PSET6
variable {n : Nat} {M : JMem}
theorem q_isEatenC {th b : Nat} (h : S8 (M th 3)) (b8 : b < 8) : f_X1_isEaten n th (b : Int) M = some (if bit (M th 3) b = true then 1 else 0, M) := by
  unfold f_X1_isEaten
  rw [q_isIn h b8, bnd_some]
  by_cases c : bit (M th 3) b = true
  · rw [if_pos c]; exact chk_pos (by decide) _
  · rw [if_neg c]; exact chk_pos (by decide) _
/-- who is eaten, told by either -/
theorem JR.eat (h : JR M) {b : Nat} (b8 : b < 8) (hb : (b : Int) < M 168 2) : S8 (M 52 3) ∧ (M 168 (59 + 10 * b) = 0 ∨ M 168 (59 + 10 * b) = 1) ∧ (bit (M 52 3) b = true ↔ M 168 (59 + 10 * b) = 1) := by
  have hn := h.cur.2.1
  unfold RN at hn
  obtain ⟨q0, q1, q2, q3, ⟨a4, q4⟩, q5, -⟩ := hn
  refine ⟨a4, q5 b b8 hb, ?_⟩
  have := q4 b b8
  exact ⟨fun g => (this.1 g).2, fun g => this.2 ⟨hb, g⟩⟩
theorem JR.isE (h : JR M) {b : Nat} (b8 : b < 8) (hb : (b : Int) < M 168 2) : f_X1_isEaten n 52 (b : Int) M = some (if M 168 (59 + 10 * b) = 1 then 1 else 0, M) := by
  obtain ⟨g1, g2, g3⟩ := h.eat b8 hb
  rw [q_isEatenC g1 b8]
  by_cases c : M 168 (59 + 10 * b) = 1
  · rw [if_pos c, if_pos (g3.2 c)]
  · rw [if_neg c, if_neg (fun g => c (g3.1 g))]
theorem JR.isEM (h : JR M) {b : Nat} (b8 : b < 8) (hb : (b : Int) < M 168 2) (M' : JMem) (e : M' 168 = M 168) : f_X12_isEaten n (b : Int) M' = some (if M 168 (59 + 10 * b) = 1 then 1 else 0, M') := by
  obtain ⟨g1, g2, g3⟩ := h.eat b8 hb
  rw [q_isEatenM b8 (by rw [e]; exact g2), e]
theorem JR.tick (h : JR M) {b : Nat} (b8 : b < 8) (hb : (b : Int) < M 168 2) : M 53 b = M 168 (61 + 10 * b) ∧ S8 (M 168 (61 + 10 * b)) ∧ ∀ t : Nat, t < 8 → M 168 1 ≤ (t : Int) → bit (M 168 (61 + 10 * b)) t = false := by
  have hn := h.cur.2.1
  unfold RN at hn
  exact hn.2.2.2.2.2.2.2.2.1 b b8 hb
theorem jw01 (P : Prop) [Decidable P] : jw (if P then (1 : Int) else 0) = if P then 1 else 0 := by split <;> decide
theorem p_ticket : jO_ticket JR n := by
  intro x1 x2 x3 hx1 hx2 hx3 M h
  have nb := h.nb
  have nt := h.nt
  have i3 : jw x3 = x3 := jw_of (by omega) (by omega)
  by_cases h1 : 0 ≤ x1 ∧ x1 < M 168 2
  · by_cases h0 : 0 ≤ x2 ∧ x2 < M 168 1
    · obtain ⟨b, b8, rfl⟩ := natOf (x := x1) (k := 8) (by omega) (by omega)
      obtain ⟨o, o8, rfl⟩ := natOf (x := x2) (k := 8) (by omega) (by omega)
      obtain ⟨g1, g2, g4⟩ := h.tick b8 h1.2
      by_cases he : M 168 (59 + 10 * b) = 1
      · refine Pr.end (r := 0) (s := 0) (x := 7) (y := 7) h ?_ ?_ rfl rfl
        · unfold f_X11_ticket f_X11_ticket_L50
          rw [h.isB hx1, bnd_some, if_pos h1, if_neg (by decide), h.isT hx2, bnd_some, if_pos h0, if_neg (by decide), h.isE b8 h1.2, bnd_some, if_pos he, if_neg (by decide)]
          rfl
        · unfold f_X12_ticket f_X12_ticket_L45
          rw [h.isBM hx1 (jup M 0 0 7) rfl, bnd_some, if_pos h1, if_neg (by decide), h.isTM hx2 (jup M 0 0 7) rfl, bnd_some, if_pos h0, if_neg (by decide), h.isEM b8 h1.2 (jup M 0 0 7) rfl, bnd_some, if_pos he, if_neg (by decide)]
          rfl
      · by_cases h2 : (if bit (M 168 (61 + 10 * b)) o = true then (1 : Int) else 0) = x3
        · refine Pr.end (r := 0) (s := 0) (x := 7) (y := 7) h ?_ ?_ rfl rfl
          · unfold f_X11_ticket f_X11_ticket_L50
            rw [h.isB hx1, bnd_some, if_pos h1, if_neg (by decide), h.isT hx2, bnd_some, if_pos h0, if_neg (by decide), h.isE b8 h1.2, bnd_some, if_neg he, if_pos (by decide), chk_pos (jin_of (by omega) (by omega) (by omega)), jwb (by omega), show M (52 + 1) b = M 168 (61 + 10 * b) from g1, q_isIn g2 o8, bnd_some, jw01, i3, if_pos h2]
            rfl
          · unfold f_X12_ticket f_X12_ticket_L45
            rw [h.isBM hx1 (jup M 0 0 7) rfl, bnd_some, if_pos h1, if_neg (by decide), h.isTM hx2 (jup M 0 0 7) rfl, bnd_some, if_pos h0, if_neg (by decide), h.isEM b8 h1.2 (jup M 0 0 7) rfl, bnd_some, if_neg he, if_pos (by decide), show f_X12_beastOf n (b : Int) 5 (jup M 0 0 7) = _ from q_beastOf (k := 5) b8 (by omega), bnd_some, show jup M 0 0 7 168 (56 + 10 * b + 5) = M 168 (61 + 10 * b) by rw [jup_cell (by omega), show 56 + 10 * b + 5 = 61 + 10 * b by omega], q_isInM g2 o8, bnd_some, jw01, i3, if_pos h2]
            rfl
        · have ht := jtog g2 o8
          refine ⟨1, jup (jup M 53 b (jxor (M 168 (61 + 10 * b)) (jshl 1 (o : Int)))) 0 0 0, 1, jup (jup (jup (jup M 53 b (jxor (M 168 (61 + 10 * b)) (jshl 1 (o : Int)))) 0 0 0) 168 (61 + 10 * b) (jxor (M 168 (61 + 10 * b)) (jshl 1 (o : Int)))) 167 2 0, ?_, ?_, rfl, h.set (Or.inr (by omega)) (by omega) (by omega) ?_ ?_⟩
          · unfold f_X11_ticket f_X1_turnTicket
            rw [h.isB hx1, bnd_some, if_pos h1, if_neg (by decide), h.isT hx2, bnd_some, if_pos h0, if_neg (by decide), h.isE b8 h1.2, bnd_some, if_neg he, if_pos (by decide), chk_pos (jin_of (by omega) (by omega) (by omega)), jwb (by omega), show M (52 + 1) b = M 168 (61 + 10 * b) from g1, q_isIn g2 o8, bnd_some, jw01, i3, if_neg h2, chk_pos (jin_of (by omega) (by omega) (by omega)), chk_pos (jin_of (by omega) (by omega) (by omega)), show M (52 + 1) b = M 168 (61 + 10 * b) from g1]
            rfl
          · unfold f_X12_ticket
            have hM : ∀ q : Nat, jup (jup M 53 b (jxor (M 168 (61 + 10 * b)) (jshl 1 (o : Int)))) 0 0 0 168 q = M 168 q := fun q => rfl
            rw [h.isBM hx1 (jup (jup M 53 b (jxor (M 168 (61 + 10 * b)) (jshl 1 (o : Int)))) 0 0 0) rfl, bnd_some, if_pos h1, if_neg (by decide), h.isTM hx2 (jup (jup M 53 b (jxor (M 168 (61 + 10 * b)) (jshl 1 (o : Int)))) 0 0 0) rfl, bnd_some, if_pos h0, if_neg (by decide), h.isEM b8 h1.2 (jup (jup M 53 b (jxor (M 168 (61 + 10 * b)) (jshl 1 (o : Int)))) 0 0 0) rfl, bnd_some, if_neg he, if_pos (by decide), show f_X12_beastOf n (b : Int) 5 (jup (jup M 53 b (jxor (M 168 (61 + 10 * b)) (jshl 1 (o : Int)))) 0 0 0) = _ from q_beastOf (k := 5) b8 (by omega), bnd_some, hM, show 56 + 10 * b + 5 = 61 + 10 * b by omega, q_isInM g2 o8, bnd_some, jw01, i3, if_neg h2, q_beastRow, bnd_some, chk_pos (jin_of (by omega) (by omega) (by omega)), chk_pos (jin_of (by omega) (by omega) (by omega)), jwn (by omega) (by omega), show ((56 + 10 * (b : Int) + 5).toNat) = 61 + 10 * b by omega, hM]
            rfl
          · rw [blk_jup_row (fun j hj => by omega) (by decide)]
            exact RP.congr2 h.cur.1 (fun k hk => upA_ne (by omega)) (fun t k ht hk => upA_ne (by omega)) (fun b hb => ⟨upA_ne (by omega), upA_ne (by omega), upA_ne (by omega)⟩)
          · refine h.cur.2.1.ticket b8 (fun j k hj hjk => blk_jup hj (fun q => hjk ⟨by omega, q.2⟩)) ?_ ⟨ht.1, fun o' o8' hl => ?_⟩
            · show jup M 53 b _ 53 b = _
              rw [jup_at, if_pos ⟨rfl, rfl⟩]
            · rw [ht.2 o' o8', g4 o' o8' hl, decide_eq_false (show ¬ o' = o by omega)]; rfl
    · refine Pr.end (r := 0) (s := 0) (x := 1) (y := 1) h ?_ ?_ rfl rfl
      · unfold f_X11_ticket f_X11_ticket_L16
        rw [h.isB hx1, bnd_some, if_pos h1, if_neg (by decide), h.isT hx2, bnd_some, if_neg h0, if_pos (by decide)]; rfl
      · unfold f_X12_ticket f_X12_ticket_L16
        rw [h.isBM hx1 (jup M 0 0 1) rfl, bnd_some, if_pos h1, if_neg (by decide), h.isTM hx2 (jup M 0 0 1) rfl, bnd_some, if_neg h0, if_pos (by decide)]; rfl
  · refine Pr.end (r := 0) (s := 0) (x := 1) (y := 1) h ?_ ?_ rfl rfl
    · unfold f_X11_ticket f_X11_ticket_L16
      rw [h.isB hx1, bnd_some, if_neg h1, if_pos (by decide)]; rfl
    · unfold f_X12_ticket f_X12_ticket_L16
      rw [h.isBM hx1 (jup M 0 0 1) rfl, bnd_some, if_neg h1, if_pos (by decide)]; rfl
end PSET6

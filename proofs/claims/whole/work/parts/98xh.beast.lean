section PBEAST
variable {n : Nat} {M X M0 X0 : JMem} {T : Nat → Int} {N s s0 k b : Nat} {w : List Nat} {v : Int} {a a' : Nat → Int}
/-! a beast's part -/
theorem s_there2 (hn : 2000 ≤ n) (hS : TXT T N M X) (h : TL T N (M 9) (X 167) s k w v) {c : Nat} (hc : c < 27) : (f_X6_isAt n (c : Int) M = some (1, M) ∧ ∀ M' : JMem, M' 9 = M 9 → M' 10 = M 10 → M' 11 = M 11 → ∃ (F' G' : Nat → Int) (s' k' : Nat) (w' : List Nat) (v' : Int), f_X6_advance n M' = some (0, jrow M' 9 F') ∧ f_X12_isThere n ((kp c : Nat) : Int) X = some (1, jrow X 167 G') ∧ TL T N F' G' s' k' w' v' ∧ s < s' ∧ Fr9 (M 9) F' ∧ FrX (X 167) G') ∨
    (f_X6_isAt n (c : Int) M = some (0, M) ∧ f_X12_isThere n ((kp c : Nat) : Int) X = some (0, X)) := by
  have hi := q_inWords (n := n) hn hS h
  by_cases c1 : k = 1 ∧ v = (c : Int)
  · refine Or.inl ⟨by rw [c_isAt h hc, if_pos c1], fun M' m9 m10 m11 => ?_⟩
    obtain ⟨F', G', s', k', w', v', a1, a2, a3, a4, a5, a6, a7⟩ := s_adv (n := n) (M := M') hn (hS.mv m10 m11 rfl) (by rw [m9]; exact h) (by omega)
    rw [m9] at a6
    refine ⟨F', G', s', k', w', v', a1, ?_, a3, a5 (by omega), a6, a7⟩
    unfold f_X12_isThere
    rw [hi, bnd_some, if_pos ((inW_eq h hc).2 c1), a2, bnd_some]
  · refine Or.inr ⟨by rw [c_isAt h hc, if_neg c1], ?_⟩
    unfold f_X12_isThere
    rw [hi, bnd_some, if_neg (fun z => c1 ((inW_eq h hc).1 z))]
def tb3 (n : Nat) (y : Int) (M : JMem) : Option (Int × JMem) := bnd (f_X6_isAt n 11 M) fun r13 M14 => if jw r13 = 0 then (f_X2_takeBeast_L114 n M14) else (bnd (f_X1_turnOut n 25 y M14) fun _ M16 => bnd (f_X6_advance n M16) fun _ M18 => f_X2_takeBeast_L114 n M18)
def tb2 (n : Nat) (y : Int) (M : JMem) : Option (Int × JMem) := bnd (f_X2_optional n 10 0 16 8 M) fun r9 M10 => chk (jin y 8) <| letm (jup M10 (13 + 10) (jw y).toNat r9) fun M11 => chk (jin y 8) <| letm (jup M11 (13 + 11) (jw y).toNat 0) fun M12 => tb3 n y M12
def tb1 (n : Nat) (y : Int) (M : JMem) : Option (Int × JMem) := bnd (f_X2_optional n 9 1 9 1 M) fun r6 M7 => chk (jin y 8) <| letm (jup M7 (13 + 9) (jw y).toNat r6) fun M8 => tb2 n y M8
def rb1 (n : Nat) (y : Int) (M : JMem) : Option (Int × JMem) := chk (jin y 3160) <| letm (jup M 168 (jw y).toNat 1) fun M4 => chk (jin (y + 1) 3160) <| letm (jup M4 168 (jw (y + 1)).toNat 8) fun M5 => chk (jin (y + 9) 3160) <| letm (jup M5 168 (jw (y + 9)).toNat (-1)) fun M6 => bnd (f_X12_isThere n 11 M6) fun r7 M8 => if jw r7 = 0 then (f_X12_aBeast_L77 n y M8) else (bnd (f_X12_number n y 1 9 M8) fun r9 M10 => if jw r9 = 0 then (some (0, M10)) else (f_X12_aBeast_L77 n y M10))
theorem j_tb3 (h : JT M0 M) (h2 : M 13 2 < 8) : ∃ M', tb3 n (b : Int) M = some (0, M') ∧ M' 9 = M 9 ∧ JT M0 M' := by
  unfold tb3 f_X2_takeBeast_L114
  rw [j_isAt h.1, bnd_some, if_pos (by decide), letm_ap]
  exact ⟨_, rfl, by rw [jup_cell (by omega)], ⟨by rw [jup_cell (by omega)]; exact h.1, h.2.1.mv (fun c hc => jup_cell (by omega)), by rw [jup_if, if_pos rfl]; have := h.2.2.1; omega, by rw [jup_if, if_pos rfl]; omega, by rw [jup_cell (by omega)]; exact h.2.2.2.2⟩⟩
theorem j_tb2 (h : JT M0 M) (h2 : M 13 2 < 8) (hb : b < 8) : ∃ M', tb2 n (b : Int) M = some (0, M') ∧ M' 9 = M 9 ∧ JT M0 M' := by
  unfold tb2
  rw [j_optional h.1, bnd_some, chk_pos (jinN hb (by omega)), jwT (by omega), letm_ap, chk_pos (jinN hb (by omega)), letm_ap]
  obtain ⟨M', r1, r2, r3⟩ := j_tb3 (n := n) (b := b) ((h.up (c := 13 + 10) (i := b) (x := 8) (by omega) (by omega) (by omega)).up (c := 13 + 11) (i := b) (x := 0) (by omega) (by omega) (by omega)) (by rw [jup_cell (by omega), jup_cell (by omega)]; exact h2)
  exact ⟨M', r1, by rw [r2, jup_cell (by omega), jup_cell (by omega)], r3⟩
theorem j_tb1 (h : JT M0 M) (h2 : M 13 2 < 8) (hb : b < 8) : ∃ M', tb1 n (b : Int) M = some (0, M') ∧ M' 9 = M 9 ∧ JT M0 M' := by
  unfold tb1
  rw [j_optional h.1, bnd_some, chk_pos (jinN hb (by omega)), jwT (by omega), letm_ap]
  obtain ⟨M', r1, r2, r3⟩ := j_tb2 (n := n) (b := b) (h.up (c := 13 + 9) (i := b) (x := 1) (by omega) (by omega) (by omega)) (by rw [jup_cell (by omega)]; exact h2) hb
  exact ⟨M', r1, by rw [r2, jup_cell (by omega)], r3⟩
theorem MS.cnt2 {o x : Int} (h : MS T N M0 X0 M X s k w v a (upO a 2)) (hb : b < 8) (ea : a 2 = (b : Int)) (h0 : a 0 ≠ 0) (e1 : M 22 b = X 168 (2072 + 10 * b) ∧ 1 ≤ M 22 b ∧ M 22 b ≤ 9) (e2 : M 23 b = X 168 (2073 + 10 * b) ∧ 0 ≤ M 23 b ∧ M 23 b ≤ 16) (e3 : M 24 b = 0) (ho : o = 0 ∨ o = 1) (hx : S8 x ∧ ∀ c : Nat, c < 8 → (bit x c = true ↔ (bit (M 25 2) c = true ∧ c ≠ b) ∨ (c = b ∧ o = 1))) :
    MS T N M0 X0 (jup (jup M 25 2 x) 13 2 ((b : Int) + 1)) (jup (jup X 168 (2074 + 10 * b) o) 168 2018 ((b : Int) + 1)) s k w v (upO a 2) (upO a 2) := by
  obtain ⟨q1, q2, q3, q4, q5, q6, q7⟩ := h.2.2.1
  have z0 : slot X 2016 0 = a 0 := (q1 0 (by omega)).2
  have z2 : slot X 2016 2 = a 2 := (q1 2 (by omega)).2
  have a0 := q2 0 (by omega)
  rw [if_pos rfl] at a0
  have es : slot (jup (jup X 168 (2074 + 10 * b) o) 168 2018 ((b : Int) + 1)) 2016 = upA (upA (slot X 2016) (58 + 10 * b) o) 2 ((b : Int) + 1) := by
    rw [show 2018 = 2016 + 2 from rfl, slot_up, show 2074 + 10 * b = 2016 + (58 + 10 * b) by omega, slot_up]
  have eA : ∀ i : Nat, i ≠ 2 → i ≠ 58 + 10 * b → upA (upA (slot X 2016) (58 + 10 * b) o) 2 ((b : Int) + 1) i = slot X 2016 i := fun i i1 i2 => by rw [upA_ne i1, upA_ne i2]
  have eo : upA (upA (slot X 2016) (58 + 10 * b) o) 2 ((b : Int) + 1) (58 + 10 * b) = o := by rw [upA_ne (by omega), upA_same]
  have e22 : upA (upA (slot X 2016) (58 + 10 * b) o) 2 ((b : Int) + 1) 2 = (b : Int) + 1 := upA_same _ _ _
  have pb : ∀ j i : Nat, j < 12 → ¬ (j = 0 ∧ i = 2) → blk (jup (jup M 25 2 x) 13 2 ((b : Int) + 1)) 13 12 j i = blk M 13 12 j i := fun j i hj hji => by
    rw [blk_jup hj (fun z => hji ⟨by omega, z.2⟩), blk_jup hj (fun z => by omega)]
  obtain ⟨f1, f2, f3, f4, f5, f6, f7, f8, f9, f10, f11⟩ := q5
  have fb := f11 b hb (by rw [z2, ea]; omega)
  refine h.mv (fun c hc => by rw [jup_cell (by omega), jup_cell (by omega)]) (fun c c1 c2 c3 => by rw [jup_cell c2, jup_cell c2]) (fun j hj => by rw [jup_cell (by omega), jup_cell (by omega)]) (fun i hi => by rw [jup_if, if_neg (by omega), jup_if, if_neg (by omega)]) (fun j hj => by rw [jup_cell (by omega), jup_cell (by omega)]) ⟨fun u hu => ?_, upO_am q2 (by omega) (by show a 2 < 8; omega), ?_, ?_, ?_, ?_, ?_⟩
  · rw [jup_if, jup_if]
    unfold upO
    by_cases z : u = 2
    · subst z
      rw [if_pos rfl, if_pos rfl, if_pos rfl, ea]; exact ⟨rfl, rfl⟩
    · rw [if_neg z, if_neg (show ¬ 2016 + u = 2018 by omega), if_neg z, jup_cell (by omega), jup_if, if_neg (by omega)]; exact q1 u hu
  · rw [es]
    unfold RP at q3 ⊢
    obtain ⟨r0, r1, r2, r3, r4, r5, r6⟩ := q3
    rw [pb 0 0 (by omega) (by omega), pb 0 1 (by omega) (by omega), pb 0 3 (by omega) (by omega), e22, eA 0 (by omega) (by omega), eA 1 (by omega) (by omega), eA 3 (by omega) (by omega), show blk (jup (jup M 25 2 x) 13 2 ((b : Int) + 1)) 13 12 0 2 = (b : Int) + 1 by rw [blk_at (by omega), jup_if, if_pos rfl]]
    refine ⟨r0, r1, ⟨rfl, by omega, by omega⟩, r3, fun _ => by omega, fun t t8 ht => ?_, fun c c8 hc => ?_⟩
    · rw [pb 4 t (by omega) (by omega), pb 5 t (by omega) (by omega), pb 6 t (by omega) (by omega), pb 7 t (by omega) (by omega), pb 8 t (by omega) (by omega), eA (8 + 6 * t) (by omega) (by omega), eA (9 + 6 * t) (by omega) (by omega), eA (10 + 6 * t) (by omega) (by omega), eA (11 + 6 * t) (by omega) (by omega), eA (12 + 6 * t) (by omega) (by omega)]
      exact r5 t t8 ht
    · rw [pb 9 c (by omega) (by omega), pb 10 c (by omega) (by omega), pb 11 c (by omega) (by omega), eA (56 + 10 * c) (by omega) (by omega), eA (57 + 10 * c) (by omega) (by omega), eA (62 + 10 * c) (by omega) (by omega)]
      by_cases e : c = b
      · subst e
        have s0 : slot X 2016 (56 + 10 * c) = X 168 (2072 + 10 * c) := by show X 168 (2016 + (56 + 10 * c)) = _; congr 1; omega
        have s1 : slot X 2016 (57 + 10 * c) = X 168 (2073 + 10 * c) := by show X 168 (2016 + (57 + 10 * c)) = _; congr 1; omega
        have p9 : blk M 13 12 9 c = M 22 c := rfl
        have p10 : blk M 13 12 10 c = M 23 c := rfl
        have p11 : blk M 13 12 11 c = M 24 c := rfl
        rw [s0, s1, p9, p10, p11, ← e1.1, ← e2.1, e3, fb.2.2.2.2.1]
        exact ⟨⟨rfl, e1.2⟩, ⟨rfl, e2.2⟩, rfl, S8_0, bit0 _, fun o _ _ => bit0 _⟩
      · obtain ⟨g1, g2, g3, g4, g5, g6⟩ := r6 c c8 (by omega)
        exact ⟨g1, g2, g3, g4, g5, fun o o8 ho => g6 o o8 (by omega)⟩
  · exact q4.cg2 (pb 0 4 (by omega) (by omega)) (fun j q j1 j2 => pb j q (by omega) (by omega)) (fun j => by rw [jup_cell (by omega), jup_cell (by omega)])
  · rw [es]
    unfold RQ
    have m25 : ∀ j : Nat, j ≠ 2 → jup (jup M 25 2 x) 13 2 ((b : Int) + 1) 25 j = M 25 j := fun j hj => by rw [jup_cell (by omega), jup_if, if_neg hj]
    rw [m25 0 (by omega), m25 3 (by omega), m25 4 (by omega), show jup (jup M 25 2 x) 13 2 ((b : Int) + 1) 25 2 = x by rw [jup_cell (by omega), jup_if, if_pos rfl], show jup (jup M 25 2 x) 13 2 ((b : Int) + 1) 26 = M 26 by rw [jup_cell (by omega), jup_cell (by omega)], show jup (jup M 25 2 x) 13 2 ((b : Int) + 1) 27 = M 27 by rw [jup_cell (by omega), jup_cell (by omega)], e22, eA 4 (by omega) (by omega), eA 5 (by omega) (by omega), eA 6 (by omega) (by omega), eA 1 (by omega) (by omega)]
    refine ⟨f1, f2, f3, f4, f5, f6, ⟨hx.1, fun c c8 => ?_⟩, fun t t8 => ?_, f9, fun c c8 hc => ?_, fun c c8 hc => ?_⟩
    · rw [hx.2 c c8, f7.2 c c8]
      by_cases e : c = b
      · subst e
        rw [eo]
        constructor
        · rintro (z | z)
          · exact absurd rfl z.2
          · exact ⟨by omega, z.2⟩
        · intro z
          exact Or.inr ⟨rfl, z.2⟩
      · rw [eA (58 + 10 * c) (by omega) (by omega)]
        constructor
        · rintro (z | z)
          · exact ⟨by omega, z.1.2⟩
          · exact absurd z.1 e
        · intro z
          exact Or.inl ⟨⟨by omega, z.2⟩, e⟩
    · rw [eA (13 + 6 * t) (by omega) (by omega)]; exact f8 t t8
    · rw [eA (59 + 10 * c) (by omega) (by omega), eA (60 + 10 * c) (by omega) (by omega), eA (61 + 10 * c) (by omega) (by omega), eA (63 + 10 * c) (by omega) (by omega)]
      by_cases e : c = b
      · subst e
        rw [eo, fb.1, fb.2.2.2.1]
        exact ⟨ho, fb.2.1, fb.2.2.1, rfl, S8_0, fun t _ _ => bit0 _, fb.2.2.2.2.2⟩
      · rw [eA (58 + 10 * c) (by omega) (by omega)]
        exact f10 c c8 (by omega)
    · rw [eA (59 + 10 * c) (by omega) (by omega), eA (60 + 10 * c) (by omega) (by omega), eA (61 + 10 * c) (by omega) (by omega), eA (62 + 10 * c) (by omega) (by omega), eA (63 + 10 * c) (by omega) (by omega)]
      exact f11 c c8 (by omega)
  · rw [jup_cell (by omega), jup_cell (by omega), jup_cell (by omega), jup_cell (by omega)]; exact q6
  · rw [jup_cell (by omega), jup_cell (by omega)]; exact q7
theorem e122 {y o x : Int} {q : Nat} (hq : q < 3160) (hq2 : q ≠ 2018) (hx : X 168 2018 = x) (hy : y = (q : Int)) : f_X12_aBeast_L122 n y o X = some (1, jup (jup X 168 q o) 168 2018 (x + 1)) := by
  subst hy
  unfold f_X12_aBeast_L122
  rw [chk_pos (jinN hq (by omega)), jwT (by omega), letm_ap, chk_pos (by decide), chk_pos (by decide), show (jw 2018).toNat = 2018 by decide, letm_ap, jup_if, if_neg (Ne.symm hq2), hx]
theorem be3 (hn : 2000 ≤ n) (h : MS T N M0 X0 M X s k w v a (upO a 2)) (hs : s0 < s) (hb : b < 8) (ea : a 2 = (b : Int)) (h0 : a 0 ≠ 0) (e1 : M 22 b = X 168 (2072 + 10 * b) ∧ 1 ≤ M 22 b ∧ M 22 b ≤ 9) (e2 : M 23 b = X 168 (2073 + 10 * b) ∧ 0 ≤ M 23 b ∧ M 23 b ≤ 16) (e3 : M 24 b = 0) : PO T N M0 X0 s0 (tb3 n (b : Int) M) (f_X12_aBeast_L101 n ((2072 + 10 * b : Nat) : Int) X) := by
  have e28 : ((2072 + 10 * b : Nat) : Int) + 2 = ((2074 + 10 * b : Nat) : Int) := by omega
  obtain ⟨q1, q2, q3, q4, q5, q6, q7⟩ := h.2.2.1
  have m2 : M 13 2 = (b : Int) := (q1 2 (by omega)).1.trans ea
  have x2 : X 168 2018 = (b : Int) := (q1 2 (by omega)).2.trans ea
  have z2 : slot X 2016 2 = a 2 := (q1 2 (by omega)).2
  have f7 := q5.2.2.2.2.2.2.1
  have nb : ¬ bit (M 25 2) b = true := fun z => by have := ((f7.2 b hb).1 z).1; omega
  unfold tb3 f_X12_aBeast_L101
  rw [e28]
  rcases s_there2 (n := n) (c := 11) hn h.1 h.2.1 (by omega) with ⟨c1, c2⟩ | ⟨c1, c2⟩
  · obtain ⟨F', G', s', k', w', v', d1, d2, d3, d4, d5, d6⟩ := c2 (jup M 25 2 (jxor (M 25 2) (jshl 1 (b : Int)))) (by rw [jup_cell (by omega)]) (by rw [jup_cell (by omega)]) (by rw [jup_cell (by omega)])
    unfold f_X1_turnOut f_X2_takeBeast_L114
    rw [show f_X6_isAt n 11 M = _ from c1, bnd_some, if_neg (by decide), letm_ap, bnd_some, d1, bnd_some, letm_ap, show f_X12_isThere n 13 X = _ from d2, bnd_some, if_neg (by decide), e122 (q := 2074 + 10 * b) (x := (b : Int)) (by omega) (by omega) (by rw [jrow_ne _ (by omega)]; exact x2) rfl, row_comm (a := 9) (b := 25) (by omega), show jup (jrow M 9 F') 25 2 (jxor (M 25 2) (jshl 1 (b : Int))) 13 2 = (b : Int) by rw [jup_cell (by omega), jrow_ne _ (by omega)]; exact m2]
    have h1 := h.row d3 d5 d6
    have hj := jtog f7.1 hb
    refine Or.inl ⟨_, _, s', k', w', v', _, rfl, rfl, h1.cnt2 hb ea h0 ?_ ?_ ?_ (Or.inr rfl) ⟨hj.1, fun c c8 => ?_⟩, by omega⟩
    · rw [jrow_ne _ (by omega), jrow_ne _ (by omega)]; exact e1
    · rw [jrow_ne _ (by omega), jrow_ne _ (by omega)]; exact e2
    · rw [jrow_ne _ (by omega)]; exact e3
    · rw [hj.2 c c8, jrow_ne _ (by omega)]
      by_cases e : c = b
      · subst e
        simp [nb]
      · simp [e]
  · unfold f_X2_takeBeast_L114
    rw [show f_X6_isAt n 11 M = _ from c1, bnd_some, if_pos (by decide), letm_ap, show f_X12_isThere n 13 X = _ from c2, bnd_some, if_pos (by decide), e122 (q := 2074 + 10 * b) (x := (b : Int)) (by omega) (by omega) x2 rfl, m2]
    have h1 := h.cnt2 (o := 0) (x := M 25 2) hb ea h0 e1 e2 e3 (Or.inl rfl) ⟨f7.1, fun c c8 => by
      by_cases e : c = b
      · subst e
        simp [nb]
      · simp [e]⟩
    rw [jup_idv] at h1
    exact Or.inl ⟨_, _, s, k, w, v, _, rfl, rfl, h1, hs⟩
theorem be2 (hn : 2000 ≤ n) (h : MS T N M0 X0 M X s k w v a (upO a 2)) (hs : s0 < s) (hb : b < 8) (ea : a 2 = (b : Int)) (h0 : a 0 ≠ 0) (e1 : M 22 b = X 168 (2072 + 10 * b) ∧ 1 ≤ M 22 b ∧ M 22 b ≤ 9) (e2 : X 168 (2073 + 10 * b) = 8) : PO T N M0 X0 s0 (tb2 n (b : Int) M) (f_X12_aBeast_L77 n ((2072 + 10 * b : Nat) : Int) X) := by
  have e28 : ((2072 + 10 * b : Nat) : Int) + 1 = ((2073 + 10 * b : Nat) : Int) := by omega
  have fq : freeQ a (57 + 10 * b) := Or.inr (Or.inr ⟨b, hb, by omega, by omega⟩)
  have m2 : M 13 2 = (b : Int) := (h.2.2.1.1 2 (by omega)).1.trans ea
  unfold tb2 f_X12_aBeast_L77
  rw [e28]
  rcases s_optional (n := n) (c := 10) (to := 2073 + 10 * b) (lo := 0) (hi := 16) (d := 8) hn h.1 h.2.1 (by omega) (by omega) (by omega) (by omega) with ⟨c1, c2⟩ | ⟨x, G1, x1, x2, c2, F', G', s', k', w', v', c3, c4, c5, c6, c7, c8⟩ | ⟨G1, c2, F', G', c3, c4, c5, c6, c7⟩
  · rw [show f_X2_optional n 10 0 16 8 M = _ from c1, bnd_some, show f_X12_isThere n 12 X = _ from c2, bnd_some, if_pos (by decide), chk_pos (jinN hb (by omega)), jwT (a := b) (by omega), letm_ap, chk_pos (jinN hb (by omega)), letm_ap]
    refine be3 hn ((h.freeM (c := 23) (i := b) (x := 8) (Or.inr (by omega))).freeM (c := 24) (i := b) (x := 0) (Or.inr (by omega))) hs hb ea h0 ?_ ?_ ?_
    · rw [jup_cell (by omega), jup_cell (by omega)]; exact e1
    · rw [jup_cell (by omega), jup_if, if_pos rfl, e2]; omega
    · rw [jup_if, if_pos rfl]
  · rw [show f_X2_optional n 10 0 16 8 M = _ from c3, bnd_some, show f_X12_isThere n 12 X = _ from c2, bnd_some, if_neg (by decide), c4, bnd_some, if_neg (by decide), chk_pos (jinN hb (by omega)), jwT (a := b) (by omega), letm_ap, chk_pos (jinN hb (by omega)), letm_ap, row_comm (a := 167) (b := 168) (by omega)]
    have h2 := h.row c5 c7 c8
    have h3 : MS T N M0 X0 (jup (jup (jrow M 9 F') 23 b x) 24 b 0) (jup (jrow X 167 G') 168 (2073 + 10 * b) x) s' k' w' v' a (upO a 2) := by
      have := ((h2.freeM (c := 23) (i := b) (x := x) (Or.inr (by omega))).freeM (c := 24) (i := b) (x := 0) (Or.inr (by omega))).freeX (y := x) fq
      rw [show 2016 + (57 + 10 * b) = 2073 + 10 * b by omega] at this
      exact this
    refine be3 hn h3 (by omega) hb ea h0 ?_ ?_ ?_
    · rw [jup_cell (by omega), jup_cell (by omega), jrow_ne _ (by omega), jup_if, if_neg (by omega), jrow_ne _ (by omega)]; exact e1
    · rw [jup_cell (by omega), jup_if, if_pos rfl, jup_if, if_pos rfl]; omega
    · rw [jup_if, if_pos rfl]
  · have hf := h.fl c5 c6 c7
    rw [show f_X2_optional n 10 0 16 8 M = _ from c3, bnd_some, show f_X12_isThere n 12 X = _ from c2, bnd_some, if_neg (by decide), c4, bnd_some, if_pos (by decide), chk_pos (jinN hb (by omega)), jwT (a := b) (by omega), letm_ap, chk_pos (jinN hb (by omega)), letm_ap]
    obtain ⟨M', r1, r2, r3⟩ := j_tb3 (n := n) (b := b) ((hf.jt.up (c := 13 + 10) (i := b) (x := -1) (by omega) (by omega) (by omega)).up (c := 13 + 11) (i := b) (x := 0) (by omega) (by omega) (by omega)) (by rw [jup_cell (by omega), jup_cell (by omega), jrow_ne _ (by omega), m2]; omega)
    exact po_j hf ⟨M', r1, by rw [r2, jup_cell (by omega), jup_cell (by omega)], r3⟩ rfl
theorem be1 (hn : 2000 ≤ n) (h : MS T N M0 X0 M X s k w v a (upO a 2)) (hs : s0 < s) (hb : b < 8) (ea : a 2 = (b : Int)) (h0 : a 0 ≠ 0) : PO T N M0 X0 s0 (tb1 n (b : Int) M) (rb1 n ((2072 + 10 * b : Nat) : Int) X) := by
  have e21 : ((2072 + 10 * b : Nat) : Int) + 1 = ((2073 + 10 * b : Nat) : Int) := by omega
  have e29 : ((2072 + 10 * b : Nat) : Int) + 9 = ((2081 + 10 * b : Nat) : Int) := by omega
  have f0 : freeQ a (56 + 10 * b) := Or.inr (Or.inr ⟨b, hb, by omega, by omega⟩)
  have f1 : freeQ a (57 + 10 * b) := Or.inr (Or.inr ⟨b, hb, by omega, by omega⟩)
  have f9 : freeQ a (65 + 10 * b) := Or.inr (Or.inr ⟨b, hb, by omega, by omega⟩)
  have m2 : M 13 2 = (b : Int) := (h.2.2.1.1 2 (by omega)).1.trans ea
  have h1 : MS T N M0 X0 M (jup (jup (jup X 168 (2072 + 10 * b) 1) 168 (2073 + 10 * b) 8) 168 (2081 + 10 * b) (-1)) s k w v a (upO a 2) := by
    have := ((h.freeX (y := 1) f0).freeX (y := 8) f1).freeX (y := -1) f9
    rw [show 2016 + (56 + 10 * b) = 2072 + 10 * b by omega, show 2016 + (57 + 10 * b) = 2073 + 10 * b by omega, show 2016 + (65 + 10 * b) = 2081 + 10 * b by omega] at this
    exact this
  unfold tb1 rb1
  rw [e21, e29, chk_pos (jinN (a := 2072 + 10 * b) (by omega) (by omega)), jwT (a := 2072 + 10 * b) (by omega), letm_ap, chk_pos (jinN (a := 2073 + 10 * b) (by omega) (by omega)), jwT (a := 2073 + 10 * b) (by omega), letm_ap, chk_pos (jinN (a := 2081 + 10 * b) (by omega) (by omega)), jwT (a := 2081 + 10 * b) (by omega), letm_ap]
  rcases s_optional (n := n) (c := 9) (to := 2072 + 10 * b) (lo := 1) (hi := 9) (d := 1) hn h1.1 h1.2.1 (by omega) (by omega) (by omega) (by omega) with ⟨c1, c2⟩ | ⟨x, G1, x1, x2, c2, F', G', s', k', w', v', c3, c4, c5, c6, c7, c8⟩ | ⟨G1, c2, F', G', c3, c4, c5, c6, c7⟩
  · rw [show f_X2_optional n 9 1 9 1 M = _ from c1, bnd_some, show f_X12_isThere n 11 _ = _ from c2, bnd_some, if_pos (by decide), chk_pos (jinN hb (by omega)), jwT (a := b) (by omega), letm_ap]
    refine be2 hn (h1.freeM (c := 22) (i := b) (x := 1) (Or.inr (by omega))) hs hb ea h0 ?_ ?_
    · rw [jup_if, if_pos rfl, jup_if, if_neg (by omega), jup_if, if_neg (by omega), jup_if, if_pos rfl]; omega
    · rw [jup_if, if_neg (by omega), jup_if, if_pos rfl]
  · rw [show f_X2_optional n 9 1 9 1 M = _ from c3, bnd_some, show f_X12_isThere n 11 _ = _ from c2, bnd_some, if_neg (by decide), c4, bnd_some, if_neg (by decide), chk_pos (jinN hb (by omega)), jwT (a := b) (by omega), letm_ap, row_comm (a := 167) (b := 168) (by omega)]
    have h2 := h1.row c5 c7 c8
    have h3 : MS T N M0 X0 (jup (jrow M 9 F') 22 b x) (jup (jrow (jup (jup (jup X 168 (2072 + 10 * b) 1) 168 (2073 + 10 * b) 8) 168 (2081 + 10 * b) (-1)) 167 G') 168 (2072 + 10 * b) x) s' k' w' v' a (upO a 2) := by
      have := (h2.freeM (c := 22) (i := b) (x := x) (Or.inr (by omega))).freeX (y := x) f0
      rw [show 2016 + (56 + 10 * b) = 2072 + 10 * b by omega] at this
      exact this
    refine be2 hn h3 (by omega) hb ea h0 ?_ ?_
    · rw [jup_if, if_pos rfl, jup_if, if_pos rfl]; omega
    · rw [jup_if, if_neg (by omega), jrow_ne _ (by omega), jup_if, if_neg (by omega), jup_if, if_pos rfl]
  · have hf := h1.fl c5 c6 c7
    rw [show f_X2_optional n 9 1 9 1 M = _ from c3, bnd_some, show f_X12_isThere n 11 _ = _ from c2, bnd_some, if_neg (by decide), c4, bnd_some, if_pos (by decide), chk_pos (jinN hb (by omega)), jwT (a := b) (by omega), letm_ap]
    obtain ⟨M', r1, r2, r3⟩ := j_tb2 (n := n) (b := b) (hf.jt.up (c := 13 + 9) (i := b) (x := -1) (by omega) (by omega) (by omega)) (by rw [jup_cell (by omega), jrow_ne _ (by omega), m2]; omega) hb
    exact po_j hf ⟨M', r1, by rw [r2, jup_cell (by omega)], r3⟩ rfl
theorem p_beastT (hn : 2000 ≤ n) (h : MS T N M0 X0 M X s k w v a a) (hk : k = 1) : PO T N M0 X0 s (f_X2_takeBeast n M) (f_X12_aBeast n X) := by
  obtain ⟨q1, q2, q3, q4, q5, q6, q7⟩ := h.2.2.1
  have m0 : M 13 0 = a 0 := (q1 0 (by omega)).1
  have m1 : M 13 2 = a 2 := (q1 2 (by omega)).1
  have x1 : X 168 2018 = a 2 := (q1 2 (by omega)).2
  have a1 := q2 2 (by omega)
  rw [if_neg (by decide)] at a1
  obtain ⟨t, t9, et⟩ := natOf (x := a 2) (k := 9) a1.1 (by omega)
  have j17 : (jw 2018).toNat = 2018 := by decide
  unfold f_X2_takeBeast f_X12_aBeast
  rw [letv_ap, m1, chk_pos (by decide), letv_ap, j17, x1, et, show (2072 : Int) + 10 * (t : Int) = ((2072 + 10 * t : Nat) : Int) by omega]
  by_cases c : t < 8
  · obtain ⟨F1, b1, b2⟩ := s_new (n := n) (o := 2) hn h.1 h.2.1 hk (by omega) q4 q2 (fun u hu => (q1 u hu).2) m0 (by show a 2 < 8; omega)
    rw [if_pos (by rw [jwN (by omega), show jw 8 = 8 by decide]; omega), b1, bnd_some]
    rw [et] at b2
    rcases b2 with ⟨M2, X2, s', k', w', v', c1, c2, c3, c4, c5, c6, c7, c8, c9, c10, c11, c12⟩ | ⟨F', G', c1, c2, c3, c4, c5⟩
    · have hm := h.named c3 c5 c6 c7 c8 c9 c10 c12
      rw [show f_X2_passNewName n 8 (t : Int) (jrow M 9 F1) = _ from c1, bnd_some, show f_X12_newOne n 2 8 14 X = _ from c2, bnd_some, if_neg (by decide)]
      exact be1 hn hm c4 c et (c11 rfl)
    · have hf := h.fl c3 c4 c5
      rw [show f_X2_passNewName n 8 (t : Int) (jrow M 9 F1) = _ from c1, bnd_some, show f_X12_newOne n 2 8 14 X = _ from c2, bnd_some, if_pos (by decide)]
      exact po_j hf (j_tb1 (n := n) (b := t) hf.jt (by rw [jrow_ne _ (by omega), m1]; omega) c) rfl
  · obtain ⟨F', G', c1, c2, c3, c4, c5, -⟩ := s_fail (n := n) h.2.1 (why := 6) (by omega)
    have e8 : a 2 = 8 := by omega
    have en : f_X12_newOne n 2 8 14 X = some (0, jrow X 167 G') := by
      unfold f_X12_newOne
      rw [chk_pos (by decide), show (jw (2016 + 2)).toNat = 2018 by decide, x1, e8, if_pos rfl, fails_chk c2]
    rw [if_neg (by rw [jwN (by omega), show jw 8 = 8 by decide]; omega), c1, bnd_some, en, bnd_some, if_pos (by decide)]
    exact Or.inr ⟨_, _, rfl, rfl, h.fl c3 c4 c5⟩
end PBEAST

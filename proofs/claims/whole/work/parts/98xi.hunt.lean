section PHUNT2
variable {n : Nat} {M X M0 X0 : JMem} {T : Nat → Int} {N s s0 k i : Nat} {w : List Nat} {v : Int} {a a' : Nat → Int}
/-! hunts, tickets -/
theorem MS.hunt {y : Int} (h : MS T N M0 X0 M X s k w v a a) (hi : i < 8) (hia : (i : Int) < a 2) (hy : S8 y ∧ bit y i = false ∧ ∀ o : Nat, o < 8 → a 2 ≤ (o : Int) → bit y o = false) : MS T N M0 X0 (jup M 24 i y) (jup X 168 (2078 + 10 * i) y) s k w v a a := by
  obtain ⟨q1, q2, q3, q4, q5, q6, q7⟩ := h.2.2.1
  have z2 : slot X 2016 2 = a 2 := (q1 2 (by omega)).2
  have es : slot (jup X 168 (2078 + 10 * i) y) 2016 = upA (slot X 2016) (62 + 10 * i) y := by
    rw [show 2078 + 10 * i = 2016 + (62 + 10 * i) by omega, slot_up]
  refine h.mv (fun c hc => jup_cell (by omega)) (fun c c1 c2 c3 => jup_cell c2) (fun j hj => by rw [jup_cell (by omega)]) (fun e he => by rw [jup_if, if_neg (by omega)]) (fun j hj => by rw [jup_cell (by omega)]) ⟨fun u hu => ?_, q2, ?_, ?_, ?_, ?_, ?_⟩
  · rw [jup_cell (by omega), jup_if, if_neg (by omega)]; exact q1 u hu
  · rw [es]
    refine q3.hunt hi (fun j q hj hjq => blk_jup hj (fun z => hjq ⟨by omega, z.2⟩)) ?_ ⟨hy.1, hy.2.1, fun o o8 ho => hy.2.2 o o8 (by omega)⟩
    rw [blk_at (by omega), jup_if, if_pos rfl]
  · exact q4.cg2 (blk_jup (by omega) (fun z => by omega)) (fun j q j1 j2 => blk_jup (by omega) (fun z => by omega)) (fun j => by rw [jup_cell (by omega)])
  · rw [es]
    unfold RQ at q5 ⊢
    obtain ⟨f1, f2, f3, f4, f5, f6, f7, f8, f9, f10, f11⟩ := q5
    rw [jup_cell (by omega), jup_cell (by omega), jup_cell (by omega), upA_ne (show 4 ≠ 62 + 10 * i by omega), upA_ne (show 5 ≠ 62 + 10 * i by omega), upA_ne (show 6 ≠ 62 + 10 * i by omega), upA_ne (show 2 ≠ 62 + 10 * i by omega), upA_ne (show 1 ≠ 62 + 10 * i by omega)]
    refine ⟨f1, f2, f3, f4, f5, f6, ⟨f7.1, fun b b8 => ?_⟩, fun t t8 => ?_, f9, fun b b8 hb => ?_, fun b b8 hb => ?_⟩
    · rw [upA_ne (by omega)]; exact f7.2 b b8
    · rw [upA_ne (by omega)]; exact f8 t t8
    · rw [upA_ne (by omega), upA_ne (by omega), upA_ne (by omega), upA_ne (by omega), upA_ne (by omega)]; exact f10 b b8 hb
    · rw [upA_ne (by omega), upA_ne (by omega), upA_ne (by omega), upA_ne (by omega), upA_ne (by omega)]; exact f11 b b8 hb
  · rw [jup_cell (by omega), jup_cell (by omega)]; exact q6
  · rw [jup_cell (by omega)]; exact q7
theorem MS.tick {y : Int} (h : MS T N M0 X0 M X s k w v a a) (hi : i < 8) (hia : (i : Int) < a 2) (hy : S8 y ∧ ∀ t : Nat, t < 8 → a 1 ≤ (t : Int) → bit y t = false) : MS T N M0 X0 (jup M 26 i y) (jup X 168 (2077 + 10 * i) y) s k w v a a := by
  obtain ⟨q1, q2, q3, q4, q5, q6, q7⟩ := h.2.2.1
  have z2 : slot X 2016 2 = a 2 := (q1 2 (by omega)).2
  have z1 : slot X 2016 1 = a 1 := (q1 1 (by omega)).2
  have es : slot (jup X 168 (2077 + 10 * i) y) 2016 = upA (slot X 2016) (61 + 10 * i) y := by
    rw [show 2077 + 10 * i = 2016 + (61 + 10 * i) by omega, slot_up]
  refine h.mv (fun c hc => jup_cell (by omega)) (fun c c1 c2 c3 => jup_cell c2) (fun j hj => by rw [jup_cell (by omega)]) (fun e he => by rw [jup_if, if_neg (by omega)]) (fun j hj => by rw [jup_cell (by omega)]) ⟨fun u hu => ?_, q2, ?_, ?_, ?_, ?_, ?_⟩
  · rw [jup_cell (by omega), jup_if, if_neg (by omega)]; exact q1 u hu
  · rw [es, blk_jup_row (fun j hj => by omega) (by decide)]
    exact q3.congr2 (fun e he => upA_ne (by omega)) (fun t j ht hj => upA_ne (by omega)) (fun b hb => ⟨upA_ne (by omega), upA_ne (by omega), upA_ne (by omega)⟩)
  · exact q4.cg2 (blk_jup (by omega) (fun z => by omega)) (fun j q j1 j2 => blk_jup (by omega) (fun z => by omega)) (fun j => by rw [jup_cell (by omega)])
  · rw [es]
    unfold RQ at q5 ⊢
    obtain ⟨f1, f2, f3, f4, f5, f6, f7, f8, f9, f10, f11⟩ := q5
    rw [jup_cell (show 25 ≠ 26 by omega), jup_cell (show 27 ≠ 26 by omega), upA_ne (show 4 ≠ 61 + 10 * i by omega), upA_ne (show 5 ≠ 61 + 10 * i by omega), upA_ne (show 6 ≠ 61 + 10 * i by omega), upA_ne (show 2 ≠ 61 + 10 * i by omega), upA_ne (show 1 ≠ 61 + 10 * i by omega)]
    refine ⟨f1, f2, f3, f4, f5, f6, ⟨f7.1, fun b b8 => ?_⟩, fun t t8 => ?_, f9, fun b b8 hb => ?_, fun b b8 hb => ?_⟩
    · rw [upA_ne (by omega)]; exact f7.2 b b8
    · rw [upA_ne (by omega)]; exact f8 t t8
    · rw [upA_ne (show 58 + 10 * b ≠ 61 + 10 * i by omega), upA_ne (show 59 + 10 * b ≠ 61 + 10 * i by omega), upA_ne (show 60 + 10 * b ≠ 61 + 10 * i by omega), upA_ne (show 63 + 10 * b ≠ 61 + 10 * i by omega)]
      obtain ⟨g1, g2, g3, g4, g5, g6, g7⟩ := f10 b b8 hb
      by_cases e : b = i
      · subst e
        rw [jup_if, if_pos rfl, upA_same]
        exact ⟨g1, g2, g3, rfl, hy.1, fun t t8 ht => hy.2 t t8 (by omega), g7⟩
      · rw [jup_if, if_neg e, upA_ne (show 61 + 10 * b ≠ 61 + 10 * i by omega)]
        exact ⟨g1, g2, g3, g4, g5, g6, g7⟩
    · rw [jup_if, if_neg (by omega), upA_ne (show 59 + 10 * b ≠ 61 + 10 * i by omega), upA_ne (show 60 + 10 * b ≠ 61 + 10 * i by omega), upA_ne (show 61 + 10 * b ≠ 61 + 10 * i by omega), upA_ne (show 62 + 10 * b ≠ 61 + 10 * i by omega), upA_ne (show 63 + 10 * b ≠ 61 + 10 * i by omega)]
      exact f11 b b8 hb
  · rw [jup_cell (by omega), jup_cell (by omega)]; exact q6
  · rw [jup_cell (by omega)]; exact q7
theorem p_huntsT (hn : 2000 ≤ n) (h : MS T N M0 X0 M X s k w v a a) (hk : k = 1) : PO T N M0 X0 s (f_X2_takeHunts n M) (f_X12_aHunt n X) := by
  obtain ⟨F1, G1, s1, k1, w1, v1, b1, b2, b3, b4, b5, b6, b7⟩ := s_adv (n := n) hn h.1 h.2.1 (by omega)
  have h1 := h.row b3 b6 b7
  obtain ⟨q1, q2, q3, q4, q5, q6, q7⟩ := h1.2.2.1
  have a2 := q2 2 (by omega)
  rw [if_neg (by decide)] at a2
  have x18 : jrow X 167 G1 168 (jw 2018).toNat = a 2 := (q1 2 (by omega)).2
  have fq0 : freeQ a 496 := Or.inl (Or.inl rfl)
  have fq1 : freeQ a 497 := Or.inl (Or.inr rfl)
  unfold f_X2_takeHunts f_X12_aHunt
  rw [b1, bnd_some, letv_ap, b2, bnd_some]
  have enb : ∀ (x : Int) (X' : JMem), X' 168 2018 = a 2 → f_X12_newBeastTo n x X' = bnd (f_X12_oldOne n 102 (a 2) x X') fun r1 M2 => chk (jw r1 = 0 ∨ jw r1 = 1) (some (r1, M2)) := fun x X' hX' => by
    unfold f_X12_newBeastTo
    rw [chk_pos (by decide), show (jw 2018).toNat = 2018 by decide, hX']
  rw [enb 2512 _ (by rw [jrow_ne _ (by omega)]; exact (h.2.2.1.1 2 (by omega)).2)]
  rcases s_old2 (n := n) (th := 13) (off := 88) (o := 2) (to := 2512) hn h1.1 h1.2.1 (by omega) q4 q2 (by omega) (by omega) with ⟨j, d0, d1, -, -, jA⟩ | ⟨F2, G2, x, d1, d2, d3, d4, d5, -⟩
  · obtain ⟨F3, G3, s3, k3, w3, v3, g1, g2, g3, g4, g5, g6⟩ := jA (jrow M 9 F1) rfl rfl rfl
    have j8 : j < 8 := by omega
    have h2 : MS T N M0 X0 (jrow (jrow M 9 F1) 9 F3) (jrow (jup (jrow X 167 G1) 168 2512 (j : Int)) 167 G3) s3 k3 w3 v3 a a := (h1.freeX (y := (j : Int)) fq0).row g3 g5 (by rw [jup_cell (by omega)]; exact g6)
    rw [show f_X4_numberAt n 13 8 (jrow M 9 F1) = _ from d1, bnd_some, letv_ap, g1, bnd_some, show f_X12_oldOne n 102 (a 2) 2512 (jrow X 167 G1) = _ from g2, bnd_some, chk_pos (by decide), bnd_some, if_neg (by decide), chk_pos (by decide), show (jw 2512).toNat = 2512 by decide, show jrow (jup (jrow X 167 G1) 168 2512 (j : Int)) 167 G3 168 2512 = (j : Int) by rw [jrow_ne _ (by omega), jup_if, if_pos rfl], letv_ap, show (2072 : Int) + 10 * (j : Int) + 6 = ((2078 + 10 * j : Nat) : Int) by omega]
    generalize eM : jrow (jrow M 9 F1) 9 F3 = M2 at h2
    generalize eX : jrow (jup (jrow X 167 G1) 168 2512 (j : Int)) 167 G3 = X2 at h2
    have x12 : X2 168 2512 = (j : Int) := by rw [← eX, jrow_ne _ (by omega), jup_if, if_pos rfl]
    have ss : s < s3 := by omega
    obtain ⟨r1, r2, r3, r4, r5, r6, r7⟩ := h2.2.2.1
    have x18 : X2 168 2018 = a 2 := (r1 2 (by omega)).2
    have rj := r3.2.2.2.2.2.2 j j8 (by rw [show slot X2 2016 2 = a 2 from x18]; exact d0)
    have m24 : M2 24 j = X2 168 (2078 + 10 * j) := by
      have := rj.2.2.1
      have e : slot X2 2016 (62 + 10 * j) = X2 168 (2078 + 10 * j) := by show X2 168 (2016 + (62 + 10 * j)) = _; congr 1; omega
      rw [e] at this
      exact this
    have hS8 : S8 (M2 24 j) ∧ bit (M2 24 j) j = false ∧ ∀ o : Nat, o < 8 → a 2 ≤ (o : Int) → bit (M2 24 j) o = false := by
      have e : slot X2 2016 (62 + 10 * j) = X2 168 (2078 + 10 * j) := by show X2 168 (2016 + (62 + 10 * j)) = _; congr 1; omega
      have := rj.2.2.2
      rw [e, ← m24, show slot X2 2016 2 = a 2 from x18] at this
      exact this
    have e94 : f_X12_aHunt_L94 n 2512 ((2078 + 10 * j : Nat) : Int) X2 = bnd (bnd (f_X12_oldOne n 102 (a 2) 2513 X2) fun r1 M2 => chk (jw r1 = 0 ∨ jw r1 = 1) (some (r1, M2))) fun r1 M2 => if jw r1 = 0 then (some (0, M2)) else (chk (jin ((2078 + 10 * j : Nat) : Int) 3160) <| chk (jin (2512 + 1) 3160) <| chk (jin ((2078 + 10 * j : Nat) : Int) 3160) <| letm (jup M2 168 (jw ((2078 + 10 * j : Nat) : Int)).toNat (jor (M2 168 (jw ((2078 + 10 * j : Nat) : Int)).toNat) (jshl 1 (M2 168 (jw (2512 + 1)).toNat)))) fun M3 => some (1, M3)) := by
      unfold f_X12_aHunt_L94
      rw [show (2512 : Int) + 1 = 2513 by decide, enb 2513 X2 x18]
    have jm : ¬ jw (j : Int) = jw (-1) := by rw [jwm1, jwN (by omega)]; omega
    rcases s_old2 (n := n) (th := 13) (off := 88) (o := 2) (to := 2513) hn h2.1 h2.2.1 (by omega) r4 r2 (by omega) (by omega) with ⟨u, f0, f1, f3, f4, fA⟩ | ⟨F4, G4, x, f1, f2, f3, f4, f5, f6⟩
    · have u8 : u < 8 := by omega
      have um : ¬ jw (u : Int) = jw (-1) := by rw [jwm1, jwN (by omega)]; omega
      have jin8 : jin (j : Int) 8 := jinN j8 (by omega)
      rw [show f_X4_numberAt n 13 8 M2 = _ from f1, bnd_some, letv_ap, if_neg jm, if_neg um, f3, bnd_some, if_neg (show ¬ jw 1 = 0 by decide), chk_pos (show jin 2018 3160 by decide), show (jw 2018).toNat = 2018 by decide, x18, show f_X12_findHere n 102 (a 2) X2 = _ from f4, bnd_some, letv_ap, if_neg um, chk_pos (show jin 2512 3160 by decide), x12]
      -- a fault of the second name
      have bad : PO T N M0 X0 s (f_X2_takeHunts_L74 n (j : Int) (u : Int) M2) (f_X12_aHunt_L88 n X2) := by
        obtain ⟨F5, G5, c1, c2, c3, c4, c5, -⟩ := s_fail (n := n) h2.2.1 (why := 5) (by omega)
        have hf := h2.fl c3 c4 c5
        unfold f_X2_takeHunts_L74 f_X2_takeHunts_L82 f_X12_aHunt_L88
        rw [c1, bnd_some, fails_chk c2, chk_pos jin8, chk_pos jin8, jwT (by omega), letm_ap]
        have hj := hf.jt.up (c := 13 + 11) (i := j) (x := jor (jrow M2 9 F5 (13 + 11) j) (jshl 1 (u : Int))) (by omega) (by omega) (by omega)
        rw [j_adv hj.1, bnd_some]
        exact Or.inr ⟨_, _, rfl, rfl, hf.of (by rw [jup_cell (by omega)]) hj⟩
      by_cases eju : j = u
      · subst eju
        rw [if_pos rfl, if_pos rfl]
        exact bad
      · rw [if_neg (by rw [jwN (by omega), jwN (by omega)]; omega), if_neg (by rw [jwN (by omega), jwN (by omega)]; omega), chk_pos jin8, jwT (a := j) (by omega), show M2 (13 + 11) j = M2 24 j from rfl, q_isIn hS8.1 u8, bnd_some, chk_pos (jinN (by omega) (by omega)), jwT (a := 2078 + 10 * j) (by omega), ← m24, jbit hS8.1 u8]
        by_cases cb : bit (M2 24 j) u = true
        · rw [if_pos cb, if_neg (by decide), if_pos (by decide)]
          exact bad
        · obtain ⟨F5, G5, s5, k5, w5, v5, c1, c2, c3, c4, c5, c6⟩ := fA (jup M2 24 j (jor (M2 24 j) (jshl 1 (u : Int)))) (by rw [jup_cell (by omega)]) (by rw [jup_cell (by omega)]) (by rw [jup_cell (by omega)])
          have hset := jset hS8.1 u8
          rw [if_neg cb, if_pos (by decide), if_neg (by decide), e94, show f_X12_oldOne n 102 (a 2) 2513 X2 = _ from c2, bnd_some, chk_pos (by decide), bnd_some, if_neg (by decide), chk_pos (jinN (by omega) (by omega)), chk_pos (by decide), chk_pos (jinN (by omega) (by omega)), jwT (a := 2078 + 10 * j) (by omega), show (jw (2512 + 1)).toNat = 2513 by decide, letm_ap, show jrow (jup X2 168 2513 (u : Int)) 167 G5 168 (2078 + 10 * j) = M2 24 j by rw [jrow_ne _ (by omega), jup_if, if_neg (by omega)]; exact m24.symm, show jrow (jup X2 168 2513 (u : Int)) 167 G5 168 2513 = (u : Int) by rw [jrow_ne _ (by omega), jup_if, if_pos rfl]]
          unfold f_X2_takeHunts_L82
          rw [chk_pos jin8, chk_pos jin8, jwT (a := j) (by omega), letm_ap, show f_X6_advance n (jup M2 (13 + 11) j (jor (M2 (13 + 11) j) (jshl 1 (u : Int)))) = _ from c1, bnd_some, row_comm (a := 9) (b := 24) (by omega)]
          have h3 := (h2.freeX (y := (u : Int)) fq1).row c3 c5 (by rw [jup_cell (by omega)]; exact c6)
          refine Or.inl ⟨_, _, s5, k5, w5, v5, a, rfl, rfl, h3.hunt j8 d0 ⟨hset.1, ?_, fun o o8 ho => ?_⟩, by omega⟩
          · rw [hset.2 j j8, hS8.2.1, decide_eq_false eju]; rfl
          · rw [hset.2 o o8, hS8.2.2 o o8 ho, decide_eq_false (show ¬ o = u by omega)]; rfl
    · have hf := (h2.freeX (y := x) fq1).fl f3 f4 (by rw [jup_cell (by omega)]; exact f5)
      have r94 : f_X12_aHunt_L94 n 2512 ((2078 + 10 * j : Nat) : Int) X2 = some (0, jrow (jup X2 168 2513 x) 167 G4) := by
        rw [e94, show f_X12_oldOne n 102 (a 2) 2513 X2 = _ from f2, bnd_some, chk_pos (by decide), bnd_some, if_pos (by decide)]
      rw [show f_X4_numberAt n 13 8 M2 = _ from f1, bnd_some, letv_ap, if_neg jm, if_pos rfl]
      rcases f6 with f6 | ⟨f6, f7⟩
      · rw [f6, bnd_some, if_pos (by decide), r94]
        exact Or.inr ⟨_, _, rfl, rfl, hf⟩
      · rw [f6, bnd_some, if_neg (by decide), chk_pos (by decide), show (jw 2018).toNat = 2018 by decide, x18, show f_X12_findHere n 102 (a 2) X2 = _ from f7, bnd_some, letv_ap, if_pos rfl, r94]
        exact Or.inr ⟨_, _, rfl, rfl, hf⟩
  · have hf := (h1.freeX (y := x) fq0).fl d3 d4 (by rw [jup_cell (by omega)]; exact d5)
    rw [show f_X4_numberAt n 13 8 (jrow M 9 F1) = _ from d1, bnd_some, letv_ap, j_adv hf.1.jk, bnd_some, j_numberAt hf.1.jk, bnd_some, letv_ap, if_pos rfl, show f_X12_oldOne n 102 (a 2) 2512 (jrow X 167 G1) = _ from d2, bnd_some, chk_pos (by decide), bnd_some, if_pos (by decide)]
    exact Or.inr ⟨_, _, rfl, rfl, hf⟩
theorem pc_or : ∀ m : Nat, m < 256 → ∀ i : Nat, i < 8 → m.testBit i = false → pc (m ||| 2 ^ i) = pc m + 1 := by decide +kernel
theorem pcI_or {x : Int} (h : S8 x) {i : Nat} (hi : i < 8) (hb : ¬ bit x i = true) : pcI (jor x (jshl 1 (i : Int))) = pcI x + 1 := by
  obtain ⟨m, hm, rfl⟩ := h.nat
  have h2 : (2 : Nat) ^ i < 2 ^ 31 := Nat.pow_lt_pow_right (by decide) (by omega)
  rw [jshl1_nat i (by omega), jor_nat (by omega) h2]
  unfold pcI
  have := pc_or m hm i hi (by simpa [bit] using hb)
  rw [show (((m ||| 2 ^ i : Nat) : Int)).toNat = m ||| 2 ^ i from rfl, show ((m : Int)).toNat = m from rfl, this]
  omega
theorem jup_jup {c q : Nat} {x y : Int} : jup (jup M c q x) c q y = jup M c q y := by
  funext e j
  rw [jup_at, jup_at, jup_at]
  by_cases z : e = c ∧ j = q
  · rw [if_pos z, if_pos z]
  · rw [if_neg z, if_neg z, if_neg z]
theorem p_tickL (hn : 2000 ≤ n) (hi : i < 8) : ∀ (d c q q' : Nat) (Mb X : JMem) (s k : Nat) (w : List Nat) (v st : Int), c + d = 9 → d < q → d < q' → MS T N M0 X0 Mb X s k w v a a → s0 < s → (i : Int) < a 2 → X 168 2512 = (i : Int) → S8 st → (∀ t : Nat, t < 8 → a 1 ≤ (t : Int) → bit st t = false) → pcI st = (c : Int) → PO T N M0 X0 s0 (f_X2_takeTicket_L46 n q (i : Int) (c : Int) (jup Mb 26 i st)) (f_X12_aTicket_L20 n q' 2512 st X) := by
  intro d
  induction d with
  | zero =>
    intro c q q' Mb X s k w v st hc _ _ _ _ _ _ hst _ hp
    have := (pcI_range hst).2
    omega
  | succ d ih =>
    intro c q q' Mb X s k w v st hc hq hq' h hs hia hx hst hb hp
    obtain ⟨q, rfl⟩ : ∃ z, q = z + 1 := ⟨q - 1, by omega⟩
    obtain ⟨q', rfl⟩ : ∃ z, q' = z + 1 := ⟨q' - 1, by omega⟩
    obtain ⟨q1, q2, q3, q4, q5, q6, q7⟩ := h.2.2.1
    have a1 := q2 1 (by omega)
    rw [if_neg (by decide)] at a1
    have x17 : X 168 2017 = a 1 := (q1 1 (by omega)).2
    have hp8 := (pcI_range hst).2
    have m9 : jup Mb 26 i st 9 = Mb 9 := jup_cell (by omega)
    have hS' : TXT T N (jup Mb 26 i st) X := h.1.mv (jup_cell (by omega)) (jup_cell (by omega)) rfl
    have hT' : TL T N (jup Mb 26 i st 9) (X 167) s k w v := by rw [m9]; exact h.2.1
    have hR' : RKn (blk (jup Mb 26 i st) 13 12) (fun j => X 169 (88 + j)) a := by rw [blk_jup_row (fun j hj => by omega) (by decide)]; exact q4
    have i8 : jin (i : Int) 8 := jinN hi (by omega)
    rw [f_X2_takeTicket_L46, f_X12_aTicket_L20, if_neg (by rw [jwN (by omega), show jw 8 = 8 by decide]; omega)]
    rcases s_peek (n := n) (th := 13) (off := 88) (o := 1) hn hS' hT' (by omega) hR' q2 (by omega) with ⟨j, j1, j2, j3, jf, k2⟩ | ⟨j2, j3, jf, k2⟩ | ⟨j2, j3, k2⟩
    · have j8 : j < 8 := by omega
      have jm : ¬ jw (j : Int) = jw (-1) := by rw [jwm1, jwN (by omega)]; omega
      have e26 : jup Mb 26 i st (25 + 1) i = st := by rw [jup_if, if_pos rfl]
      rw [if_pos (show jw (jup Mb 26 i st 9 4) = jw 2 from (c_kind hT' (c := 2) (by omega)).2 k2), show f_X4_numberAt n 13 2 (jup Mb 26 i st) = _ from j2, bnd_some, letv_ap, if_neg jm, chk_pos i8, jwT (a := i) (by omega), e26, q_isIn hst j8, bnd_some, j3, bnd_some, if_neg (show ¬ jw 1 = 0 by decide), chk_pos (show jin 2017 3160 by decide), show (jw 2017).toNat = 2017 by decide, x17, show f_X12_findHere n 94 (a 1) X = _ from jf, bnd_some, letv_ap, if_neg jm, jbit hst j8]
      by_cases cb : bit st j = true
      · rw [if_pos cb, if_neg (show ¬ jw 1 = 0 by decide), if_pos (show jw 1 = jw 1 from rfl)]
        obtain ⟨F5, G5, c1, c2, c3, c4, c5, -⟩ := s_fail (n := n) (M := jup Mb 26 i st) hT' (why := 5) (by omega)
        rw [m9] at c4
        have hf := h.fl c3 c4 c5
        have hj0 : JT M0 (jrow (jup Mb 26 i st) 9 F5) := by
          rw [row_comm (a := 9) (b := 26) (by omega)]
          exact hf.jt.up (by omega) (by omega) (by omega)
        have hj := hj0.up (c := 25 + 1) (i := i) (x := jor (jrow (jup Mb 26 i st) 9 F5 (25 + 1) i) (jshl 1 (j : Int))) (by omega) (by omega) (by omega)
        unfold f_X2_takeTicket_L106 f_X12_aTicket_L64
        rw [c1, bnd_some, fails_chk c2, chk_pos i8, chk_pos i8, jwT (a := i) (by omega), letm_ap, j_adv hj.1, bnd_some, letv_ap]
        obtain ⟨q, rfl⟩ : ∃ z, q = z + 1 := ⟨q - 1, by omega⟩
        have efin : ∀ x : Int, f_X2_takeTicket_L46 n (q + 1) (i : Int) x (jup (jrow (jup Mb 26 i st) 9 F5) (25 + 1) i (jor (jrow (jup Mb 26 i st) 9 F5 (25 + 1) i) (jshl 1 (j : Int)))) = some (0, jup (jrow (jup Mb 26 i st) 9 F5) (25 + 1) i (jor (jrow (jup Mb 26 i st) 9 F5 (25 + 1) i) (jshl 1 (j : Int)))) := fun x => by
          rw [f_X2_takeTicket_L46, if_neg (j4 (x := 2) (by omega) hj.1)]
          split <;> rfl
        rw [efin]
        exact Or.inr ⟨_, _, rfl, rfl, hf.of (by rw [jup_cell (by omega), jrow_same, jrow_same]) hj⟩
      · rw [if_neg cb, if_pos (show jw 0 = 0 by decide), if_neg (show ¬ jw 0 = jw 1 by decide), letv_ap]
        obtain ⟨F5, G5, s5, k5, w5, v5, c1, c2, c3, c4, c5, c6, c7⟩ := s_adv (n := n) (M := jup Mb 26 i (jor st (jshl 1 (j : Int)))) hn (h.1.mv (jup_cell (by omega)) (jup_cell (by omega)) rfl) (by rw [jup_cell (by omega)]; exact h.2.1) (by omega)
        rw [jup_cell (by omega)] at c6
        have hset := jset hst j8
        unfold f_X2_takeTicket_L106
        rw [chk_pos i8, chk_pos i8, jwT (a := i) (by omega), letm_ap, e26, show jup (jup Mb 26 i st) (25 + 1) i (jor st (jshl 1 (j : Int))) = jup Mb 26 i (jor st (jshl 1 (j : Int))) from jup_jup, c1, bnd_some, letv_ap, c2, bnd_some, row_comm (a := 9) (b := 26) (by omega), show (c : Int) + 1 = ((c + 1 : Nat) : Int) by omega]
        exact ih (c + 1) q q' (jrow Mb 9 F5) (jrow X 167 G5) s5 k5 w5 v5 (jor st (jshl 1 (j : Int))) (by omega) (by omega) (by omega) (h.row c3 c6 c7) (by omega) hia (by rw [jrow_ne _ (by omega)]; exact hx) hset.1 (fun t t8 ht => by rw [hset.2 t t8, hb t t8 ht, decide_eq_false (show ¬ t = j by omega)]; rfl) (by rw [pcI_or hst j8 cb, hp]; omega)
    · obtain ⟨F5, G5, c1, c2, c3, c4, c5, -⟩ := s_fail (n := n) (M := jup Mb 26 i st) hT' (why := 3) (by omega)
      rw [m9] at c4
      have hf := h.fl c3 c4 c5
      unfold f_X12_aTicket_L49
      rw [if_pos (show jw (jup Mb 26 i st 9 4) = jw 2 from (c_kind hT' (c := 2) (by omega)).2 k2), show f_X4_numberAt n 13 2 (jup Mb 26 i st) = _ from j2, c1, bnd_some, bnd_some, letv_ap, if_pos rfl, j3, bnd_some, if_neg (by decide), chk_pos (by decide), show (jw 2017).toNat = 2017 by decide, x17, show f_X12_findHere n 94 (a 1) X = _ from jf, bnd_some, letv_ap, if_pos rfl, fails_chk c2, row_comm (a := 9) (b := 26) (by omega)]
      exact Or.inr ⟨_, _, rfl, rfl, hf.of (by rw [jup_cell (by omega)]) (hf.jt.up (by omega) (by omega) (by omega))⟩
    · rw [if_neg (show ¬ jw (jup Mb 26 i st 9 4) = jw 2 from fun z => k2 ((c_kind hT' (c := 2) (by omega)).1 z)), j3, bnd_some, if_pos (by decide)]
      unfold f_X12_aTicket_L83
      rw [chk_pos (by decide), show (jw 2512).toNat = 2512 by decide, hx, show (2072 : Int) + 10 * (i : Int) + 5 = ((2077 + 10 * i : Nat) : Int) by omega, chk_pos (jinN (by omega) (by omega)), jwT (by omega), letm_ap]
      exact Or.inl ⟨_, _, s, k, w, v, a, rfl, rfl, h.tick hi hia ⟨hst, hb⟩, hs⟩
theorem p_ticketT (hn : 2000 ≤ n) (h : MS T N M0 X0 M X s k w v a a) (hk : k = 1) : PO T N M0 X0 s (f_X2_takeTicket n M) (f_X12_aTicket n X) := by
  obtain ⟨F1, G1, s1, k1, w1, v1, b1, b2, b3, b4, b5, b6, b7⟩ := s_adv (n := n) hn h.1 h.2.1 (by omega)
  have h1 := h.row b3 b6 b7
  obtain ⟨q1, q2, q3, q4, q5, q6, q7⟩ := h1.2.2.1
  have a2 := q2 2 (by omega)
  rw [if_neg (by decide)] at a2
  have x18 : jrow X 167 G1 168 2018 = a 2 := (q1 2 (by omega)).2
  have fq0 : freeQ a 496 := Or.inl (Or.inl rfl)
  unfold f_X2_takeTicket f_X12_aTicket f_X12_newBeastTo
  rw [b1, bnd_some, letv_ap, b2, bnd_some, chk_pos (by decide), show (jw 2018).toNat = 2018 by decide, x18]
  rcases s_old2 (n := n) (th := 13) (off := 88) (o := 2) (to := 2512) hn h1.1 h1.2.1 (by omega) q4 q2 (by omega) (by omega) with ⟨j, d0, d1, -, -, jA⟩ | ⟨F2, G2, x, d1, d2, d3, d4, d5, -⟩
  · have j8 : j < 8 := by omega
    obtain ⟨F3, G3, s3, k3, w3, v3, g1, g2, g3, g4, g5, g6⟩ := jA (jup (jrow M 9 F1) (25 + 1) j 0) (by rw [jup_cell (by omega)]) (by rw [jup_cell (by omega)]) (by rw [jup_cell (by omega)])
    have h2 : MS T N M0 X0 (jrow (jrow M 9 F1) 9 F3) (jrow (jup (jrow X 167 G1) 168 2512 (j : Int)) 167 G3) s3 k3 w3 v3 a a := (h1.freeX (y := (j : Int)) fq0).row g3 g5 (by rw [jup_cell (by omega)]; exact g6)
    rw [show f_X4_numberAt n 13 8 (jrow M 9 F1) = _ from d1, bnd_some, letv_ap, if_neg (by rw [jwm1, jwN (by omega)]; omega), chk_pos (jinN j8 (by omega)), jwT (by omega), letm_ap, g1, bnd_some, letv_ap, show f_X12_oldOne n 102 (a 2) 2512 (jrow X 167 G1) = _ from g2, bnd_some, chk_pos (by decide), bnd_some, if_neg (by decide), letv_ap, row_comm (a := 9) (b := 25 + 1) (by omega)]
    exact p_tickL (n := n) (i := j) hn j8 9 0 n n (jrow (jrow M 9 F1) 9 F3) (jrow (jup (jrow X 167 G1) 168 2512 (j : Int)) 167 G3) s3 k3 w3 v3 0 (by omega) (by omega) (by omega) h2 (by omega) d0 (by rw [jrow_ne _ (by omega), jup_if, if_pos rfl]) S8_0 (fun t _ _ => bit0 _) (by decide)
  · have hf := (h1.freeX (y := x) fq0).fl d3 d4 (by rw [jup_cell (by omega)]; exact d5)
    rw [show f_X4_numberAt n 13 8 (jrow M 9 F1) = _ from d1, bnd_some, letv_ap, if_pos rfl, show f_X12_oldOne n 102 (a 2) 2512 (jrow X 167 G1) = _ from d2, bnd_some, chk_pos (by decide), bnd_some, if_pos (by decide)]
    exact Or.inr ⟨_, _, rfl, rfl, hf⟩
end PHUNT2

section PTRAIN
variable {n : Nat} {M X M0 X0 : JMem} {T : Nat → Int} {N s s0 k t : Nat} {w : List Nat} {v : Int} {a a' : Nat → Int}
/-! a train's part, from its end -/
def tt5 (n : Nat) (y : Int) (M : JMem) : Option (Int × JMem) := bnd (f_X2_optional n 7 1 9 9 M) fun r13 M14 => chk (jin y 8) <| letm (jup M14 (13 + 8) (jw y).toNat r13) fun M15 => letm (jup M15 13 1 ((M15 13 1) + 1)) fun M16 => some (0, M16)
def tt4 (n : Nat) (y : Int) (M : JMem) : Option (Int × JMem) := bnd (f_X6_passWord n 6 M) fun _ M9 => bnd (f_X6_passNumber n 1 24 M9) fun r10 M11 => chk (jin y 8) <| letm (jup M11 (13 + 7) (jw y).toNat r10) fun M12 => tt5 n y M12
def tt3 (n : Nat) (y : Int) (M : JMem) : Option (Int × JMem) := bnd (f_X6_passWord n 5 M) fun _ M4 => bnd (f_X6_passNumber n 0 63 M4) fun r5 M6 => chk (jin y 8) <| letm (jup M6 (13 + 6) (jw y).toNat r5) fun M7 => tt4 n y M7
def tt2 (n : Nat) (y : Int) (M : JMem) : Option (Int × JMem) := bnd (f_X6_passWord n 4 M) fun _ M14 => bnd (f_X4_numberAt n 13 1 M14) fun r15 M16 => chk (jin y 8) <| letm (jup M16 (13 + 5) (jw y).toNat r15) fun M17 => chk (jin y 8) <| chk (jin y 8) <| if jw (M17 (13 + 5) (jw y).toNat) = jw (M17 (13 + 4) (jw y).toNat) then (bnd (f_X6_fail n 5 M17) fun _ M19 => f_X2_takeTrain_L131 n y M19) else (f_X2_takeTrain_L131 n y M17)
def tt1 (n : Nat) (y : Int) (M : JMem) : Option (Int × JMem) := bnd (f_X6_passWord n 3 M) fun _ M7 => bnd (f_X4_numberAt n 13 1 M7) fun r8 M9 => chk (jin y 8) <| letm (jup M9 (13 + 4) (jw y).toNat r8) fun M10 => bnd (f_X6_advance n M10) fun _ M12 => tt2 n y M12
theorem tt_131 (y : Int) : f_X2_takeTrain_L131 n y M = bnd (f_X6_advance n M) fun _ M2 => tt3 n y M2 := rfl
def rt5 (n : Nat) (y : Int) (M : JMem) : Option (Int × JMem) := chk (jin (y + 4) 3160) <| letm (jup M 168 (jw (y + 4)).toNat 9) fun M11 => bnd (f_X12_isThere n 10 M11) fun r12 M13 => if jw r12 = 0 then (f_X12_aTrain_L192 n M13) else (bnd (f_X12_number n (y + 4) 1 9 M13) fun r14 M15 => if jw r14 = 0 then (some (0, M15)) else (f_X12_aTrain_L192 n M15))
def rt4 (n : Nat) (y : Int) (M : JMem) : Option (Int × JMem) := bnd (f_X12_wantWord n 9 M) fun r7 M8 => if jw r7 = 0 then (some (0, M8)) else (bnd (f_X12_number n (y + 3) 1 24 M8) fun r9 M10 => if jw r9 = 0 then (some (0, M10)) else rt5 n y M10)
def rt3 (n : Nat) (y : Int) (M : JMem) : Option (Int × JMem) := bnd (f_X12_wantWord n 8 M) fun r3 M4 => if jw r3 = 0 then (some (0, M4)) else (bnd (f_X12_number n (y + 2) 0 63 M4) fun r5 M6 => if jw r5 = 0 then (some (0, M6)) else rt4 n y M6)
theorem rt_98 (y : Int) : f_X12_aTrain_L98 n y X = bnd (f_X12_newPlaceTo n (y + 1) X) fun r1 M2 => if jw r1 = 0 then (some (0, M2)) else rt3 n y M2 := rfl
def rt2 (n : Nat) (y : Int) (M : JMem) : Option (Int × JMem) := bnd (f_X12_wantWord n 7 M) fun r8 M9 => if jw r8 = 0 then (some (0, M9)) else (bnd (f_X12_isName n M9) fun r10 M11 => if jw r10 = 0 then (f_X12_aTrain_L98 n y M11) else (chk (jin 2016 3160) <| bnd (f_X12_findHere n 88 (M11 168 (jw 2016).toNat) M11) fun r12 M13 => chk (jin y 3160) <| if jw r12 = jw (M13 168 (jw y).toNat) then (bnd (f_X12_fails n 5 M13) fun r14 M15 => chk (jw r14 = 0 ∨ jw r14 = 1) (some (r14, M15))) else (f_X12_aTrain_L98 n y M13)))
def rt1 (n : Nat) (y : Int) (M : JMem) : Option (Int × JMem) := bnd (f_X12_wantWord n 6 M) fun r4 M5 => if jw r4 = 0 then (some (0, M5)) else (bnd (f_X12_newPlaceTo n y M5) fun r6 M7 => if jw r6 = 0 then (some (0, M7)) else rt2 n y M7)
/-! behind a fault -/
theorem JT.up {c i : Nat} {x : Int} (h : JT M0 M) (hc : 12 ≤ c ∧ c < 33) (h1 : ¬ (c = 13 ∧ i = 2)) (h2 : c ≠ 25) : JT M0 (jup M c i x) := ⟨by rw [jup_cell (by omega)]; exact h.1, h.2.1.mv (fun e he => jup_cell (by omega)), by rw [jup_at, if_neg (fun z => h1 ⟨z.1.symm, z.2.symm⟩)]; exact h.2.2.1, by rw [jup_at, if_neg (fun z => h1 ⟨z.1.symm, z.2.symm⟩)]; exact h.2.2.2.1, by rw [jup_cell (by omega)]; exact h.2.2.2.2⟩
theorem j_tt5 (h : JT M0 M) (ht : t < 8) : ∃ M', tt5 n (t : Int) M = some (0, M') ∧ M' 9 = M 9 ∧ JT M0 M' := by
  unfold tt5
  rw [j_optional h.1, bnd_some, chk_pos (jinN ht (by omega)), jwT (by omega), letm_ap, letm_ap]
  exact ⟨_, rfl, by rw [jup_cell (by omega), jup_cell (by omega)], (h.up (by omega) (by omega) (by omega)).up (by omega) (by omega) (by omega)⟩
theorem j_tt4 (h : JT M0 M) (ht : t < 8) : ∃ M', tt4 n (t : Int) M = some (0, M') ∧ M' 9 = M 9 ∧ JT M0 M' := by
  unfold tt4
  rw [j_passWord h.1, bnd_some, j_passNumber h.1, bnd_some, chk_pos (jinN ht (by omega)), jwT (by omega), letm_ap]
  obtain ⟨M', r1, r2, r3⟩ := j_tt5 (n := n) (h.up (c := 13 + 7) (i := t) (x := -1) (by omega) (by omega) (by omega)) ht
  exact ⟨M', r1, by rw [r2, jup_cell (by omega)], r3⟩
theorem j_tt3 (h : JT M0 M) (ht : t < 8) : ∃ M', tt3 n (t : Int) M = some (0, M') ∧ M' 9 = M 9 ∧ JT M0 M' := by
  unfold tt3
  rw [j_passWord h.1, bnd_some, j_passNumber h.1, bnd_some, chk_pos (jinN ht (by omega)), jwT (by omega), letm_ap]
  obtain ⟨M', r1, r2, r3⟩ := j_tt4 (n := n) (h.up (c := 13 + 6) (i := t) (x := -1) (by omega) (by omega) (by omega)) ht
  exact ⟨M', r1, by rw [r2, jup_cell (by omega)], r3⟩
theorem j_131 (h : JT M0 M) (ht : t < 8) : ∃ M', f_X2_takeTrain_L131 n (t : Int) M = some (0, M') ∧ M' 9 = M 9 ∧ JT M0 M' := by
  rw [tt_131, j_adv h.1, bnd_some]
  exact j_tt3 h ht
theorem j_tt2 (h : JT M0 M) (ht : t < 8) : ∃ M', tt2 n (t : Int) M = some (0, M') ∧ M' 9 = M 9 ∧ JT M0 M' := by
  have h1 := h.up (c := 13 + 5) (i := t) (x := -1) (by omega) (by omega) (by omega)
  obtain ⟨M', r1, r2, r3⟩ := j_131 (n := n) h1 ht
  unfold tt2
  rw [j_passWord h.1, bnd_some, j_numberAt h.1, bnd_some, chk_pos (jinN ht (by omega)), jwT (by omega), letm_ap, chk_pos (jinN ht (by omega)), chk_pos (jinN ht (by omega)), j_fail h1.1, bnd_some, r1]
  refine ⟨M', ?_, by rw [r2, jup_cell (by omega)], r3⟩
  split <;> rfl
theorem j_tt1 (h : JT M0 M) (ht : t < 8) : ∃ M', tt1 n (t : Int) M = some (0, M') ∧ M' 9 = M 9 ∧ JT M0 M' := by
  have h1 := h.up (c := 13 + 4) (i := t) (x := -1) (by omega) (by omega) (by omega)
  obtain ⟨M', r1, r2, r3⟩ := j_tt2 (n := n) h1 ht
  unfold tt1
  rw [j_passWord h.1, bnd_some, j_numberAt h.1, bnd_some, chk_pos (jinN ht (by omega)), jwT (by omega), letm_ap, j_adv h1.1, bnd_some, r1]
  exact ⟨M', rfl, by rw [r2, jup_cell (by omega)], r3⟩
theorem po_j {f g : Option (Int × JMem)} {X' : JMem} (hf : FJ M0 X0 M X') (h : ∃ M', f = some (0, M') ∧ M' 9 = M 9 ∧ JT M0 M') (hg : g = some (0, X')) : PO T N M0 X0 s f g := by
  obtain ⟨M', r1, r2, r3⟩ := h
  exact Or.inr ⟨M', X', r1, hg, hf.of r2 r3⟩
/-! one train more -/
def ET (M X : JMem) (a : Nat → Int) (t j : Nat) : Prop := (0 < j → M 17 t = X 168 (2024 + 6 * t) ∧ 0 ≤ M 17 t ∧ M 17 t < a 0) ∧ (1 < j → M 18 t = X 168 (2025 + 6 * t) ∧ 0 ≤ M 18 t ∧ M 18 t < a 0) ∧ (2 < j → M 19 t = X 168 (2026 + 6 * t) ∧ 0 ≤ M 19 t ∧ M 19 t ≤ 63) ∧ (3 < j → M 20 t = X 168 (2027 + 6 * t) ∧ 1 ≤ M 20 t ∧ M 20 t ≤ 24) ∧ (4 < j → M 21 t = X 168 (2028 + 6 * t) ∧ 1 ≤ M 21 t ∧ M 21 t ≤ 9)
theorem ET.mv {j : Nat} {M' X' : JMem} (h : ET M X a t j) (h1 : ∀ i : Nat, i < j → M' (17 + i) t = M (17 + i) t ∧ X' 168 (2024 + i + 6 * t) = X 168 (2024 + i + 6 * t)) : ET M' X' a t j := by
  obtain ⟨e0, e1, e2, e3, e4⟩ := h
  refine ⟨fun z => ?_, fun z => ?_, fun z => ?_, fun z => ?_, fun z => ?_⟩
  · rw [show M' 17 t = _ from (h1 0 z).1, show X' 168 (2024 + 6 * t) = _ from (h1 0 z).2]; exact e0 z
  · rw [show M' 18 t = _ from (h1 1 z).1, show X' 168 (2025 + 6 * t) = _ from (h1 1 z).2]; exact e1 z
  · rw [show M' 19 t = _ from (h1 2 z).1, show X' 168 (2026 + 6 * t) = _ from (h1 2 z).2]; exact e2 z
  · rw [show M' 20 t = _ from (h1 3 z).1, show X' 168 (2027 + 6 * t) = _ from (h1 3 z).2]; exact e3 z
  · rw [show M' 21 t = _ from (h1 4 z).1, show X' 168 (2028 + 6 * t) = _ from (h1 4 z).2]; exact e4 z
theorem ET.row {j : Nat} {F G : Nat → Int} (h : ET M X a t j) : ET (jrow M 9 F) (jrow X 167 G) a t j := h.mv fun i _ => ⟨by rw [jrow_ne _ (by omega)], by rw [jrow_ne _ (by omega)]⟩
theorem MS.cnt1 (h : MS T N M0 X0 M X s k w v a (upO a 1)) (ht : t < 8) (ea : a 1 = (t : Int)) (e : ET M X a t 5) : MS T N M0 X0 (jup M 13 1 ((t : Int) + 1)) (jup X 168 2017 ((t : Int) + 1)) s k w v (upO a 1) (upO a 1) := by
  obtain ⟨e0, e1, e2, e3, e4⟩ := e
  have e0 := e0 (by omega)
  have e1 := e1 (by omega)
  have e2 := e2 (by omega)
  have e3 := e3 (by omega)
  have e4 := e4 (by omega)
  obtain ⟨q1, q2, q3, q4, q5, q6, q7⟩ := h.2.2.1
  have z0 : slot X 2016 0 = a 0 := (q1 0 (by omega)).2
  have z1 : slot X 2016 1 = a 1 := (q1 1 (by omega)).2
  have es : slot (jup X 168 2017 ((t : Int) + 1)) 2016 = upA (slot X 2016) 1 ((t : Int) + 1) := slot_up (q := 1)
  refine h.mv (fun e he => jup_cell (by omega)) (fun c c1 c2 c3 => jup_cell c2) (fun j hj => by rw [jup_cell (by omega)]) (fun i hi => by rw [jup_if, if_neg (by omega)]) (fun j hj => by rw [jup_cell (by omega)]) ⟨fun u hu => ?_, upO_am q2 (by omega) (by show a 1 < 8; omega), ?_, ?_, ?_, ?_, ?_⟩
  · rw [jup_if, jup_if]
    unfold upO
    by_cases z : u = 1
    · subst z
      rw [if_pos rfl, if_pos rfl, if_pos rfl, ea]; exact ⟨rfl, rfl⟩
    · rw [if_neg z, if_neg (show ¬ 2016 + u = 2017 by omega), if_neg z]; exact q1 u hu
  · rw [es]
    have pb : ∀ j i : Nat, j < 12 → ¬ (j = 0 ∧ i = 1) → blk (jup M 13 1 ((t : Int) + 1)) 13 12 j i = blk M 13 12 j i := fun j i hj hji => blk_jup hj (fun z => hji ⟨by omega, z.2⟩)
    unfold RP at q3 ⊢
    obtain ⟨r0, r1, r2, r3, r4, r5, r6⟩ := q3
    rw [pb 0 0 (by omega) (by omega), pb 0 2 (by omega) (by omega), pb 0 3 (by omega) (by omega), upA_same, upA_ne (show (0 : Nat) ≠ 1 by decide), upA_ne (show (2 : Nat) ≠ 1 by decide), upA_ne (show (3 : Nat) ≠ 1 by decide), show blk (jup M 13 1 ((t : Int) + 1)) 13 12 0 1 = (t : Int) + 1 by rw [blk_at (by omega), jup_if, if_pos rfl]]
    refine ⟨r0, ⟨rfl, by omega, by omega⟩, r2, r3, r4, fun u u8 hu => ?_, fun b b8 hb => ?_⟩
    · rw [pb 4 u (by omega) (by omega), pb 5 u (by omega) (by omega), pb 6 u (by omega) (by omega), pb 7 u (by omega) (by omega), pb 8 u (by omega) (by omega), upA_ne (show 8 + 6 * u ≠ 1 by omega), upA_ne (show 9 + 6 * u ≠ 1 by omega), upA_ne (show 10 + 6 * u ≠ 1 by omega), upA_ne (show 11 + 6 * u ≠ 1 by omega), upA_ne (show 12 + 6 * u ≠ 1 by omega)]
      by_cases c : u = t
      · subst c
        have s0 : slot X 2016 (8 + 6 * u) = X 168 (2024 + 6 * u) := by show X 168 (2016 + (8 + 6 * u)) = _; congr 1; omega
        have s1 : slot X 2016 (9 + 6 * u) = X 168 (2025 + 6 * u) := by show X 168 (2016 + (9 + 6 * u)) = _; congr 1; omega
        have s2 : slot X 2016 (10 + 6 * u) = X 168 (2026 + 6 * u) := by show X 168 (2016 + (10 + 6 * u)) = _; congr 1; omega
        have s3 : slot X 2016 (11 + 6 * u) = X 168 (2027 + 6 * u) := by show X 168 (2016 + (11 + 6 * u)) = _; congr 1; omega
        have s4 : slot X 2016 (12 + 6 * u) = X 168 (2028 + 6 * u) := by show X 168 (2016 + (12 + 6 * u)) = _; congr 1; omega
        rw [s0, s1, s2, s3, s4, z0, ← e0.1, ← e1.1, ← e2.1, ← e3.1, ← e4.1]
        exact ⟨⟨rfl, e0.2⟩, ⟨rfl, e1.2⟩, ⟨rfl, e2.2⟩, ⟨rfl, e3.2⟩, ⟨rfl, e4.2⟩⟩
      · exact r5 u u8 (by omega)
    · rw [pb 9 b (by omega) (by omega), pb 10 b (by omega) (by omega), pb 11 b (by omega) (by omega), upA_ne (show 56 + 10 * b ≠ 1 by omega), upA_ne (show 57 + 10 * b ≠ 1 by omega), upA_ne (show 62 + 10 * b ≠ 1 by omega)]
      exact r6 b b8 hb
  · exact q4.cg2 (blk_jup (by omega) (fun z => by omega)) (fun j q j1 j2 => blk_jup (by omega) (fun z => by omega)) (fun j => by rw [jup_cell (by omega)])
  · rw [es]
    unfold RQ at q5 ⊢
    obtain ⟨f1, f2, f3, f4, f5, f6, f7, f8, f9, f10, f11⟩ := q5
    rw [jup_cell (by omega), jup_cell (by omega), jup_cell (by omega), upA_ne (show (4 : Nat) ≠ 1 by decide), upA_ne (show (5 : Nat) ≠ 1 by decide), upA_ne (show (6 : Nat) ≠ 1 by decide), upA_ne (show (2 : Nat) ≠ 1 by decide), upA_same]
    refine ⟨f1, f2, f3, f4, f5, f6, ⟨f7.1, fun b b8 => ?_⟩, fun t t8 => ?_, f9, fun b b8 hb => ?_, fun b b8 hb => ?_⟩
    · rw [upA_ne (by omega)]; exact f7.2 b b8
    · rw [upA_ne (by omega)]; exact f8 t t8
    · rw [upA_ne (by omega), upA_ne (by omega), upA_ne (by omega), upA_ne (by omega), upA_ne (by omega)]
      obtain ⟨g1, g2, g3, g4, g5, g6, g7⟩ := f10 b b8 hb
      exact ⟨g1, g2, g3, g4, g5, fun t t8 ht => g6 t t8 (by omega), g7⟩
    · rw [upA_ne (by omega), upA_ne (by omega), upA_ne (by omega), upA_ne (by omega), upA_ne (by omega)]; exact f11 b b8 hb
  · rw [jup_cell (by omega), jup_cell (by omega)]; exact q6
  · rw [jup_cell (by omega)]; exact q7
theorem e192 {x : Int} (hx : X 168 2017 = x) : f_X12_aTrain_L192 n X = some (1, jup X 168 2017 (x + 1)) := by
  unfold f_X12_aTrain_L192
  rw [chk_pos (by decide), chk_pos (by decide), show (jw 2017).toNat = 2017 by decide, letm_ap, hx]
theorem tr_end (h : MS T N M0 X0 M X s k w v a (upO a 1)) (hs : s0 < s) (ht : t < 8) (ea : a 1 = (t : Int)) (e : ET M X a t 5) : PO T N M0 X0 s0 (some (0, jup M 13 1 (M 13 1 + 1))) (f_X12_aTrain_L192 n X) := by
  obtain ⟨q1, -⟩ := h.2.2.1
  rw [e192 ((q1 1 (by omega)).2.trans ea), (q1 1 (by omega)).1, ea]
  exact Or.inl ⟨_, _, s, k, w, v, _, rfl, rfl, h.cnt1 ht ea e, hs⟩
theorem tr5 (hn : 2000 ≤ n) (h : MS T N M0 X0 M X s k w v a (upO a 1)) (hs : s0 < s) (ht : t < 8) (ea : a 1 = (t : Int)) (e : ET M X a t 4) : PO T N M0 X0 s0 (tt5 n (t : Int) M) (rt5 n ((2024 + 6 * t : Nat) : Int) X) := by
  have e28 : ((2024 + 6 * t : Nat) : Int) + 4 = ((2028 + 6 * t : Nat) : Int) := by omega
  have fq : freeQ a (12 + 6 * t) := Or.inr (Or.inl ⟨4, t, by omega, ht, by omega, by omega⟩)
  have h1 : MS T N M0 X0 M (jup X 168 (2028 + 6 * t) 9) s k w v a (upO a 1) := by
    have := h.freeX (y := 9) fq
    rw [show 2016 + (12 + 6 * t) = 2028 + 6 * t by omega] at this
    exact this
  unfold tt5 rt5
  rw [e28, chk_pos (jinN (by omega) (by omega)), jwT (a := 2028 + 6 * t) (by omega), letm_ap]
  rcases s_optional (n := n) (c := 7) (to := 2028 + 6 * t) (lo := 1) (hi := 9) (d := 9) hn h1.1 h1.2.1 (by omega) (by omega) (by omega) (by omega) with ⟨c1, c2⟩ | ⟨x, G1, x1, x2, c2, F', G', s', k', w', v', c3, c4, c5, c6, c7, c8⟩ | ⟨G1, c2, F', G', c3, c4, c5, c6, c7⟩
  · rw [show f_X2_optional n 7 1 9 9 M = _ from c1, bnd_some, show f_X12_isThere n 10 _ = _ from c2, bnd_some, if_pos (by decide), chk_pos (jinN ht (by omega)), jwT (by omega), letm_ap, letm_ap]
    refine tr_end (h1.freeM (c := 21) (i := t) (x := 9) (Or.inl (by omega))) hs ht ea ?_
    obtain ⟨z0, z1, z2, z3, -⟩ := e.mv (M' := jup M 21 t 9) (X' := jup X 168 (2028 + 6 * t) 9) (fun i hi => ⟨by rw [jup_cell (by omega)], by rw [jup_if, if_neg (by omega)]⟩)
    exact ⟨fun _ => z0 (by omega), fun _ => z1 (by omega), fun _ => z2 (by omega), fun _ => z3 (by omega), fun _ => by rw [jup_if, if_pos rfl, jup_if, if_pos rfl]; omega⟩
  · rw [show f_X2_optional n 7 1 9 9 M = _ from c3, bnd_some, show f_X12_isThere n 10 _ = _ from c2, bnd_some, if_neg (by decide), c4, bnd_some, if_neg (by decide), chk_pos (jinN ht (by omega)), jwT (by omega), letm_ap, letm_ap, row_comm (a := 167) (b := 168) (by omega)]
    have h2 := h1.row c5 c7 c8
    have h3 : MS T N M0 X0 (jup (jrow M 9 F') 21 t x) (jup (jrow (jup X 168 (2028 + 6 * t) 9) 167 G') 168 (2028 + 6 * t) x) s' k' w' v' a (upO a 1) := by
      have := (h2.freeM (c := 21) (i := t) (x := x) (Or.inl (by omega))).freeX (y := x) fq
      rw [show 2016 + (12 + 6 * t) = 2028 + 6 * t by omega] at this
      exact this
    refine tr_end h3 (by omega) ht ea ?_
    obtain ⟨z0, z1, z2, z3, -⟩ := e.mv (M' := jup (jrow M 9 F') 21 t x) (X' := jup (jrow (jup X 168 (2028 + 6 * t) 9) 167 G') 168 (2028 + 6 * t) x) (fun i hi => ⟨by rw [jup_cell (by omega), jrow_ne _ (by omega)], by rw [jup_if, if_neg (by omega), jrow_ne _ (by omega), jup_if, if_neg (by omega)]⟩)
    exact ⟨fun _ => z0 (by omega), fun _ => z1 (by omega), fun _ => z2 (by omega), fun _ => z3 (by omega), fun _ => by rw [jup_if, if_pos rfl, jup_if, if_pos rfl]; omega⟩
  · have hf := h1.fl c5 c6 c7
    obtain ⟨M', r1, r2, r3⟩ := j_tt5 (n := n) hf.jt ht
    rw [show f_X2_optional n 7 1 9 9 M = _ from c3, bnd_some, show f_X12_isThere n 10 _ = _ from c2, bnd_some, if_neg (by decide), c4, bnd_some, if_pos (by decide), chk_pos (jinN ht (by omega)), jwT (by omega), letm_ap, letm_ap]
    exact Or.inr ⟨_, _, rfl, rfl, hf.of (by rw [jup_cell (by omega), jup_cell (by omega)]) ((hf.jt.up (by omega) (by omega) (by omega)).up (by omega) (by omega) (by omega))⟩
theorem tr4 (hn : 2000 ≤ n) (h : MS T N M0 X0 M X s k w v a (upO a 1)) (hs : s0 < s) (ht : t < 8) (ea : a 1 = (t : Int)) (e : ET M X a t 3) : PO T N M0 X0 s0 (tt4 n (t : Int) M) (rt4 n ((2024 + 6 * t : Nat) : Int) X) := by
  have e28 : ((2024 + 6 * t : Nat) : Int) + 3 = ((2027 + 6 * t : Nat) : Int) := by omega
  have fq : freeQ a (11 + 6 * t) := Or.inr (Or.inl ⟨3, t, by omega, ht, by omega, by omega⟩)
  unfold tt4 rt4
  rw [e28]
  rcases s_word (n := n) (c := 6) hn h.1 h.2.1 (by omega) with ⟨F', G', s', k', w', v', c1, c2, c3, c4, c5, c6⟩ | ⟨F', G', c1, c2, c3, c4, c5⟩
  · have h1 := h.row c3 c5 c6
    rw [show f_X6_passWord n 6 M = _ from c1, bnd_some, show f_X12_wantWord n 9 X = _ from c2, bnd_some, if_neg (by decide)]
    rcases s_number (n := n) (to := 2027 + 6 * t) (lo := 1) (hi := 24) hn h1.1 h1.2.1 (by omega) (by omega) (by omega) with ⟨x, x1, x2, F2, G2, s2, k2, w2, v2, d1, d2, d3, d4, d5, d6⟩ | ⟨F2, G2, d1, d2, d3, d4, d5⟩
    · have h2 := h1.row d3 d5 d6
      have h3 : MS T N M0 X0 (jup (jrow (jrow M 9 F') 9 F2) 20 t x) (jup (jrow (jrow X 167 G') 167 G2) 168 (2027 + 6 * t) x) s2 k2 w2 v2 a (upO a 1) := by
        have := (h2.freeM (c := 20) (i := t) (x := x) (Or.inl (by omega))).freeX (y := x) fq
        rw [show 2016 + (11 + 6 * t) = 2027 + 6 * t by omega] at this
        exact this
      rw [d1, bnd_some, d2, bnd_some, if_neg (by decide), chk_pos (jinN ht (by omega)), jwT (by omega), letm_ap, row_comm (a := 167) (b := 168) (by omega)]
      refine tr5 hn h3 (by omega) ht ea ?_
      obtain ⟨z0, z1, z2, -⟩ := e.mv (M' := jup (jrow (jrow M 9 F') 9 F2) 20 t x) (X' := jup (jrow (jrow X 167 G') 167 G2) 168 (2027 + 6 * t) x) (fun i hi => ⟨by rw [jup_cell (by omega), jrow_ne _ (by omega), jrow_ne _ (by omega)], by rw [jup_if, if_neg (by omega), jrow_ne _ (by omega), jrow_ne _ (by omega)]⟩)
      exact ⟨fun _ => z0 (by omega), fun _ => z1 (by omega), fun _ => z2 (by omega), fun _ => by rw [jup_if, if_pos rfl, jup_if, if_pos rfl]; omega, fun z => by omega⟩
    · have hf := h1.fl d3 d4 d5
      rw [d1, bnd_some, d2, bnd_some, if_pos (by decide), chk_pos (jinN ht (by omega)), jwT (by omega), letm_ap]
      obtain ⟨M', r1, r2, r3⟩ := j_tt5 (n := n) (hf.jt.up (c := 13 + 7) (i := t) (x := -1) (by omega) (by omega) (by omega)) ht
      exact po_j hf ⟨M', r1, by rw [r2, jup_cell (by omega)], r3⟩ rfl
  · have hf := h.fl c3 c4 c5
    rw [show f_X6_passWord n 6 M = _ from c1, bnd_some, show f_X12_wantWord n 9 X = _ from c2, bnd_some, if_pos (by decide), j_passNumber hf.1.jk, bnd_some, chk_pos (jinN ht (by omega)), jwT (by omega), letm_ap]
    obtain ⟨M', r1, r2, r3⟩ := j_tt5 (n := n) (hf.jt.up (c := 13 + 7) (i := t) (x := -1) (by omega) (by omega) (by omega)) ht
    exact po_j hf ⟨M', r1, by rw [r2, jup_cell (by omega)], r3⟩ rfl
theorem tr3 (hn : 2000 ≤ n) (h : MS T N M0 X0 M X s k w v a (upO a 1)) (hs : s0 < s) (ht : t < 8) (ea : a 1 = (t : Int)) (e : ET M X a t 2) : PO T N M0 X0 s0 (tt3 n (t : Int) M) (rt3 n ((2024 + 6 * t : Nat) : Int) X) := by
  have e28 : ((2024 + 6 * t : Nat) : Int) + 2 = ((2026 + 6 * t : Nat) : Int) := by omega
  have fq : freeQ a (10 + 6 * t) := Or.inr (Or.inl ⟨2, t, by omega, ht, by omega, by omega⟩)
  unfold tt3 rt3
  rw [e28]
  rcases s_word (n := n) (c := 5) hn h.1 h.2.1 (by omega) with ⟨F', G', s', k', w', v', c1, c2, c3, c4, c5, c6⟩ | ⟨F', G', c1, c2, c3, c4, c5⟩
  · have h1 := h.row c3 c5 c6
    rw [show f_X6_passWord n 5 M = _ from c1, bnd_some, show f_X12_wantWord n 8 X = _ from c2, bnd_some, if_neg (by decide)]
    rcases s_number (n := n) (to := 2026 + 6 * t) (lo := 0) (hi := 63) hn h1.1 h1.2.1 (by omega) (by omega) (by omega) with ⟨x, x1, x2, F2, G2, s2, k2, w2, v2, d1, d2, d3, d4, d5, d6⟩ | ⟨F2, G2, d1, d2, d3, d4, d5⟩
    · have h2 := h1.row d3 d5 d6
      have h3 : MS T N M0 X0 (jup (jrow (jrow M 9 F') 9 F2) 19 t x) (jup (jrow (jrow X 167 G') 167 G2) 168 (2026 + 6 * t) x) s2 k2 w2 v2 a (upO a 1) := by
        have := (h2.freeM (c := 19) (i := t) (x := x) (Or.inl (by omega))).freeX (y := x) fq
        rw [show 2016 + (10 + 6 * t) = 2026 + 6 * t by omega] at this
        exact this
      rw [d1, bnd_some, d2, bnd_some, if_neg (by decide), chk_pos (jinN ht (by omega)), jwT (by omega), letm_ap, row_comm (a := 167) (b := 168) (by omega)]
      refine tr4 hn h3 (by omega) ht ea ?_
      obtain ⟨z0, z1, -⟩ := e.mv (M' := jup (jrow (jrow M 9 F') 9 F2) 19 t x) (X' := jup (jrow (jrow X 167 G') 167 G2) 168 (2026 + 6 * t) x) (fun i hi => ⟨by rw [jup_cell (by omega), jrow_ne _ (by omega), jrow_ne _ (by omega)], by rw [jup_if, if_neg (by omega), jrow_ne _ (by omega), jrow_ne _ (by omega)]⟩)
      exact ⟨fun _ => z0 (by omega), fun _ => z1 (by omega), fun _ => by rw [jup_if, if_pos rfl, jup_if, if_pos rfl]; omega, fun z => by omega, fun z => by omega⟩
    · have hf := h1.fl d3 d4 d5
      rw [d1, bnd_some, d2, bnd_some, if_pos (by decide), chk_pos (jinN ht (by omega)), jwT (by omega), letm_ap]
      obtain ⟨M', r1, r2, r3⟩ := j_tt4 (n := n) (hf.jt.up (c := 13 + 6) (i := t) (x := -1) (by omega) (by omega) (by omega)) ht
      exact po_j hf ⟨M', r1, by rw [r2, jup_cell (by omega)], r3⟩ rfl
  · have hf := h.fl c3 c4 c5
    rw [show f_X6_passWord n 5 M = _ from c1, bnd_some, show f_X12_wantWord n 8 X = _ from c2, bnd_some, if_pos (by decide), j_passNumber hf.1.jk, bnd_some, chk_pos (jinN ht (by omega)), jwT (by omega), letm_ap]
    obtain ⟨M', r1, r2, r3⟩ := j_tt4 (n := n) (hf.jt.up (c := 13 + 6) (i := t) (x := -1) (by omega) (by omega) (by omega)) ht
    exact po_j hf ⟨M', r1, by rw [r2, jup_cell (by omega)], r3⟩ rfl
theorem s_old2 {th off o to : Nat} {a : Nat → Int} (hn : 2000 ≤ n) (hS : TXT T N M X) (h : TL T N (M 9) (X 167) s k w v) (ho : o < 3) (hR : RKn (blk M th 12) (fun j => X 169 (off + j)) a) (ha : am a) (hoff : off ≤ 88) (hto : to < 3160) :
    (∃ j : Nat, (j : Int) < a o ∧ f_X4_numberAt n th (ki o) M = some ((j : Int), M) ∧ f_X12_isName n X = some (1, X) ∧ f_X12_findHere n ((off + bi o : Nat) : Int) (a o) X = some ((j : Int), X) ∧ ∀ M' : JMem, M' 9 = M 9 → M' 10 = M 10 → M' 11 = M 11 → ∃ (F' G' : Nat → Int) (s' k' : Nat) (w' : List Nat) (v' : Int), f_X6_advance n M' = some (0, jrow M' 9 F') ∧ f_X12_oldOne n ((off + bi o : Nat) : Int) (a o) (to : Int) X = some (1, jrow (jup X 168 to j) 167 G') ∧ TL T N F' G' s' k' w' v' ∧ s < s' ∧ Fr9 (M 9) F' ∧ FrX (X 167) G') ∨
    (∃ (F' G' : Nat → Int) (x : Int), f_X4_numberAt n th (ki o) M = some (-1, jrow M 9 F') ∧ f_X12_oldOne n ((off + bi o : Nat) : Int) (a o) (to : Int) X = some (0, jrow (jup X 168 to x) 167 G') ∧ FLT F' G' ∧ Fr9 (M 9) F' ∧ FrX (X 167) G' ∧ (f_X12_isName n X = some (0, X) ∨ (f_X12_isName n X = some (1, X) ∧ f_X12_findHere n ((off + bi o : Nat) : Int) (a o) X = some (-1, X)))) := by
  have jto : jin (to : Int) 3160 := jinN hto (by omega)
  have ol := s_old (n := n) hn hS h ho hR ha hoff hto
  rcases s_peek (n := n) hn hS h ho hR ha hoff with ⟨j, j1, j2, j3, j4, k2⟩ | ⟨j2, j3, j4, k2⟩ | ⟨j2, j3, k2⟩
  · have ao8 : a o ≤ 8 := by
      have := (ha o ho).2
      by_cases z : o = 0
      · rw [if_pos z] at this; omega
      · rw [if_neg z] at this; omega
    refine Or.inl ⟨j, j1, j2, j3, j4, fun M' m9 m10 m11 => ?_⟩
    obtain ⟨F', G', s', k', w', v', a1, a2, a3, a4, a5, a6, a7⟩ := s_adv (n := n) (M := M') (X := jup X 168 to (j : Int)) hn (hS.mv m10 m11 (by rw [jup_cell (by omega)])) (by rw [jup_cell (by omega), m9]; exact h) (by omega)
    rw [jup_cell (by omega)] at a7
    rw [m9] at a6
    refine ⟨F', G', s', k', w', v', a1, ?_, a3, a5 (by omega), a6, a7⟩
    unfold f_X12_oldOne
    rw [j3, bnd_some, if_neg (by decide), j4, bnd_some, chk_pos jto, jwT (by omega), letm_ap, chk_pos jto, jup_if, if_pos rfl, if_neg (by rw [jwm1, jwN (by omega)]; omega), a2, bnd_some]
  · right
    rcases ol with ⟨j', F2, G2, s2, k2', w2, v2, d0, d1, -⟩ | ⟨F2, G2, x, d1, d2, d3, d4, d5⟩
    · exfalso
      obtain ⟨F3, G3, g1, -⟩ := s_fail (n := n) h (why := 3) (by omega)
      rw [j2, g1, bnd_some] at d1
      simp at d1
    · exact ⟨F2, G2, x, d1, d2, d3, d4, d5, Or.inr ⟨j3, j4⟩⟩
  · right
    rcases ol with ⟨j', F2, G2, s2, k2', w2, v2, d0, d1, -⟩ | ⟨F2, G2, x, d1, d2, d3, d4, d5⟩
    · exfalso
      obtain ⟨F3, G3, g1, -⟩ := s_fail (n := n) h (why := 2) (by omega)
      rw [j2, g1, bnd_some] at d1
      simp at d1
    · exact ⟨F2, G2, x, d1, d2, d3, d4, d5, Or.inl j3⟩
theorem tr2 (hn : 2000 ≤ n) (h : MS T N M0 X0 M X s k w v a (upO a 1)) (hs : s0 < s) (ht : t < 8) (ea : a 1 = (t : Int)) (e : ET M X a t 1) : PO T N M0 X0 s0 (tt2 n (t : Int) M) (rt2 n ((2024 + 6 * t : Nat) : Int) X) := by
  have e28 : ((2024 + 6 * t : Nat) : Int) + 1 = ((2025 + 6 * t : Nat) : Int) := by omega
  have fq : freeQ a (9 + 6 * t) := Or.inr (Or.inl ⟨1, t, by omega, ht, by omega, by omega⟩)
  have jt : jin (t : Int) 8 := jinN ht (by omega)
  have e0 := e.1 (by omega)
  unfold tt2 rt2
  rcases s_word (n := n) (c := 4) hn h.1 h.2.1 (by omega) with ⟨F', G', s', k', w', v', c1, c2, c3, c4, c5, c6⟩ | ⟨F', G', c1, c2, c3, c4, c5⟩
  · have h1 := h.row c3 c5 c6
    obtain ⟨q1, q2, q3, q4, -⟩ := h1.2.2.1
    have a0 := q2 0 (by omega)
    rw [if_pos rfl] at a0
    have am1 : am (upO a 1) := upO_am q2 (by omega) (by show a 1 < 8; omega)
    have u0 : upO a 1 0 = a 0 := by unfold upO; rw [if_neg (by decide)]
    have x16 : jrow X 167 G' 168 (jw 2016).toNat = a 0 := (q1 0 (by omega)).2
    have z0 : jrow X 167 G' 168 (2024 + 6 * t) = M 17 t := by rw [jrow_ne _ (by omega)]; exact e0.1.symm
    have z17 : jrow M 9 F' (13 + 4) t = M 17 t := by rw [jrow_ne _ (by omega)]
    rw [show f_X6_passWord n 4 M = _ from c1, bnd_some, show f_X12_wantWord n 7 X = _ from c2, bnd_some, if_neg (by decide)]
    have ol := s_old2 (n := n) (th := 13) (off := 88) (o := 0) (to := 2025 + 6 * t) hn h1.1 h1.2.1 (by omega) q4 am1 (by omega) (by omega)
    rw [u0] at ol
    have e98 : f_X12_aTrain_L98 n ((2024 + 6 * t : Nat) : Int) (jrow X 167 G') = bnd (bnd (f_X12_oldOne n 88 (a 0) ((2025 + 6 * t : Nat) : Int) (jrow X 167 G')) fun r1 M2 => chk (jw r1 = 0 ∨ jw r1 = 1) (some (r1, M2))) fun r1 M2 => if jw r1 = 0 then (some (0, M2)) else rt3 n ((2024 + 6 * t : Nat) : Int) M2 := by
      rw [rt_98, e28]
      unfold f_X12_newPlaceTo
      rw [chk_pos (by decide), x16]
    -- the second name is not such a one
    have bad : ∀ (F2 G2 : Nat → Int) (x : Int), f_X4_numberAt n 13 1 (jrow M 9 F') = some (-1, jrow (jrow M 9 F') 9 F2) → f_X12_oldOne n 88 (a 0) ((2025 + 6 * t : Nat) : Int) (jrow X 167 G') = some (0, jrow (jup (jrow X 167 G') 168 (2025 + 6 * t) x) 167 G2) → FLT F2 G2 → Fr9 (jrow M 9 F' 9) F2 → FrX (jrow X 167 G' 167) G2 → PO T N M0 X0 s0 (bnd (f_X4_numberAt n 13 1 (jrow M 9 F')) fun r15 M16 => chk (jin (t : Int) 8) <| letm (jup M16 (13 + 5) (jw (t : Int)).toNat r15) fun M17 => chk (jin (t : Int) 8) <| chk (jin (t : Int) 8) <| if jw (M17 (13 + 5) (jw (t : Int)).toNat) = jw (M17 (13 + 4) (jw (t : Int)).toNat) then (bnd (f_X6_fail n 5 M17) fun _ M19 => f_X2_takeTrain_L131 n (t : Int) M19) else (f_X2_takeTrain_L131 n (t : Int) M17)) (f_X12_aTrain_L98 n ((2024 + 6 * t : Nat) : Int) (jrow X 167 G')) := fun F2 G2 x d1 d2 d3 d4 d5 => by
      rw [e98, d1, bnd_some, d2, bnd_some, chk_pos (show jw 0 = 0 ∨ jw 0 = 1 by decide), bnd_some, if_pos (show jw 0 = 0 by decide), chk_pos jt, jwT (by omega), letm_ap, chk_pos jt, chk_pos jt]
      have h2 : MS T N M0 X0 (jrow M 9 F') (jup (jrow X 167 G') 168 (2025 + 6 * t) x) s' k' w' v' a (upO a 1) := by
        have := h1.freeX (y := x) fq
        rw [show 2016 + (9 + 6 * t) = 2025 + 6 * t by omega] at this
        exact this
      have hf := h2.fl d3 d4 d5
      have hj := hf.jt.up (c := 13 + 5) (i := t) (x := -1) (by omega) (by omega) (by omega)
      obtain ⟨M', r1, r2, r3⟩ := j_131 (n := n) hj ht
      rw [j_fail hj.1, bnd_some]
      refine po_j hf ⟨M', ?_, by rw [r2, jup_cell (by omega)], r3⟩ rfl
      rw [r1]
      split <;> rfl
    rcases ol with ⟨j, j1, j2, j3, j4, jA⟩ | ⟨F2, G2, x, d1, d2, d3, d4, d5, d6⟩
    · have jv : ∀ _ : True, jw (M 17 t) = M 17 t := fun _ => jw_of (by omega) (by omega)
      have jj : ∀ _ : True, jw (j : Int) = (j : Int) := fun _ => jwN (by omega)
      rw [j3, bnd_some, if_neg (by decide), chk_pos (by decide), x16, show f_X12_findHere n 88 (a 0) (jrow X 167 G') = _ from j4, bnd_some, chk_pos (jinN (by omega) (by omega)), jwT (a := 2024 + 6 * t) (by omega), z0]
      by_cases ej : (j : Int) = M 17 t
      · rw [if_pos (by rw [ej]), show f_X4_numberAt n 13 1 (jrow M 9 F') = _ from j2, bnd_some, chk_pos jt, jwT (a := t) (by omega), letm_ap, chk_pos jt, chk_pos jt, jup_if, if_pos rfl, show jup (jrow M 9 F') (13 + 5) t (j : Int) (13 + 4) t = M 17 t by rw [jup_cell (by omega)]; exact z17, if_pos (by rw [ej])]
        have h2 : MS T N M0 X0 (jup (jrow M 9 F') (13 + 5) t (j : Int)) (jrow X 167 G') s' k' w' v' a (upO a 1) := h1.freeM (Or.inl (by omega))
        obtain ⟨F2, G2, d1, d2, d3, d4, d5, -⟩ := s_fail (n := n) h2.2.1 (why := 5) (by omega)
        have hf := h2.fl d3 d4 d5
        rw [d1, bnd_some, fails_chk d2]
        exact po_j hf (j_131 hf.jt ht) rfl
      · rw [if_neg (by rw [jv trivial, jj trivial]; exact ej)]
        have h2 : MS T N M0 X0 (jup (jrow M 9 F') 18 t (j : Int)) (jup (jrow X 167 G') 168 (2025 + 6 * t) (j : Int)) s' k' w' v' a (upO a 1) := by
          have := (h1.freeM (c := 18) (i := t) (x := (j : Int)) (Or.inl (by omega))).freeX (y := (j : Int)) fq
          rw [show 2016 + (9 + 6 * t) = 2025 + 6 * t by omega] at this
          exact this
        obtain ⟨F3, G3, s3, k3, w3, v3, g1, g2, g3, g4, g5, g6⟩ := jA (jup (jrow M 9 F') (13 + 5) t (j : Int)) (by rw [jup_cell (by omega)]) (by rw [jup_cell (by omega)]) (by rw [jup_cell (by omega)])
        rw [e98, show f_X4_numberAt n 13 1 (jrow M 9 F') = _ from j2, bnd_some, chk_pos jt, jwT (a := t) (by omega), letm_ap, chk_pos jt, chk_pos jt, jup_if, if_pos rfl, show jup (jrow M 9 F') (13 + 5) t (j : Int) (13 + 4) t = M 17 t by rw [jup_cell (by omega)]; exact z17, if_neg (by rw [jv trivial, jj trivial]; exact ej), tt_131, show f_X12_oldOne n 88 (a 0) ((2025 + 6 * t : Nat) : Int) (jrow X 167 G') = _ from g2, bnd_some, chk_pos (by decide), bnd_some, if_neg (by decide), g1, bnd_some]
        refine tr3 hn (h2.row g3 (by rw [jup_cell (by omega)]; exact g5) (by rw [jup_cell (by omega)]; exact g6)) (by omega) ht ea ?_
        obtain ⟨z, -⟩ := e.mv (M' := jrow (jup (jrow M 9 F') 18 t (j : Int)) 9 F3) (X' := jrow (jup (jrow X 167 G') 168 (2025 + 6 * t) (j : Int)) 167 G3) (fun i hi => ⟨by rw [jrow_ne _ (by omega), jup_cell (by omega), jrow_ne _ (by omega)], by rw [jrow_ne _ (by omega), jup_if, if_neg (by omega), jrow_ne _ (by omega)]⟩)
        exact ⟨fun _ => z (by omega), fun _ => by rw [jrow_ne _ (by omega), jup_if, if_pos rfl, jrow_ne _ (by omega), jup_if, if_pos rfl]; omega, fun z => by omega, fun z => by omega, fun z => by omega⟩
    · rcases d6 with d6 | ⟨d6, d7⟩
      · rw [d6, bnd_some, if_pos (by decide)]
        exact bad F2 G2 x d1 d2 d3 d4 d5
      · rw [d6, bnd_some, if_neg (by decide), chk_pos (by decide), x16, show f_X12_findHere n 88 (a 0) (jrow X 167 G') = _ from d7, bnd_some, chk_pos (jinN (by omega) (by omega)), jwT (a := 2024 + 6 * t) (by omega), z0, if_neg (by rw [jwm1, jw_of (x := M 17 t) (by omega) (by omega)]; omega)]
        exact bad F2 G2 x d1 d2 d3 d4 d5
  · have hf := h.fl c3 c4 c5
    have hj := hf.jt.up (c := 13 + 5) (i := t) (x := -1) (by omega) (by omega) (by omega)
    obtain ⟨M', r1, r2, r3⟩ := j_131 (n := n) hj ht
    rw [show f_X6_passWord n 4 M = _ from c1, bnd_some, show f_X12_wantWord n 7 X = _ from c2, bnd_some, if_pos (by decide), j_numberAt hf.1.jk, bnd_some, chk_pos jt, jwT (by omega), letm_ap, chk_pos jt, chk_pos jt, j_fail hj.1, bnd_some]
    refine po_j hf ⟨M', ?_, by rw [r2, jup_cell (by omega)], r3⟩ rfl
    rw [r1]
    split <;> rfl
theorem tr1 (hn : 2000 ≤ n) (h : MS T N M0 X0 M X s k w v a (upO a 1)) (hs : s0 < s) (ht : t < 8) (ea : a 1 = (t : Int)) : PO T N M0 X0 s0 (tt1 n (t : Int) M) (rt1 n ((2024 + 6 * t : Nat) : Int) X) := by
  have fq : freeQ a (8 + 6 * t) := Or.inr (Or.inl ⟨0, t, by omega, ht, by omega, by omega⟩)
  have jt : jin (t : Int) 8 := jinN ht (by omega)
  unfold tt1 rt1
  rcases s_word (n := n) (c := 3) hn h.1 h.2.1 (by omega) with ⟨F', G', s', k', w', v', c1, c2, c3, c4, c5, c6⟩ | ⟨F', G', c1, c2, c3, c4, c5⟩
  · have h1 := h.row c3 c5 c6
    obtain ⟨q1, q2, q3, q4, -⟩ := h1.2.2.1
    have am1 : am (upO a 1) := upO_am q2 (by omega) (by show a 1 < 8; omega)
    have u0 : upO a 1 0 = a 0 := by unfold upO; rw [if_neg (by decide)]
    have x16 : jrow X 167 G' 168 (jw 2016).toNat = a 0 := (q1 0 (by omega)).2
    have ol := s_old2 (n := n) (th := 13) (off := 88) (o := 0) (to := 2024 + 6 * t) hn h1.1 h1.2.1 (by omega) q4 am1 (by omega) (by omega)
    rw [u0] at ol
    have hfx : ∀ x : Int, MS T N M0 X0 (jrow M 9 F') (jup (jrow X 167 G') 168 (2024 + 6 * t) x) s' k' w' v' a (upO a 1) := fun x => by
      have := h1.freeX (y := x) fq
      rw [show 2016 + (8 + 6 * t) = 2024 + 6 * t by omega] at this
      exact this
    rw [show f_X6_passWord n 3 M = _ from c1, bnd_some, show f_X12_wantWord n 6 X = _ from c2, bnd_some, if_neg (by decide)]
    unfold f_X12_newPlaceTo
    rw [chk_pos (by decide), x16]
    rcases ol with ⟨j, d0, d1, -, -, jA⟩ | ⟨F2, G2, x, d1, d2, d3, d4, d5, -⟩
    · have a0 := q2 0 (by omega)
      rw [if_pos rfl] at a0
      obtain ⟨F3, G3, s3, k3, w3, v3, g1, g2, g3, g4, g5, g6⟩ := jA (jup (jrow M 9 F') (13 + 4) t (j : Int)) (by rw [jup_cell (by omega)]) (by rw [jup_cell (by omega)]) (by rw [jup_cell (by omega)])
      rw [show f_X4_numberAt n 13 1 (jrow M 9 F') = _ from d1, bnd_some, chk_pos jt, jwT (a := t) (by omega), letm_ap, show f_X12_oldOne n 88 (a 0) ((2024 + 6 * t : Nat) : Int) (jrow X 167 G') = _ from g2, bnd_some, chk_pos (by decide), bnd_some, if_neg (by decide), g1, bnd_some]
      have h2 : MS T N M0 X0 (jrow (jup (jrow M 9 F') (13 + 4) t (j : Int)) 9 F3) (jrow (jup (jrow X 167 G') 168 (2024 + 6 * t) (j : Int)) 167 G3) s3 k3 w3 v3 a (upO a 1) :=
        ((hfx (j : Int)).freeM (c := 17) (i := t) (x := (j : Int)) (Or.inl (by omega))).row g3 (by rw [jup_cell (by omega)]; exact g5) (by rw [jup_cell (by omega)]; exact g6)
      refine tr2 hn h2 (by omega) ht ea ⟨fun _ => ?_, fun z => by omega, fun z => by omega, fun z => by omega, fun z => by omega⟩
      rw [jrow_ne _ (by omega), jup_if, if_pos rfl, jrow_ne _ (by omega), jup_if, if_pos rfl]
      exact ⟨rfl, by omega, d0⟩
    · have hf := (hfx x).fl d3 d4 (by rw [jup_cell (by omega)]; exact d5)
      have hj := hf.jt.up (c := 13 + 4) (i := t) (x := -1) (by omega) (by omega) (by omega)
      obtain ⟨M', r1, r2, r3⟩ := j_tt2 (n := n) hj ht
      rw [show f_X4_numberAt n 13 1 (jrow M 9 F') = _ from d1, bnd_some, chk_pos jt, jwT (a := t) (by omega), letm_ap, show f_X12_oldOne n 88 (a 0) ((2024 + 6 * t : Nat) : Int) (jrow X 167 G') = _ from d2, bnd_some, chk_pos (by decide), bnd_some, if_pos (by decide), j_adv hj.1, bnd_some]
      exact po_j hf ⟨M', r1, by rw [r2, jup_cell (by omega)], r3⟩ rfl
  · have hf := h.fl c3 c4 c5
    have hj := hf.jt.up (c := 13 + 4) (i := t) (x := -1) (by omega) (by omega) (by omega)
    obtain ⟨M', r1, r2, r3⟩ := j_tt2 (n := n) hj ht
    rw [show f_X6_passWord n 3 M = _ from c1, bnd_some, show f_X12_wantWord n 6 X = _ from c2, bnd_some, if_pos (by decide), j_numberAt hf.1.jk, bnd_some, chk_pos jt, jwT (by omega), letm_ap, j_adv hj.1, bnd_some]
    exact po_j hf ⟨M', r1, by rw [r2, jup_cell (by omega)], r3⟩ rfl
theorem p_trainT (hn : 2000 ≤ n) (h : MS T N M0 X0 M X s k w v a a) (hk : k = 1) : PO T N M0 X0 s (f_X2_takeTrain n M) (f_X12_aTrain n X) := by
  obtain ⟨q1, q2, q3, q4, q5, q6, q7⟩ := h.2.2.1
  have m0 : M 13 0 = a 0 := (q1 0 (by omega)).1
  have m1 : M 13 1 = a 1 := (q1 1 (by omega)).1
  have x1 : X 168 2017 = a 1 := (q1 1 (by omega)).2
  have a1 := q2 1 (by omega)
  rw [if_neg (by decide)] at a1
  obtain ⟨t, t9, et⟩ := natOf (x := a 1) (k := 9) a1.1 (by omega)
  have j17 : (jw 2017).toNat = 2017 := by decide
  unfold f_X2_takeTrain f_X12_aTrain
  rw [letv_ap, m1, chk_pos (by decide), letv_ap, j17, x1, et, show (2024 : Int) + 6 * (t : Int) = ((2024 + 6 * t : Nat) : Int) by omega]
  by_cases c : t < 8
  · obtain ⟨F1, b1, b2⟩ := s_new (n := n) (o := 1) hn h.1 h.2.1 hk (by omega) q4 q2 (fun u hu => (q1 u hu).2) m0 (by show a 1 < 8; omega)
    rw [if_pos (by rw [jwN (by omega), show jw 8 = 8 by decide]; omega), b1, bnd_some]
    rw [et] at b2
    rcases b2 with ⟨M2, X2, s', k', w', v', c1, c2, c3, c4, c5, c6, c7, c8, c9, c10, -, c12⟩ | ⟨F', G', c1, c2, c3, c4, c5⟩
    · have hm := h.named c3 c5 c6 c7 c8 c9 c10 c12
      rw [show f_X2_passNewName n 2 (t : Int) (jrow M 9 F1) = _ from c1, bnd_some, show f_X12_newOne n 1 8 6 X = _ from c2, bnd_some, if_neg (by decide)]
      exact tr1 hn hm c4 c et
    · have hf := h.fl c3 c4 c5
      rw [show f_X2_passNewName n 2 (t : Int) (jrow M 9 F1) = _ from c1, bnd_some, show f_X12_newOne n 1 8 6 X = _ from c2, bnd_some, if_pos (by decide)]
      exact po_j hf (j_tt1 (n := n) hf.jt c) rfl
  · obtain ⟨F', G', c1, c2, c3, c4, c5, -⟩ := s_fail (n := n) h.2.1 (why := 6) (by omega)
    have e8 : a 1 = 8 := by omega
    have en : f_X12_newOne n 1 8 6 X = some (0, jrow X 167 G') := by
      unfold f_X12_newOne
      rw [chk_pos (by decide), show (jw (2016 + 1)).toNat = 2017 by decide, x1, e8, if_pos rfl, fails_chk c2]
    rw [if_neg (by rw [jwN (by omega), show jw 8 = 8 by decide]; omega), c1, bnd_some, en, bnd_some, if_pos (by decide)]
    exact Or.inr ⟨_, _, rfl, rfl, h.fl c3 c4 c5⟩
end PTRAIN

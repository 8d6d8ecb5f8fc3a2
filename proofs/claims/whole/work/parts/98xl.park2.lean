section PPARK2
variable {n : Nat} {M X M0 X0 : JMem} {T : Nat → Int} {N s s0 k : Nat} {w : List Nat} {v : Int} {a a' : Nat → Int}
/-- both begin a text -/
theorem both_begin (hn : 2000 ≤ n) {f1 most : Int} (hN : (N : Int) ≤ f1) (h1 : 0 ≤ f1 ∧ f1 ≤ 900) (hmost : (N : Int) ≤ most) (hm9 : most ≤ 900) (hT : ∀ k : Nat, k < N → -128 ≤ M 10 k ∧ M 10 k < 128) (hX : ∀ k : Nat, k < N → X 173 k = M 10 k) (hK : ∀ k : Nat, k < 27 → M 11 k = jM0 11 k) (h10 : X 167 10 = f1) :
    ∃ (F' : Nat → Int) (X1 : JMem) (s k : Nat) (w : List Nat) (v : Int), f_X6_open n (N : Int) M = some (0, jrow M 9 F') ∧ f_X12_begins n (N : Int) most X = some (1, X1) ∧ TXT (M 10) N (jrow M 9 F') X1 ∧ TL (M 10) N F' (X1 167) s k w v ∧ (∀ c : Nat, c ≠ 167 → c ≠ 174 → X1 c = X c) ∧ (∀ j : Nat, j < 10 ∨ 20 ≤ j → X1 167 j = X 167 j) ∧ X1 167 10 = 0 := by
  have hTT : TT (M 10) N := ⟨by omega, hT⟩
  obtain ⟨Xa, r1, r2, r3⟩ := q_begin (n := n) (m := N) (by omega) N 0 n (jup X 167 11 (N : Int)) (by omega) (by omega)
  have g : Nat → Int := fun j => 0
  have eL : f_X12_begins n (N : Int) most X = bnd (f_X12_ahead n (jrow Xa 167 (upA (upA (upA (upA (upA (Xa 167) 10 0) 18 0) 17 (-1)) 14 0) 19 0))) fun _ M7 => some (1, M7) := by
    unfold f_X12_begins
    rw [if_neg (by rw [jwN (by omega)]; omega), h10, if_neg (by rw [jwN (by omega), jw_of (x := f1) (by omega) (by omega)]; omega), if_pos (by rw [jwN (by omega), jw_of (x := most) (by omega) (by omega)]; exact hmost), letm_ap, letv_ap, show f_X12_begins_L26 n n (N : Int) 0 _ = _ from r1]
    unfold f_X12_begins_L49
    rw [letm_ap, letm_ap, letm_ap, letm_ap, letm_ap, jup_jrow 167 10 0, jup_row_up, jup_row_up, jup_row_up, jup_row_up]
  have e11 : Xa 167 11 = (N : Int) := by rw [r2 167 (by omega), jup_if, if_pos rfl]
  have x174 : ∀ k : Nat, k < N → Xa 174 k = M 10 k := fun k hk => by
    have := hT k hk
    rw [r3 k, if_pos (by omega), jup_cell (by omega), hX k hk, jw8_of (by omega) (by omega)]
  obtain ⟨f', g', s, k, w, v, c1, c2, c3, c4, c5, c6⟩ := adv (n := n) (M := M) (X := Xa) (T := M 10) (N := N) (p := 0) hn hTT (fun _ _ => rfl) x174 hK (by omega) (f := upA (upA (upA (upA (M 9) 8 (N : Int)) 9 0) 2 0) 3 (-1)) (g := upA (upA (upA (upA (upA (Xa 167) 10 0) 18 0) 17 (-1)) 14 0) 19 0) (by rw [upA_ne (by omega), upA_same]) (by rw [upA_same]) (by rw [upA_ne (by omega), upA_ne (by omega), upA_ne (by omega), upA_same]) (by rw [upA_ne (by omega), upA_ne (by omega), upA_same]; rfl) (by rw [upA_ne (by omega), upA_ne (by omega), upA_ne (by omega), upA_ne (by omega), upA_ne (by omega)]; exact e11) (by rw [upA_ne (by omega), upA_same]; rfl) (by rw [upA_ne (by omega), upA_ne (by omega), upA_ne (by omega), upA_same]) (by rw [upA_ne (by omega), upA_ne (by omega), upA_same])
  refine ⟨f', jrow Xa 167 g', s, k, w, v, ?_, by rw [eL, c2, bnd_some], ⟨hTT, fun k _ => by rw [jrow_ne _ (by omega)], fun k hk => by rw [jrow_ne _ (by omega)]; exact x174 k hk, fun k hk => by rw [jrow_ne _ (by omega)]; exact hK k hk⟩, by rw [jrow_same]; exact c3, fun c q1 q2 => by rw [jrow_ne _ q1, r2 c q2, jup_cell q1], fun j hj => ?_, ?_⟩
  · unfold f_X6_open
    rw [letm_ap, letm_ap, letm_ap, letm_ap, jup_jrow 9 8 (N : Int), jup_row_up, jup_row_up, jup_row_up, c1, bnd_some]
  · rw [jrow_same, c6 j (by omega) (by omega) (by omega) (by omega), upA_ne (by omega), upA_ne (by omega), upA_ne (by omega), upA_ne (by omega), upA_ne (by omega), r2 167 (by omega), jup_if, if_neg (by omega)]
  · rw [jrow_same, c6 10 (by omega) (by omega) (by omega) (by omega), upA_ne (by omega), upA_ne (by omega), upA_ne (by omega), upA_ne (by omega), upA_same]
theorem park_core (hn : 2000 ≤ n) {f1 : Int} (hN : (N : Int) ≤ f1) (h1 : 0 ≤ f1 ∧ f1 ≤ 900) (hT : ∀ k : Nat, k < N → -128 ≤ M 10 k ∧ M 10 k < 128) (hX : ∀ k : Nat, k < N → X 173 k = M 10 k) (hK : ∀ k : Nat, k < 27 → M 11 k = jM0 11 k) (h10 : X 167 10 = f1) :
    ∃ M' X' : JMem, f_X12_park n (N : Int) X = f_X12_park_L50 n X' ∧ (∀ c : Nat, c ≠ 9 → c < 12 ∨ 33 ≤ c → M' c = M c) ∧ (∀ c : Nat, c ≠ 167 → c ≠ 168 → c ≠ 169 → c ≠ 174 → X' c = X c) ∧ (∀ j : Nat, j < 10 ∨ 21 ≤ j → X' 167 j = X 167 j) ∧ X' 167 10 = 0 ∧ (∀ i : Nat, i < 2016 → X' 168 i = X 168 i) ∧ (∀ j : Nat, j < 88 → X' 169 j = X 169 j) ∧
      ((f_X2_takesAll n (N : Int) M = some (1, M') ∧ M' 9 2 = 0 ∧ M' 9 3 = -1 ∧ X' 167 18 = 0 ∧ X' 167 17 = -1 ∧ X' 168 2023 = -1 ∧ RP (blk M' 13 12) (slot X' 2016) ∧ RN (blk M' 25 8) (slot X' 2016) ∧ RK (blk M' 13 12) (fun j => X' 169 (88 + j))) ∨
       (f_X2_takesAll n (N : Int) M = some (0, M') ∧ FLT (M' 9) (X' 167))) := by
  obtain ⟨F', X1, s, k, w, v, b1, b2, b3, b4, b5, b6, b7⟩ := both_begin (n := n) (M := M) (X := X) hn hN h1 (most := 900) (by omega) (by omega) hT hX hK h10
  obtain ⟨X2, p1, p2, p3⟩ := q_plain (n := n) (X := X1) hn
  have mcl : ∀ c : Nat, c ≠ 13 → jup (jup (jup (jup (jup (jrow M 9 F') 13 0 0) 13 1 0) 13 2 0) 13 3 2) 13 4 0 c = jrow M 9 F' c := fun c hc => by
    rw [jup_cell hc, jup_cell hc, jup_cell hc, jup_cell hc, jup_cell hc]
  have m13 : ∀ j : Nat, jup (jup (jup (jup (jup (jrow M 9 F') 13 0 0) 13 1 0) 13 2 0) 13 3 2) 13 4 0 13 j = if j = 4 then 0 else if j = 3 then 2 else if j = 2 then 0 else if j = 1 then 0 else if j = 0 then 0 else M 13 j := fun j => by
    rw [jup_if, jup_if, jup_if, jup_if, jup_if, jrow_ne _ (by omega)]
  generalize eM1 : jup (jup (jup (jup (jup (jrow M 9 F') 13 0 0) 13 1 0) 13 2 0) 13 3 2) 13 4 0 = M1 at mcl m13
  obtain ⟨M2, d1, d2, d3, d4, d5, d6, d7⟩ := c_clear (n := n) (M := M1) hn (by rw [m13]; rfl)
  have e13 : M2 13 = M1 13 := d2 13 (by omega)
  have z13 : ∀ j : Nat, j < 3 → M2 13 j = 0 := fun j hj => by
    rw [e13, m13, if_neg (by omega), if_neg (by omega)]
    by_cases c2 : j = 2
    · rw [if_pos c2]
    · by_cases c1 : j = 1
      · rw [if_neg c2, if_pos c1]
      · rw [if_neg c2, if_neg c1, if_pos (by omega)]
  -- the state at the first part
  have hMS : MS (M 10) N (jup M2 12 3 0) (jup X2 167 20 0) (jup M2 12 3 0) (jup X2 167 20 0) s k w v (fun _ => 0) (fun _ => 0) := by
    have k9 : jup M2 12 3 0 9 = F' := by rw [jup_cell (by omega), d2 9 (by omega), mcl 9 (by omega), jrow_same]
    have sl : ∀ i : Nat, i < 504 → slot (jup X2 167 20 0) 2016 i = if i = 7 then -1 else if i = 3 then 2 else 0 := fun i hi => by
      show jup X2 167 20 0 168 (2016 + i) = _
      rw [jup_cell (by omega), p3 (2016 + i)]
      by_cases c7 : i = 7
      · rw [if_pos (by omega), if_pos c7]
      · by_cases c3 : i = 3
        · rw [if_neg (by omega), if_pos (by omega), if_neg c7, if_pos c3]
        · rw [if_neg (by omega), if_neg (by omega), if_pos (by omega), if_neg c7, if_neg c3]
    have s0 : ∀ i : Nat, i < 504 → i ≠ 7 → i ≠ 3 → slot (jup X2 167 20 0) 2016 i = 0 := fun i hi h7 h3 => by rw [sl i hi, if_neg h7, if_neg h3]
    have q13 : ∀ j : Nat, jup M2 12 3 0 13 j = M2 13 j := fun j => by rw [jup_cell (by omega)]
    have b0 : ∀ j : Nat, blk (jup M2 12 3 0) 13 12 0 j = M2 13 j := q13
    have c25 : jup M2 12 3 0 25 = M2 25 := jup_cell (by omega)
    have c26 : jup M2 12 3 0 26 = M2 26 := jup_cell (by omega)
    have c27 : jup M2 12 3 0 27 = M2 27 := jup_cell (by omega)
    refine ⟨b3.mv (by rw [jup_cell (by omega), d2 10 (by omega), mcl 10 (by omega)]) (by rw [jup_cell (by omega), d2 11 (by omega), mcl 11 (by omega)]) (by rw [jup_cell (by omega), p2 174 (by omega)]), ?_, ⟨fun u hu => ?_, fun u hu => ?_, ?_, ?_, ?_, ?_, ?_⟩, FM.refl, FX.refl⟩
    · rw [k9]
      exact b4.congr (fun _ _ _ => rfl) (fun j j1 j2 => by rw [jup_if, if_neg (by omega), p2 167 (by omega)])
    · have := s0 u (by omega) (by omega) (by omega)
      exact ⟨by rw [q13]; exact z13 u hu, this⟩
    · by_cases z : u = 0
      · rw [if_pos z]; exact ⟨Int.le_refl _, by show (0 : Int) ≤ 6; decide⟩
      · rw [if_neg z]; exact ⟨Int.le_refl _, by show (0 : Int) ≤ 8; decide⟩
    · unfold RP
      rw [b0 0, b0 1, b0 2, b0 3, z13 0 (by omega), z13 1 (by omega), z13 2 (by omega), s0 0 (by omega) (by omega) (by omega), s0 1 (by omega) (by omega) (by omega), s0 2 (by omega) (by omega) (by omega), sl 3 (by omega), e13, m13, if_neg (show ¬ (3 : Nat) = 4 by decide), if_pos rfl, if_neg (show ¬ (3 : Nat) = 7 by decide), if_pos rfl]
      exact ⟨⟨rfl, by decide, by decide⟩, ⟨rfl, by decide, by decide⟩, ⟨rfl, by decide, by decide⟩, ⟨rfl, by decide, by decide⟩, fun q => absurd q (by decide), fun t _ q => by omega, fun b _ q => by omega⟩
    · have e04 : blk (jup M2 12 3 0) 13 12 0 4 = 0 := by rw [b0, e13, m13, if_pos rfl]
      refine ⟨by rw [e04]; rfl, fun _ => [], fun i q => ?_, fun i j q => ?_, fun i q => ?_, fun u _ i q => ?_⟩
      · rw [e04] at q; omega
      · rw [e04] at q; omega
      · rw [e04] at q; omega
      · have q' : (i : Int) < 0 := q
        omega
    · unfold RQ
      rw [c25, c26, c27, d3, d5, d6, d4, s0 4 (by omega) (by omega) (by omega), s0 5 (by omega) (by omega) (by omega), s0 6 (by omega) (by omega) (by omega), s0 2 (by omega) (by omega) (by omega)]
      refine ⟨rfl, rfl, rfl, rfl, rfl, rfl, ⟨S8_0, fun b b8 => by rw [bit0]; exact ⟨fun q => absurd q (by decide), fun q => by omega⟩⟩, fun t t8 => s0 _ (by omega) (by omega) (by omega), fun b b8 => (d7 b b8).2, fun b b8 q => by omega, fun b b8 _ => ⟨(d7 b b8).1, s0 _ (by omega) (by omega) (by omega), s0 _ (by omega) (by omega) (by omega), s0 _ (by omega) (by omega) (by omega), s0 _ (by omega) (by omega) (by omega), s0 _ (by omega) (by omega) (by omega)⟩⟩
    · rw [jup_if, if_pos rfl, jup_if, if_pos rfl]
    · rw [jup_if, if_pos rfl]; exact Or.inl rfl
  have hsN := hMS.2.1.2.2.2.2.2.1
  have eC : f_X2_takesAll n (N : Int) M = f_X2_takesAll_L33 n n (N : Int) ((0 : Nat) : Int) (jup M2 12 3 0) := by
    unfold f_X2_takesAll f_X4_clear
    rw [b1, bnd_some, letm_ap, letm_ap, letm_ap, letm_ap, letm_ap, bnd_some, eM1, d1, bnd_some, chk_pos (by decide), letm_ap, letv_ap]
    rfl
  have eR : f_X12_park n (N : Int) X = f_X12_park_L31 n n 1 (jup X2 167 20 0) := by
    unfold f_X12_park
    rw [b2, bnd_some, if_neg (by decide), p1, bnd_some, chk_pos (by decide), letm_ap, letv_ap]
  have fM : ∀ (M' : JMem), FM (jup M2 12 3 0) M' → ∀ c : Nat, c ≠ 9 → c < 12 ∨ 33 ≤ c → M' c = M c := fun M' hM' c c1 c2 => by
    rw [hM'.1 c c1 c2, jup_cell (by omega), d2 c (by omega), mcl c (by omega), jrow_ne _ c1]
  have fX1 : ∀ X' : JMem, FX (jup X2 167 20 0) X' → (∀ c : Nat, c ≠ 167 → c ≠ 168 → c ≠ 169 → c ≠ 174 → X' c = X c) := fun X' hX' c c1 c2 c3 c4 => by
    rw [hX'.1 c c1 c2 c3, jup_cell c1, p2 c c2, b5 c c1 c4]
  have fX2 : ∀ X' : JMem, FX (jup X2 167 20 0) X' → (∀ j : Nat, j < 10 ∨ 21 ≤ j → X' 167 j = X 167 j) := fun X' hX' j hj => by
    rw [hX'.2.1 j (by omega), jup_if, if_neg (by omega), p2 167 (by omega), b6 j (by omega)]
  have fX3 : ∀ X' : JMem, FX (jup X2 167 20 0) X' → X' 167 10 = 0 := fun X' hX' => by
    rw [hX'.2.1 10 (by omega), jup_if, if_neg (by omega), p2 167 (by omega), b7]
  have fX4 : ∀ X' : JMem, FX (jup X2 167 20 0) X' → ∀ i : Nat, i < 2016 → X' 168 i = X 168 i := fun X' hX' i hi => by
    rw [hX'.2.2.1 i (by omega), jup_cell (by omega), p3 i, if_neg (by omega), if_neg (by omega), if_neg (by omega), b5 168 (by omega) (by omega)]
  have fX5 : ∀ X' : JMem, FX (jup X2 167 20 0) X' → ∀ j : Nat, j < 88 → X' 169 j = X 169 j := fun X' hX' j hj => by
    rw [hX'.2.2.2 j hj, jup_cell (by omega), p2 169 (by omega), b5 169 (by omega) (by omega)]
  have cage : ∀ M' : JMem, 0 ≤ M' 13 2 → M' 13 2 ≤ 8 → M' 25 3 = 0 → _ := fun M' z1 z2 z3 => c_cage (n := n) (M := M') (th := 25) (p := 13) (by omega) (by omega) ⟨z1, z2⟩ (by rw [z3]; exact S8_0)
  rw [eC, eR]
  rcases park_loop (n := n) hn N 0 n n (jup M2 12 3 0) (jup X2 167 20 0) s k w v (fun _ => 0) (by omega) (by have := b3.1.1; omega) (by have := b3.1.1; omega) (by omega) hMS with ⟨M', X', s', w', v', b, e1, e2, h⟩ | ⟨M', X', e1, e2, h⟩
  · obtain ⟨q1, q2, q3, q4, q5, q6, q7⟩ := h.2.2.1
    have n2 : M' 13 2 = slot X' 2016 2 := q3.2.2.1.1
    have hn2 := q3.2.2.1.2
    obtain ⟨M3, g1, g2, g3, g4, g5, g6, g7, g8⟩ := cage M' (by omega) (by omega) q5.2.1
    have hF := (h.2.1.2.2.2.2.2.2.2.2.2.2.2 (by omega))
    have k9 : M3 9 = M' 9 := g2 9 (by omega) (by omega) (by omega)
    have b13 : blk M3 13 12 = blk M' 13 12 := blk_congr (by decide) (fun j hj => g2 _ (by omega) (by omega) (by omega))
    have x23 : X' 168 2023 = -1 := by
      rw [h.2.2.2.2.2.2.1 2023 (Or.inr rfl), jup_cell (by omega), p3 2023, if_pos rfl]
    refine ⟨M3, X', e2, fun c c1 c2 => ?_, fX1 X' h.2.2.2.2, fX2 X' h.2.2.2.2, fX3 X' h.2.2.2.2, fX4 X' h.2.2.2.2, fX5 X' h.2.2.2.2, Or.inl ⟨?_, by rw [k9]; exact hF.1, by rw [k9]; exact hF.2.1, h.2.1.2.2.2.2.2.2.1, h.2.1.2.2.2.2.2.2.2.1, x23, by rw [b13]; exact q3, ?_, ?_⟩⟩
    · rw [g2 c (by omega) (by omega) (by omega)]; exact fM M' h.2.2.2.1 c c1 c2
    · rw [e1]
      unfold f_X2_takesAll_L201
      rw [g1, bnd_some, k9, hF.1, if_pos (by decide)]
    · exact q5.rn q3 g2 g3 g4 g5 g6 g7 (fun b b8 => g8 b b8)
    · rw [b13]
      have ea : RKn (blk M' 13 12) (fun j => X' 169 (88 + j)) (fun o => blk M' 13 12 0 o) := by
        obtain ⟨t0, nw, t1, t2, t3, t4⟩ := q4
        have eb : ∀ u : Nat, u < 3 → blk M' 13 12 0 u = b u := fun u hu => (q1 u hu).1
        refine ⟨by show _ = blk M' 13 12 0 0 + blk M' 13 12 0 1 + blk M' 13 12 0 2; rw [eb 0 (by omega), eb 1 (by omega), eb 2 (by omega)]; exact t0, nw, t1, t2, fun i hi => ?_, fun o ho k hk => ?_⟩
        · obtain ⟨o, o1, o2, o3, o4, o5⟩ := t3 i hi
          exact ⟨o, o1, o2, o3, by show _ < blk M' 13 12 0 o; rw [eb o o1]; exact o4, o5⟩
        · exact t4 o ho k (by rw [← eb o ho]; exact hk)
      exact ea.rk
  · obtain ⟨j1, j2, j3, j4', j5, j6⟩ := h
    obtain ⟨M3, g1, g2, g3, g4, g5, g6, g7, g8⟩ := cage M' j4' j5 j6
    have k9 : M3 9 = M' 9 := g2 9 (by omega) (by omega) (by omega)
    refine ⟨M3, X', e2, fun c c1 c2 => ?_, fX1 X' j3, fX2 X' j3, fX3 X' j3, fX4 X' j3, fX5 X' j3, Or.inr ⟨?_, by rw [k9]; exact j1⟩⟩
    · rw [g2 c (by omega) (by omega) (by omega)]; exact fM M' j2 c c1 c2
    · rw [e1]
      unfold f_X2_takesAll_L201
      rw [g1, bnd_some, k9, if_neg (j12 _ j1.jk.1 j1.jk.2.1)]
end PPARK2

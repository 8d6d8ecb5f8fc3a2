section PPLACE
variable {n : Nat} {M X M0 X0 : JMem} {T : Nat → Int} {N s k : Nat} {w : List Nat} {v : Int} {a a' : Nat → Int}
theorem jup_idv {c i : Nat} : jup X c i (X c i) = X := by rw [jup_jrow, upA_id rfl, jrow_self]
theorem RKn.cg2 {P P' : JV} {K K' : Nat → Int} (h : RKn P K a) (h4 : P' 0 4 = P 0 4) (hP : ∀ j q : Nat, 1 ≤ j → j < 4 → P' j q = P j q) (hK : ∀ j : Nat, K' j = K j) : RKn P' K' a := by
  obtain rfl : K' = K := funext hK
  unfold RKn at h ⊢
  have e1 : P' 1 = P 1 := funext fun q => hP 1 q (by omega) (by omega)
  have e2 : P' 2 = P 2 := funext fun q => hP 2 q (by omega) (by omega)
  have e3 : P' 3 = P 3 := funext fun q => hP 3 q (by omega) (by omega)
  rw [e1, e2, e3, h4]
  exact h
theorem po_ok {s' : Nat} (hn : 2000 ≤ n) (h : MS T N M0 X0 M X s' k w v a a) (hs : s < s') : PO T N M0 X0 s (f_X6_passSign n 59 M) (f_X12_parkPart_L150 n 1 X) := by
  unfold f_X12_parkPart_L150
  rw [if_neg (by decide)]
  rcases s_sign (n := n) hn h.1 h.2.1 with ⟨F, G, s2, k2, w2, v2, c1, c2, c3, c4, c5, c6⟩ | ⟨F, G, c1, c2, c3, c4, c5⟩
  · rw [c1, c2, bnd_some, if_neg (by decide)]
    exact Or.inl ⟨_, _, s2, k2, w2, v2, a, rfl, rfl, h.row c3 c5 c6, by omega⟩
  · rw [c1, c2, bnd_some, if_pos (by decide)]
    exact Or.inr ⟨_, _, rfl, rfl, h.fl c3 c4 c5⟩
theorem po_no (h : FJ M0 X0 M X) : PO T N M0 X0 s (f_X6_passSign n 59 M) (f_X12_parkPart_L150 n 0 X) := by
  unfold f_X12_parkPart_L150
  rw [if_pos (by decide), j_passSign h.1.jk]
  exact Or.inr ⟨_, _, rfl, rfl, h⟩
/-- a name is told, the count is not yet -/
theorem MS.named {o s' k' : Nat} {w' : List Nat} {v' : Int} {M2 X2 : JMem} (h : MS T N M0 X0 M X s k w v a a) (hT : TL T N (M2 9) (X2 167) s' k' w' v') (h9 : Fr9 (M 9) (M2 9)) (h67 : FrX (X 167) (X2 167)) (hM : ∀ c : Nat, c ≠ 9 → c ≠ 13 → c ≠ 14 → c ≠ 15 → c ≠ 16 → M2 c = M c) (h13 : ∀ j : Nat, j ≠ 4 → M2 13 j = M 13 j) (hX : ∀ c : Nat, c ≠ 167 → c ≠ 169 → X2 c = X c) (h69 : ∀ j : Nat, j < 88 → X2 169 j = X 169 j) (hR : RKn (blk M2 13 12) (fun j => X2 169 (88 + j)) (upO a o)) : MS T N M0 X0 M2 X2 s' k' w' v' a (upO a o) := by
  obtain ⟨q1, q2, q3, q4, q5, q6, q7⟩ := h.2.2.1
  have e68 : X2 168 = X 168 := hX 168 (by omega) (by omega)
  have es : slot X2 2016 = slot X 2016 := by unfold slot; rw [e68]
  refine ⟨h.1.mv (hM 10 (by omega) (by omega) (by omega) (by omega) (by omega)) (hM 11 (by omega) (by omega) (by omega) (by omega) (by omega)) (hX 174 (by omega) (by omega)), hT, ⟨fun u hu => ?_, q2, ?_, hR, ?_, ?_, ?_⟩, ⟨fun c c1 c2 => ?_, h.2.2.2.1.2.trans h9⟩, ⟨fun c c1 c2 c3 => ?_, fun j hj => ?_, fun i hi => ?_, fun j hj => ?_⟩⟩
  · rw [h13 u (by omega), e68]; exact q1 u hu
  · rw [es]
    refine q3.congr3 (fun q hq => ?_) (fun j q j1 j2 _ => ?_)
    · rw [blk_at (by omega), blk_at (by omega)]; exact h13 q (by omega)
    · rw [blk_at j2, blk_at j2, hM _ (by omega) (by omega) (by omega) (by omega) (by omega)]
  · rw [es]
    unfold RQ at q5 ⊢
    rw [hM 25 (by omega) (by omega) (by omega) (by omega) (by omega), hM 26 (by omega) (by omega) (by omega) (by omega) (by omega), hM 27 (by omega) (by omega) (by omega) (by omega) (by omega)]
    exact q5
  · rw [hM 12 (by omega) (by omega) (by omega) (by omega) (by omega), h67 20 (by omega)]; exact q6
  · rw [hM 12 (by omega) (by omega) (by omega) (by omega) (by omega)]; exact q7
  · rw [hM c c1 (by omega) (by omega) (by omega) (by omega)]; exact h.2.2.2.1.1 c c1 c2
  · rw [hX c c1 c3]; exact h.2.2.2.2.1 c c1 c2 c3
  · rw [h67 j (by omega)]; exact h.2.2.2.2.2.1 j hj
  · rw [e68]; exact h.2.2.2.2.2.2.1 i hi
  · rw [h69 j hj]; exact h.2.2.2.2.2.2.2 j hj
/-- places of a slot that are not told yet -/
def freeQ (a : Nat → Int) (q : Nat) : Prop := (q = 496 ∨ q = 497) ∨ (∃ j t : Nat, j < 5 ∧ t < 8 ∧ a 1 ≤ (t : Int) ∧ q = 8 + j + 6 * t) ∨ ∃ b : Nat, b < 8 ∧ a 2 ≤ (b : Int) ∧ (q = 56 + 10 * b ∨ q = 57 + 10 * b ∨ q = 58 + 10 * b ∨ q = 65 + 10 * b)
theorem freeQ.ne {q : Nat} (h : freeQ a q) : q ≠ 0 ∧ q ≠ 1 ∧ q ≠ 2 ∧ q ≠ 3 ∧ q ≠ 4 ∧ q ≠ 5 ∧ q ≠ 6 ∧ (∀ t : Nat, t < 8 → q ≠ 13 + 6 * t) ∧ (∀ b : Nat, b < 8 → q ≠ 59 + 10 * b ∧ q ≠ 60 + 10 * b ∧ q ≠ 61 + 10 * b ∧ q ≠ 62 + 10 * b ∧ q ≠ 63 + 10 * b) ∧ (∀ t j : Nat, t < 8 → (t : Int) < a 1 → j < 5 → q ≠ 8 + j + 6 * t) ∧ (∀ b : Nat, b < 8 → (b : Int) < a 2 → q ≠ 56 + 10 * b ∧ q ≠ 57 + 10 * b ∧ q ≠ 58 + 10 * b) := by
  rcases h with h | ⟨j, t, h1, h2, h3, h4⟩ | ⟨b, h1, h2, h3⟩
  · refine ⟨by omega, by omega, by omega, by omega, by omega, by omega, by omega, fun t _ => by omega, fun b _ => by omega, fun t j _ _ _ => by omega, fun b _ _ => by omega⟩
  · refine ⟨by omega, by omega, by omega, by omega, by omega, by omega, by omega, fun t _ => by omega, fun b _ => by omega, fun t j _ _ _ => by omega, fun b _ _ => by omega⟩
  · refine ⟨by omega, by omega, by omega, by omega, by omega, by omega, by omega, fun t _ => by omega, fun b _ => by omega, fun t j _ _ _ => by omega, fun b _ _ => by omega⟩
theorem freeQ.n7 {q : Nat} (h : freeQ a q) : q ≠ 7 := by
  rcases h with h | ⟨j, t, h1, h2, h3, h4⟩ | ⟨b, h1, h2, h3⟩ <;> omega
theorem MS.freeX {q : Nat} {y : Int} (h : MS T N M0 X0 M X s k w v a a') (hq : freeQ a q) : MS T N M0 X0 M (jup X 168 (2016 + q) y) s k w v a a' := by
  obtain ⟨n0, n1, n2, n3, n4, n5, n6, nt, nb, nt2, nb2⟩ := hq.ne
  obtain ⟨q1, q2, q3, q4, q5, q6, q7⟩ := h.2.2.1
  have es : slot (jup X 168 (2016 + q) y) 2016 = upA (slot X 2016) q y := slot_up
  have e1 : slot X 2016 1 = a 1 := (q1 1 (by omega)).2
  have e2 : slot X 2016 2 = a 2 := (q1 2 (by omega)).2
  refine h.mv (fun _ _ => rfl) (fun c c1 c2 c3 => jup_cell c2) (fun j hj => by rw [jup_cell (by omega)]) (fun i hi => by rw [jup_if, if_neg (by have := hq.n7; omega)]) (fun j hj => by rw [jup_cell (by omega)]) ⟨fun u hu => ?_, q2, ?_, ?_, ?_, ?_, q7⟩
  · rw [jup_if, if_neg (by omega)]; exact q1 u hu
  · rw [es]
    refine q3.gen2 (fun i hi => ⟨rfl, upA_ne (by omega)⟩) (fun t t8 ht j hj => ⟨rfl, upA_ne (Ne.symm (nt2 t j t8 (by omega) hj))⟩) (fun b b8 hb => ?_)
    have := nb b b8
    have := nb2 b b8 (by omega)
    exact ⟨rfl, rfl, rfl, upA_ne (by omega), upA_ne (by omega), upA_ne (by omega)⟩
  · exact RKn.cg q4 (fun _ _ _ _ => rfl) (fun j => by rw [jup_cell (by omega)])
  · rw [es]
    unfold RQ at q5 ⊢
    obtain ⟨f1, f2, f3, f4, f5, f6, f7, f8, f9, f10, f11⟩ := q5
    rw [upA_ne (Ne.symm n4), upA_ne (Ne.symm n5), upA_ne (Ne.symm n6), upA_ne (Ne.symm n2), upA_ne (Ne.symm n1)]
    refine ⟨f1, f2, f3, f4, f5, f6, ⟨f7.1, fun b b8 => ?_⟩, fun t t8 => ?_, f9, fun b b8 hb => ?_, fun b b8 hb => ?_⟩
    · rw [f7.2 b b8]
      by_cases c : (b : Int) < slot X 2016 2
      · rw [upA_ne (by have := nb2 b b8 (by omega); omega)]
      · exact ⟨fun z => absurd z.1 c, fun z => absurd z.1 c⟩
    · rw [upA_ne (Ne.symm (nt t t8))]; exact f8 t t8
    · have := nb b b8
      have := nb2 b b8 (by omega)
      rw [upA_ne (by omega), upA_ne (by omega), upA_ne (by omega), upA_ne (by omega), upA_ne (by omega)]; exact f10 b b8 hb
    · have := nb b b8
      rw [upA_ne (by omega), upA_ne (by omega), upA_ne (by omega), upA_ne (by omega), upA_ne (by omega)]; exact f11 b b8 hb
  · rw [jup_cell (by omega)]; exact q6
theorem MS.freeM {c i : Nat} {x : Int} (h : MS T N M0 X0 M X s k w v a a') (hc : (17 ≤ c ∧ c < 22 ∧ a 1 ≤ (i : Int)) ∨ (22 ≤ c ∧ c < 25 ∧ a 2 ≤ (i : Int))) : MS T N M0 X0 (jup M c i x) X s k w v a a' := by
  obtain ⟨q1, q2, q3, q4, q5, q6, q7⟩ := h.2.2.1
  have e1 : slot X 2016 1 = a 1 := (q1 1 (by omega)).2
  have e2 : slot X 2016 2 = a 2 := (q1 2 (by omega)).2
  refine h.mv (fun e he => jup_cell (by omega)) (fun _ _ _ _ => rfl) (fun _ _ => rfl) (fun _ _ => rfl) (fun _ _ => rfl) ⟨fun u hu => ?_, q2, ?_, ?_, ?_, ?_, ?_⟩
  · rw [jup_cell (by omega)]; exact q1 u hu
  · refine q3.gen2 (fun i hi => ⟨?_, rfl⟩) (fun t t8 ht j hj => ⟨?_, rfl⟩) (fun b b8 hb => ⟨?_, ?_, ?_, rfl, rfl, rfl⟩)
    · exact blk_jup (by omega) (fun z => by omega)
    · exact blk_jup (by omega) (fun z => by omega)
    · exact blk_jup (by omega) (fun z => by omega)
    · exact blk_jup (by omega) (fun z => by omega)
    · exact blk_jup (by omega) (fun z => by omega)
  · exact RKn.cg q4 (fun j q hj _ => blk_jup (by omega) (fun z => by omega)) (fun _ => rfl)
  · unfold RQ at q5 ⊢
    rw [jup_cell (by omega), jup_cell (by omega), jup_cell (by omega)]; exact q5
  · rw [jup_cell (by omega)]; exact q6
  · rw [jup_cell (by omega)]; exact q7
theorem upO_am {o : Nat} (h : am a) (ho : o < 3) (hlt : a o < mo o) : am (upO a o) := fun u hu => by
  have := h u hu
  unfold upO
  by_cases e : u = o
  · subst e
    rw [if_pos rfl]
    unfold mo at hlt
    by_cases z : u = 0
    · rw [if_pos z] at hlt this ⊢; omega
    · rw [if_neg z] at hlt this ⊢; omega
  · rw [if_neg e]; exact this
theorem MS.cnt0 (h : MS T N M0 X0 M X s k w v a (upO a 0)) (hlt : a 0 < 6) : MS T N M0 X0 (jup M 13 0 (a 0 + 1)) (jup X 168 2016 (a 0 + 1)) s k w v (upO a 0) (upO a 0) := by
  obtain ⟨q1, q2, q3, q4, q5, q6, q7⟩ := h.2.2.1
  have e0 : slot X 2016 0 = a 0 := (q1 0 (by omega)).2
  have es : slot (jup X 168 2016 (a 0 + 1)) 2016 = upA (slot X 2016) 0 (a 0 + 1) := slot_up (q := 0)
  refine h.mv (fun e he => jup_cell (by omega)) (fun c c1 c2 c3 => jup_cell c2) (fun j hj => by rw [jup_cell (by omega)]) (fun i hi => by rw [jup_if, if_neg (by omega)]) (fun j hj => by rw [jup_cell (by omega)]) ⟨fun u hu => ?_, upO_am q2 (by omega) hlt, ?_, ?_, ?_, ?_, ?_⟩
  · rw [jup_if, jup_if]
    unfold upO
    by_cases z : u = 0
    · subst z
      rw [if_pos rfl, if_pos rfl, if_pos rfl]; exact ⟨rfl, rfl⟩
    · rw [if_neg z, if_neg (show ¬ 2016 + u = 2016 by omega), if_neg z]; exact q1 u hu
  · rw [es]
    have a0 := (q2 0 (by omega)).1
    have pb : ∀ j i : Nat, j < 12 → ¬ (j = 0 ∧ i = 0) → blk (jup M 13 0 (a 0 + 1)) 13 12 j i = blk M 13 12 j i := fun j i hj hji => blk_jup hj (fun z => hji ⟨by omega, z.2⟩)
    unfold RP at q3 ⊢
    obtain ⟨r0, r1, r2, r3, r4, r5, r6⟩ := q3
    rw [pb 0 1 (by omega) (by omega), pb 0 2 (by omega) (by omega), pb 0 3 (by omega) (by omega), upA_same, upA_ne (show (1 : Nat) ≠ 0 by decide), upA_ne (show (2 : Nat) ≠ 0 by decide), upA_ne (show (3 : Nat) ≠ 0 by decide), show blk (jup M 13 0 (a 0 + 1)) 13 12 0 0 = a 0 + 1 by rw [blk_at (by omega), jup_if, if_pos rfl]]
    refine ⟨⟨rfl, by omega, by omega⟩, r1, r2, r3, fun _ => by omega, fun t t8 ht => ?_, fun b b8 hb => ?_⟩
    · rw [pb 4 t (by omega) (by omega), pb 5 t (by omega) (by omega), pb 6 t (by omega) (by omega), pb 7 t (by omega) (by omega), pb 8 t (by omega) (by omega), upA_ne (show 8 + 6 * t ≠ 0 by omega), upA_ne (show 9 + 6 * t ≠ 0 by omega), upA_ne (show 10 + 6 * t ≠ 0 by omega), upA_ne (show 11 + 6 * t ≠ 0 by omega), upA_ne (show 12 + 6 * t ≠ 0 by omega)]
      obtain ⟨z1, z2, z3, z4, z5⟩ := r5 t t8 ht
      exact ⟨⟨z1.1, z1.2.1, by omega⟩, ⟨z2.1, z2.2.1, by omega⟩, z3, z4, z5⟩
    · rw [pb 9 b (by omega) (by omega), pb 10 b (by omega) (by omega), pb 11 b (by omega) (by omega), upA_ne (show 56 + 10 * b ≠ 0 by omega), upA_ne (show 57 + 10 * b ≠ 0 by omega), upA_ne (show 62 + 10 * b ≠ 0 by omega)]
      exact r6 b b8 hb
  · exact q4.cg2 (blk_jup (by omega) (fun z => by omega)) (fun j q j1 j2 => blk_jup (by omega) (fun z => by omega)) (fun j => by rw [jup_cell (by omega)])
  · rw [es]
    unfold RQ at q5 ⊢
    obtain ⟨f1, f2, f3, f4, f5, f6, f7, f8, f9, f10, f11⟩ := q5
    rw [jup_cell (by omega), jup_cell (by omega), jup_cell (by omega), upA_ne (by omega), upA_ne (by omega), upA_ne (by omega), upA_ne (by omega), upA_ne (by omega)]
    refine ⟨f1, f2, f3, f4, f5, f6, ⟨f7.1, fun b b8 => ?_⟩, fun t t8 => ?_, f9, fun b b8 hb => ?_, fun b b8 hb => ?_⟩
    · rw [upA_ne (by omega)]; exact f7.2 b b8
    · rw [upA_ne (by omega)]; exact f8 t t8
    · rw [upA_ne (by omega), upA_ne (by omega), upA_ne (by omega), upA_ne (by omega), upA_ne (by omega)]; exact f10 b b8 hb
    · rw [upA_ne (by omega), upA_ne (by omega), upA_ne (by omega), upA_ne (by omega), upA_ne (by omega)]; exact f11 b b8 hb
  · rw [jup_cell (by omega), jup_cell (by omega)]; exact q6
  · rw [jup_cell (by omega)]; exact q7
theorem p_place (hn : 2000 ≤ n) (h : MS T N M0 X0 M X s k w v a a) (hk : k = 1) : PO T N M0 X0 s (bnd (f_X2_takePlace n M) fun _ M7 => f_X6_passSign n 59 M7) (bnd (f_X12_newOne n 0 6 0 X) fun r12 M13 => letv r12 fun y14 => chk (jin 2016 3160) <| if jw y14 = 0 then (f_X12_parkPart_L107 n y14 2016 (M13 168 (jw 2016).toNat) 0 M13) else (f_X12_parkPart_L107 n y14 2016 (M13 168 (jw 2016).toNat) 1 M13)) := by
  obtain ⟨q1, q2, q3, q4, q5, q6, q7⟩ := h.2.2.1
  have m0 : M 13 0 = a 0 := (q1 0 (by omega)).1
  have x0 : X 168 2016 = a 0 := (q1 0 (by omega)).2
  have a0 := q2 0 (by omega)
  rw [if_pos rfl] at a0
  have j16 : (jw 2016).toNat = 2016 := by decide
  unfold f_X2_takePlace
  by_cases c : a 0 < 6
  · obtain ⟨F1, b1, b2⟩ := s_new (n := n) (o := 0) hn h.1 h.2.1 hk (by omega) q4 q2 (fun u hu => (q1 u hu).2) m0 c
    rw [m0, if_pos (by rw [jw_of (x := a 0) (by omega) (by omega), show jw 6 = 6 by decide]; exact c), b1, bnd_some, show jrow M 9 F1 13 0 = a 0 by rw [jrow_ne _ (by omega)]; exact m0]
    rcases b2 with ⟨M2, X2, s', k', w', v', c1, c2, c3, c4, c5, c6, c7, c8, c9, c10, -, c12⟩ | ⟨F', G', c1, c2, c3, c4, c5⟩
    · have hm := h.named c3 c5 c6 c7 c8 c9 c10 c12
      rw [show f_X2_passNewName n 1 (a 0) (jrow M 9 F1) = _ from c1, bnd_some, letm_ap, bnd_some, show f_X12_newOne n 0 6 0 X = _ from c2, bnd_some, letv_ap, chk_pos (by decide), if_neg (by decide)]
      unfold f_X12_parkPart_L107
      rw [chk_pos (by decide), j16, letm_ap, show M2 13 0 = a 0 by rw [c8 0 (by omega)]; exact m0, show X2 168 2016 = a 0 by rw [c9 168 (by omega) (by omega)]; exact x0]
      exact po_ok hn (hm.cnt0 c) c4
    · have hf := h.fl c3 c4 c5
      rw [show f_X2_passNewName n 1 (a 0) (jrow M 9 F1) = _ from c1, bnd_some, letm_ap, bnd_some, show f_X12_newOne n 0 6 0 X = _ from c2, bnd_some, letv_ap, chk_pos (by decide), if_pos (by decide)]
      unfold f_X12_parkPart_L107
      rw [chk_pos (by decide), j16, letm_ap, Int.add_zero, jup_idv]
      exact po_no (hf.of (by rw [jup_cell (by omega)]) ⟨by rw [jup_cell (by omega)]; exact hf.1.jk, hf.2.1.mv (fun e he => jup_cell (by omega)), by rw [jup_if, if_neg (by omega)]; exact hf.2.2.2.1, by rw [jup_if, if_neg (by omega)]; exact hf.2.2.2.2.1, by rw [jup_cell (by omega)]; exact hf.2.2.2.2.2⟩)
  · obtain ⟨F', G', c1, c2, c3, c4, c5, -⟩ := s_fail (n := n) h.2.1 (why := 6) (by omega)
    have e6 : a 0 = 6 := by omega
    rw [m0, if_neg (by rw [jw_of (x := a 0) (by omega) (by omega), show jw 6 = 6 by decide]; exact c), c1, bnd_some, bnd_some]
    have en : f_X12_newOne n 0 6 0 X = some (0, jrow X 167 G') := by
      unfold f_X12_newOne
      rw [chk_pos (by decide), show (jw (2016 + 0)).toNat = 2016 by decide, x0, e6, if_pos rfl, fails_chk c2]
    rw [en, bnd_some, letv_ap, chk_pos (by decide), if_pos (by decide)]
    unfold f_X12_parkPart_L107
    rw [chk_pos (by decide), j16, letm_ap, Int.add_zero, jup_idv]
    exact po_no (h.fl c3 c4 c5)
end PPLACE

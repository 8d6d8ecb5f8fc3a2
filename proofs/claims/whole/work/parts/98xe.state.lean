section PSTATE
variable {n : Nat} {M X M0 X0 : JMem} {T : Nat → Int} {N s k : Nat} {w : List Nat} {v : Int} {a a' : Nat → Int}
/-! a PARK that is being read: what both have of it so far -/
theorem TL.congr {F G F' G' : Nat → Int} (h : TL T N F G s k w v) (hF : ∀ j : Nat, 2 ≤ j → j ≤ 9 → F' j = F j) (hG : ∀ j : Nat, 11 ≤ j → j ≤ 18 → G' j = G j) : TL T N F' G' s k w v := by
  unfold TL at h ⊢
  rw [hF 2 (by omega) (by omega), hF 3 (by omega) (by omega), hF 4 (by omega) (by omega), hF 5 (by omega) (by omega), hF 6 (by omega) (by omega), hF 7 (by omega) (by omega), hF 8 (by omega) (by omega), hF 9 (by omega) (by omega), hG 11 (by omega) (by omega), hG 12 (by omega) (by omega), hG 13 (by omega) (by omega), hG 14 (by omega) (by omega), hG 15 (by omega) (by omega), hG 17 (by omega) (by omega), hG 18 (by omega) (by omega)]
  exact h
def FM (M0 M : JMem) : Prop := (∀ c : Nat, c ≠ 9 → c < 12 ∨ 33 ≤ c → M c = M0 c) ∧ Fr9 (M0 9) (M 9)
def FX (X0 X : JMem) : Prop := (∀ c : Nat, c ≠ 167 → c ≠ 168 → c ≠ 169 → X c = X0 c) ∧ (∀ j : Nat, j < 11 ∨ 21 ≤ j → X 167 j = X0 167 j) ∧ (∀ i : Nat, i < 2016 ∨ i = 2023 → X 168 i = X0 168 i) ∧ ∀ j : Nat, j < 88 → X 169 j = X0 169 j
theorem FM.refl : FM M M := ⟨fun _ _ _ => rfl, Fr9.refl _⟩
theorem FX.refl : FX X X := ⟨fun _ _ _ _ => rfl, fun _ _ => rfl, fun _ _ => rfl, fun _ _ => rfl⟩
theorem FM.row {F : Nat → Int} (h : FM M0 M) (h2 : Fr9 (M 9) F) : FM M0 (jrow M 9 F) := ⟨fun c c1 c2 => by rw [jrow_ne _ c1]; exact h.1 c c1 c2, by rw [jrow_same]; exact h.2.trans h2⟩
theorem FX.row {F : Nat → Int} (h : FX X0 X) (h2 : FrX (X 167) F) : FX X0 (jrow X 167 F) := ⟨fun c c1 c2 c3 => by rw [jrow_ne _ c1]; exact h.1 c c1 c2 c3, fun j hj => by rw [jrow_same, h2 j (by omega)]; exact h.2.1 j hj, fun i hi => by rw [jrow_ne _ (by omega)]; exact h.2.2.1 i hi, fun j hj => by rw [jrow_ne _ (by omega)]; exact h.2.2.2 j hj⟩
theorem FM.mv {M' : JMem} (h : FM M0 M) (h1 : ∀ c : Nat, c < 12 ∨ 33 ≤ c → M' c = M c) : FM M0 M' := ⟨fun c c1 c2 => by rw [h1 c c2]; exact h.1 c c1 c2, by rw [h1 9 (by omega)]; exact h.2⟩
theorem FX.mv {X' : JMem} (h : FX X0 X) (h1 : ∀ c : Nat, c ≠ 167 → c ≠ 168 → c ≠ 169 → X' c = X c) (h2 : ∀ j : Nat, j < 11 ∨ 21 ≤ j → X' 167 j = X 167 j) (h3 : ∀ i : Nat, i < 2016 ∨ i = 2023 → X' 168 i = X 168 i) (h4 : ∀ j : Nat, j < 88 → X' 169 j = X 169 j) : FX X0 X' := ⟨fun c c1 c2 c3 => (h1 c c1 c2 c3).trans (h.1 c c1 c2 c3), fun j hj => (h2 j hj).trans (h.2.1 j hj), fun i hi => (h3 i hi).trans (h.2.2.1 i hi), fun j hj => (h4 j hj).trans (h.2.2.2 j hj)⟩
theorem FX.up {q : Nat} {x : Int} (h : FX X0 X) (hq : 2016 ≤ q ∧ q ≠ 2023) : FX X0 (jup X 168 q x) := h.mv (fun c c1 c2 c3 => jup_cell c2) (fun j _ => by rw [jup_cell (by omega)]) (fun i hi => by rw [jup_if, if_neg (by omega)]) (fun j _ => by rw [jup_cell (by omega)])
theorem TXT.fm {M1 X1 : JMem} (h : TXT T N M0 X0) (h1 : FM M0 M1) (h2 : FX X0 X1) : TXT T N M1 X1 := h.mv (h1.1 10 (by omega) (by omega)) (h1.1 11 (by omega) (by omega)) (h2.1 174 (by omega) (by omega) (by omega))
/-- the state of a new PARK: nobody is anywhere yet -/
def RQ (M : JMem) (A : Nat → Int) : Prop :=
  M 25 0 = 0 ∧ M 25 3 = 0 ∧ M 25 4 = 0 ∧ A 4 = 0 ∧ A 5 = 0 ∧ A 6 = 0 ∧ (S8 (M 25 2) ∧ ∀ b : Nat, b < 8 → (bit (M 25 2) b = true ↔ (b : Int) < A 2 ∧ A (58 + 10 * b) = 1)) ∧ (∀ t : Nat, t < 8 → A (13 + 6 * t) = 0) ∧ (∀ b : Nat, b < 8 → M 27 b = 0) ∧
  (∀ b : Nat, b < 8 → (b : Int) < A 2 → (A (58 + 10 * b) = 0 ∨ A (58 + 10 * b) = 1) ∧ A (59 + 10 * b) = 0 ∧ A (60 + 10 * b) = 0 ∧ M 26 b = A (61 + 10 * b) ∧ S8 (A (61 + 10 * b)) ∧ (∀ t : Nat, t < 8 → A 1 ≤ (t : Int) → bit (A (61 + 10 * b)) t = false) ∧ A (63 + 10 * b) = 0) ∧
  (∀ b : Nat, b < 8 → A 2 ≤ (b : Int) → M 26 b = 0 ∧ A (59 + 10 * b) = 0 ∧ A (60 + 10 * b) = 0 ∧ A (61 + 10 * b) = 0 ∧ A (62 + 10 * b) = 0 ∧ A (63 + 10 * b) = 0)
def PDn (M X : JMem) (a a' : Nat → Int) : Prop := (∀ u : Nat, u < 3 → M 13 u = a u ∧ X 168 (2016 + u) = a u) ∧ am a ∧ RP (blk M 13 12) (slot X 2016) ∧ RKn (blk M 13 12) (fun j => X 169 (88 + j)) a' ∧ RQ M (slot X 2016) ∧ M 12 3 = X 167 20 ∧ (M 12 3 = 0 ∨ M 12 3 = 1)
def MS (T : Nat → Int) (N : Nat) (M0 X0 M X : JMem) (s k : Nat) (w : List Nat) (v : Int) (a a' : Nat → Int) : Prop := TXT T N M X ∧ TL T N (M 9) (X 167) s k w v ∧ PDn M X a a' ∧ FM M0 M ∧ FX X0 X
/-- a fault is told -/
def FJ (M0 X0 M X : JMem) : Prop := FLT (M 9) (X 167) ∧ FM M0 M ∧ FX X0 X ∧ 0 ≤ M 13 2 ∧ M 13 2 ≤ 8 ∧ M 25 3 = 0
/-- the class behind a fault -/
def JT (M0 M : JMem) : Prop := JK (M 9) ∧ FM M0 M ∧ 0 ≤ M 13 2 ∧ M 13 2 ≤ 8 ∧ M 25 3 = 0
theorem FJ.jt (h : FJ M0 X0 M X) : JT M0 M := ⟨h.1.jk, h.2.1, h.2.2.2⟩
theorem FJ.of (h : FJ M0 X0 M X) {M' : JMem} (h9 : M' 9 = M 9) (hj : JT M0 M') : FJ M0 X0 M' X := ⟨by rw [h9]; exact h.1, hj.2.1, h.2.2.1, hj.2.2⟩
theorem PDn.row {F G : Nat → Int} (h : PDn M X a a') (hG : FrX (X 167) G) : PDn (jrow M 9 F) (jrow X 167 G) a a' := by
  have e1 : ∀ c : Nat, c ≠ 9 → jrow M 9 F c = M c := fun c hc => jrow_ne _ hc
  have e2 : ∀ c : Nat, c ≠ 167 → jrow X 167 G c = X c := fun c hc => jrow_ne _ hc
  unfold PDn RQ slot at h ⊢
  rw [e1 13 (by omega), e1 25 (by omega), e1 26 (by omega), e1 27 (by omega), e1 12 (by omega), e2 168 (by omega), e2 169 (by omega), blk_congr (by decide) (M := M) (a := 13) (z := 12) (fun j hj => e1 _ (by omega)), jrow_same, hG 20 (by omega)]
  exact h
theorem MS.row {F G : Nat → Int} {s' k' : Nat} {w' : List Nat} {v' : Int} (h : MS T N M0 X0 M X s k w v a a') (h1 : TL T N F G s' k' w' v') (h2 : Fr9 (M 9) F) (h3 : FrX (X 167) G) : MS T N M0 X0 (jrow M 9 F) (jrow X 167 G) s' k' w' v' a a' :=
  ⟨h.1.mv (jrow_ne _ (by omega)) (jrow_ne _ (by omega)) (jrow_ne _ (by omega)), by rw [jrow_same, jrow_same]; exact h1, h.2.2.1.row h3, h.2.2.2.1.row h2, h.2.2.2.2.row h3⟩
theorem MS.fl {F G : Nat → Int} (h : MS T N M0 X0 M X s k w v a a') (h1 : FLT F G) (h2 : Fr9 (M 9) F) (h3 : FrX (X 167) G) : FJ M0 X0 (jrow M 9 F) (jrow X 167 G) := by
  obtain ⟨p1, p2, p3, p4, p5, p6, p7⟩ := h.2.2.1
  have e1 : M 13 2 = slot X 2016 2 := p3.2.2.1.1
  refine ⟨by rw [jrow_same, jrow_same]; exact h1, h.2.2.2.1.row h2, h.2.2.2.2.row h3, ?_, ?_, ?_⟩
  · rw [jrow_ne _ (by omega), e1]; exact p3.2.2.1.2.1
  · rw [jrow_ne _ (by omega), e1]; exact p3.2.2.1.2.2
  · rw [jrow_ne _ (by omega)]; exact p5.2.1
theorem MS.mv {M' X' : JMem} {b b' : Nat → Int} (h : MS T N M0 X0 M X s k w v a a') (h1 : ∀ c : Nat, c < 12 ∨ 33 ≤ c → M' c = M c) (h2 : ∀ c : Nat, c ≠ 167 → c ≠ 168 → c ≠ 169 → X' c = X c) (h3 : ∀ j : Nat, j ≠ 20 → X' 167 j = X 167 j) (h4 : ∀ i : Nat, i < 2016 ∨ i = 2023 → X' 168 i = X 168 i) (h5 : ∀ j : Nat, j < 88 → X' 169 j = X 169 j) (hp : PDn M' X' b b') : MS T N M0 X0 M' X' s k w v b b' :=
  ⟨h.1.mv (h1 10 (by omega)) (h1 11 (by omega)) (h2 174 (by omega) (by omega) (by omega)), h.2.1.congr (fun j _ _ => by rw [h1 9 (by omega)]) (fun j j1 j2 => h3 j (by omega)), hp, h.2.2.2.1.mv h1, h.2.2.2.2.mv h2 (fun j hj => h3 j (by omega)) h4 h5⟩
theorem slot_up {q : Nat} {x : Int} : slot (jup X 168 (2016 + q) x) 2016 = upA (slot X 2016) q x := by
  funext j
  unfold slot
  rw [jup_if, upA_at]
  by_cases e : j = q
  · rw [if_pos e, if_pos (by omega)]
  · rw [if_neg e, if_neg (by omega)]
/-- rows that are told already stay -/
theorem RP.gen2 {P P' : JV} {A A' : Nat → Int} (h : RP P A) (h0 : ∀ q : Nat, q < 4 → P' 0 q = P 0 q ∧ A' q = A q) (ht : ∀ t : Nat, t < 8 → (t : Int) < A 1 → ∀ j : Nat, j < 5 → P' (4 + j) t = P (4 + j) t ∧ A' (8 + j + 6 * t) = A (8 + j + 6 * t)) (hb : ∀ b : Nat, b < 8 → (b : Int) < A 2 → P' 9 b = P 9 b ∧ P' 10 b = P 10 b ∧ P' 11 b = P 11 b ∧ A' (56 + 10 * b) = A (56 + 10 * b) ∧ A' (57 + 10 * b) = A (57 + 10 * b) ∧ A' (62 + 10 * b) = A (62 + 10 * b)) : RP P' A' := by
  unfold RP at h ⊢
  obtain ⟨q0, q1, q2, q3, q4, q5, q6⟩ := h
  rw [(h0 0 (by omega)).1, (h0 1 (by omega)).1, (h0 2 (by omega)).1, (h0 3 (by omega)).1, (h0 0 (by omega)).2, (h0 1 (by omega)).2, (h0 2 (by omega)).2, (h0 3 (by omega)).2]
  refine ⟨q0, q1, q2, q3, q4, fun t t8 hl => ?_, fun b b8 hl => ?_⟩
  · have e := ht t t8 hl
    rw [show P' 4 t = _ from (e 0 (by omega)).1, show P' 5 t = _ from (e 1 (by omega)).1, show P' 6 t = _ from (e 2 (by omega)).1, show P' 7 t = _ from (e 3 (by omega)).1, show P' 8 t = _ from (e 4 (by omega)).1, show A' (8 + 6 * t) = _ from (e 0 (by omega)).2, show A' (9 + 6 * t) = _ from (e 1 (by omega)).2, show A' (10 + 6 * t) = _ from (e 2 (by omega)).2, show A' (11 + 6 * t) = _ from (e 3 (by omega)).2, show A' (12 + 6 * t) = _ from (e 4 (by omega)).2]
    exact q5 t t8 hl
  · obtain ⟨e1, e2, e3, e4, e5, e6⟩ := hb b b8 hl
    rw [e1, e2, e3, e4, e5, e6]
    exact q6 b b8 hl
theorem RKn.cg {P P' : JV} {K K' : Nat → Int} (h : RKn P K a) (hP : ∀ j q : Nat, j < 4 → ¬ (j = 0 ∧ q = 3) → P' j q = P j q) (hK : ∀ j : Nat, K' j = K j) : RKn P' K' a := by
  obtain rfl : K' = K := funext hK
  unfold RKn at h ⊢
  have e1 : P' 1 = P 1 := funext fun q => hP 1 q (by omega) (by omega)
  have e2 : P' 2 = P 2 := funext fun q => hP 2 q (by omega) (by omega)
  have e3 : P' 3 = P 3 := funext fun q => hP 3 q (by omega) (by omega)
  rw [e1, e2, e3, hP 0 4 (by omega) (by omega)]
  exact h
theorem row_comm {a b q : Nat} {g : Nat → Int} {x : Int} (hab : b ≠ a) : jrow (jup X b q x) a g = jup (jrow X a g) b q x := by
  funext c j
  rw [jrow_at, jup_at, jup_at, jrow_at]
  by_cases e : c = a
  · rw [if_pos e, if_neg (fun z => hab (z.1.symm.trans e)), if_pos e]
  · rw [if_neg e, if_neg e]
theorem MS.odds {x : Int} (h3 : MS T N M0 X0 M X s k w v a a') (hx : 0 ≤ x ∧ x ≤ 16) : MS T N M0 X0 (jup M 13 3 x) (jup X 168 2019 x) s k w v a a' := by
  refine h3.mv (fun c hc => jup_cell (by omega)) (fun c c1 c2 c3 => jup_cell c2) (fun j hj => by rw [jup_cell (by omega)]) (fun i hi => by rw [jup_if, if_neg (by omega)]) (fun j hj => by rw [jup_cell (by omega)]) ?_
  obtain ⟨q1, q2, q3, q4, q5, q6, q7⟩ := h3.2.2.1
  have es : slot (jup X 168 2019 x) 2016 = upA (slot X 2016) 3 x := slot_up (q := 3)
  refine ⟨fun u hu => ?_, q2, ?_, ?_, ?_, ?_, ?_⟩
  · rw [jup_if, if_neg (by omega), jup_if, if_neg (by omega)]; exact q1 u hu
  · rw [es]
    refine q3.odds (fun j k hj hjk => blk_jup hj (fun q => hjk ⟨by omega, q.2⟩)) ?_ hx
    rw [blk_at (by omega), jup_if, if_pos rfl]
  · exact RKn.cg q4 (fun j k hj hjk => blk_jup (by omega) (fun q => hjk ⟨by omega, q.2⟩)) (fun j => by rw [jup_cell (by omega)])
  · rw [es]
    unfold RQ at q5 ⊢
    rw [jup_cell (by omega), jup_cell (by omega), jup_cell (by omega), upA_ne (by omega), upA_ne (by omega), upA_ne (by omega), upA_ne (by omega), upA_ne (by omega)]
    obtain ⟨e1, e2, e3, e4, e5, e6, e7, e8, e9, e10, e11⟩ := q5
    refine ⟨e1, e2, e3, e4, e5, e6, ⟨e7.1, fun b b8 => ?_⟩, fun t t8 => ?_, e9, fun b b8 hb => ?_, fun b b8 hb => ?_⟩
    · rw [upA_ne (by omega)]; exact e7.2 b b8
    · rw [upA_ne (by omega)]; exact e8 t t8
    · rw [upA_ne (by omega), upA_ne (by omega), upA_ne (by omega), upA_ne (by omega), upA_ne (by omega)]; exact e10 b b8 hb
    · rw [upA_ne (by omega), upA_ne (by omega), upA_ne (by omega), upA_ne (by omega), upA_ne (by omega)]; exact e11 b b8 hb
  · rw [jup_cell (by omega), jup_cell (by omega)]; exact q6
  · rw [jup_cell (by omega)]; exact q7
/-- the end of a part: both go on, or both have told a fault -/
def PO (T : Nat → Int) (N : Nat) (M0 X0 : JMem) (s : Nat) (f g : Option (Int × JMem)) : Prop := (∃ (M' X' : JMem) (s' k' : Nat) (w' : List Nat) (v' : Int) (b : Nat → Int), f = some (0, M') ∧ g = some (1, X') ∧ MS T N M0 X0 M' X' s' k' w' v' b b ∧ s < s') ∨ (∃ M' X' : JMem, f = some (0, M') ∧ g = some (0, X') ∧ FJ M0 X0 M' X')
/-! odds -/
theorem p_odds (hn : 2000 ≤ n) (h : MS T N M0 X0 M X s k w v a a) (hk : k = 1) : PO T N M0 X0 s (f_X2_takeOdds n M) (if jw (X 167 20) = 0 then (letm (jup X 167 20 1) fun M4 => bnd (f_X12_ahead n M4) fun _ M6 => bnd (f_X12_number n 2019 0 16 M6) fun r7 M8 => some (r7, M8)) else (bnd (f_X12_fails n 5 X) fun r10 M11 => chk (jw r10 = 0 ∨ jw r10 = 1) (some (r10, M11)))) := by
  obtain ⟨hS, hT, hp, hM, hX⟩ := h
  have h : MS T N M0 X0 M X s k w v a a := ⟨hS, hT, hp, hM, hX⟩
  obtain ⟨p1, p2, p3, p4, p5, p6, p7⟩ := hp
  unfold f_X2_takeOdds
  rcases p7 with p7 | p7
  · rw [← p6, p7, if_pos (by decide), if_pos (by decide)]
    unfold f_X2_takeOdds_L15
    rw [chk_pos (by decide), letm_ap, letm_ap]
    have h1 : MS T N M0 X0 (jup M 12 3 1) (jup X 167 20 1) s k w v a a := h.mv (fun c hc => jup_cell (by omega)) (fun c c1 c2 c3 => jup_cell c1) (fun j hj => by rw [jup_if, if_neg hj]) (fun i _ => by rw [jup_cell (by omega)]) (fun j _ => by rw [jup_cell (by omega)]) (by
      refine ⟨fun u hu => by rw [jup_cell (by omega), jup_cell (by omega)]; exact p1 u hu, p2, ?_, ?_, ?_, by rw [jup_if, if_pos rfl, jup_if, if_pos rfl], Or.inr (by rw [jup_if, if_pos rfl])⟩
      · unfold slot
        rw [jup_cell (by omega), blk_jup_row (fun j hj => by omega) (by decide)]; exact p3
      · rw [jup_cell (by omega), blk_jup_row (fun j hj => by omega) (by decide)]; exact p4
      · unfold RQ slot at p5 ⊢
        rw [jup_cell (by omega), jup_cell (by omega), jup_cell (by omega), jup_cell (by omega)]; exact p5)
    obtain ⟨F1, G1, s1, k1, w1, v1, b1, b2, b3, b4, b5, b6, b7⟩ := s_adv (n := n) hn h1.1 h1.2.1 (by omega)
    rw [b1, bnd_some, b2, bnd_some]
    have h2 := h1.row b3 b6 b7
    rcases s_number (n := n) (to := 2019) (lo := 0) (hi := 16) hn h2.1 h2.2.1 (by omega) (by omega) (by omega) with ⟨x, x1, x2, F2, G2, s2, k2, w2, v2, c1, c2, c3, c4, c5, c6⟩ | ⟨F2, G2, c1, c2, c3, c4, c5⟩
    · rw [c1, bnd_some, show f_X12_number n 2019 0 16 _ = _ from c2, bnd_some, letm_ap]
      refine Or.inl ⟨_, _, s2, k2, w2, v2, a, rfl, rfl, ?_, by have := b5 (by omega); omega⟩
      rw [row_comm (a := 167) (b := 168) (by omega)]
      exact (h2.row c3 c5 c6).odds ⟨x1, x2⟩
    · rw [c1, bnd_some, show f_X12_number n 2019 0 16 _ = _ from c2, bnd_some, letm_ap]
      have hf := h2.fl c3 c4 c5
      exact Or.inr ⟨_, _, rfl, rfl, hf.of (by rw [jup_cell (by omega)]) ⟨by rw [jup_cell (by omega)]; exact hf.1.jk, hf.2.1.mv (fun c hc => jup_cell (by omega)), by rw [jup_if, if_neg (by omega)]; exact hf.2.2.2.1, by rw [jup_if, if_neg (by omega)]; exact hf.2.2.2.2.1, by rw [jup_cell (by omega)]; exact hf.2.2.2.2.2⟩⟩
  · rw [← p6, p7, if_neg (by decide), if_neg (by decide)]
    obtain ⟨F', G', c1, c2, c3, c4, c5, -⟩ := s_fail (n := n) hT (why := 5) (by omega)
    have hf := h.fl c3 c4 c5
    rw [c1, bnd_some, fails_chk c2]
    unfold f_X2_takeOdds_L15
    have hj : JK (jup (jrow M 9 F') 12 3 1 9) := by rw [jup_cell (by omega)]; exact hf.1.jk
    rw [chk_pos (by decide), letm_ap, j_adv hj, bnd_some, j_passNumber hj, bnd_some, letm_ap]
    refine Or.inr ⟨_, _, rfl, rfl, hf.of (by rw [jup_cell (by omega), jup_cell (by omega)]) ⟨by rw [jup_cell (by omega)]; exact hj, hf.2.1.mv (fun c hc => by rw [jup_cell (by omega), jup_cell (by omega)]), by rw [jup_if, if_neg (by omega), jup_cell (by omega)]; exact hf.2.2.2.1, by rw [jup_if, if_neg (by omega), jup_cell (by omega)]; exact hf.2.2.2.2.1, by rw [jup_cell (by omega), jup_cell (by omega)]; exact hf.2.2.2.2.2⟩⟩
end PSTATE

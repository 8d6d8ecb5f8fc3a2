section PDEP
variable {n : Nat} {M : JMem}
/-! the class's hour: who gets on -/
theorem RN.bd {N N' : JV} {A : Nat → Int} {t b f : Nat} (hA : SA A) (h : RN N A) (t8 : t < 8) (ht : (t : Int) < A 1) (b8 : b < 8) (hb : (b : Int) < A 2) (he : ¬ A (59 + 10 * b) = 1) (f6 : f < 6) (hw : A (63 + 10 * b) = f) (h5 : A (10 + 6 * t) = A 5)
    (hN : ∀ j k : Nat, j < 3 → N' j k = N j k) (h3 : ∀ p : Nat, p < 6 → N' 3 p = if p = f then jand (N 3 p) (jxor (jshl 1 (b : Int)) (-1)) else N 3 p) (h4 : ∀ u : Nat, u < 8 → N' 4 u = if u = t then jor (N 4 u) (jshl 1 (b : Int)) else N 4 u) (hd : ∀ u : Nat, u < 8 → N' 5 u = if u = t then A 5 + A (11 + 6 * t) else N 5 u) :
    RN N' (upA (upA A (63 + 10 * b) (10 + t)) (64 + 10 * b) (A 5)) := by
  obtain ⟨q13, q14, q15, q16⟩ := h.spots
  have e : ∀ i : Nat, i ≠ 63 + 10 * b → i ≠ 64 + 10 * b → upA (upA A (63 + 10 * b) (10 + t)) (64 + 10 * b) (A 5) i = A i := fun i h1 h2 => by rw [upA_ne h2, upA_ne h1]
  have e63 : upA (upA A (63 + 10 * b) (10 + t)) (64 + 10 * b) (A 5) (63 + 10 * b) = 10 + t := by rw [upA_ne (by omega), upA_same]
  have h63 : ∀ c : Nat, ¬ c = b → upA (upA A (63 + 10 * b) (10 + t)) (64 + 10 * b) (A 5) (63 + 10 * c) = A (63 + 10 * c) := fun c hc => e _ (by omega) (by omega)
  have h64 : ∀ c : Nat, ¬ c = b → upA (upA A (63 + 10 * b) (10 + t)) (64 + 10 * b) (A 5) (64 + 10 * c) = A (64 + 10 * c) := fun c hc => e _ (by omega) (by omega)
  have hat := (hA.2.2.2.2.2.1 t t8 ht).2.2.1
  refine h.mv hN (fun i hi => e i (hi b b8).1 (hi b b8).2) (fun p p6 => ?_) (fun u u8 => ?_) (fun c c8 hc hce => ?_) (fun u u8 c c8 hc => ?_)
  · rw [h3 p p6]
    by_cases cp : p = f
    · rw [if_pos cp]
      have r := jclr (q13 p p6).1 b8
      refine ⟨r.1, fun c c8 => ?_⟩
      rw [r.2 c c8, Bool.and_eq_true, decide_eq_true_eq, (q13 p p6).2 c c8]
      by_cases cb : c = b
      · subst cb
        rw [e63]
        exact ⟨fun q => absurd rfl q.2, fun q => by omega⟩
      · rw [h63 c cb]
        exact ⟨fun q => q.1, fun q => ⟨q, cb⟩⟩
    · rw [if_neg cp]
      refine ⟨(q13 p p6).1, fun c c8 => ?_⟩
      rw [(q13 p p6).2 c c8]
      by_cases cb : c = b
      · subst cb
        rw [e63, hw]
        exact ⟨fun q => by omega, fun q => by omega⟩
      · rw [h63 c cb]
  · rw [h4 u u8]
    by_cases cu : u = t
    · rw [if_pos cu]
      have r := jset (q14 u u8).1 b8
      refine ⟨r.1, fun c c8 => ?_⟩
      rw [r.2 c c8, Bool.or_eq_true, decide_eq_true_eq, (q14 u u8).2 c c8]
      by_cases cb : c = b
      · subst cb
        rw [e63]
        exact ⟨fun _ => ⟨hb, he, by omega⟩, fun _ => Or.inr rfl⟩
      · rw [h63 c cb]
        exact ⟨fun q => q.resolve_right cb, Or.inl⟩
    · rw [if_neg cu]
      refine ⟨(q14 u u8).1, fun c c8 => ?_⟩
      rw [(q14 u u8).2 c c8]
      by_cases cb : c = b
      · subst cb
        rw [e63, hw]
        exact ⟨fun q => by omega, fun q => by omega⟩
      · rw [h63 c cb]
  · by_cases cb : c = b
    · subst cb
      rw [e63]; right; omega
    · rw [h63 c cb]; exact q15 c c8 hc hce
  · rw [h4 u u8] at hc
    rw [hd u u8]
    by_cases cu : u = t
    · rw [if_pos cu] at hc
      rw [if_pos cu, cu]
      by_cases cb : c = b
      · subst cb
        rw [upA_same]
        omega
      · rw [h64 c cb]
        have r := jset (q14 u u8).1 b8
        rw [r.2 c c8, Bool.or_eq_true, decide_eq_true_eq] at hc
        have r2 := q16 u u8 c c8 (hc.resolve_right cb)
        rw [cu] at r2
        omega
    · rw [if_neg cu] at hc
      rw [if_neg cu]
      have cb : ¬ c = b := fun q => by
        rw [q, (q14 u u8).2 b b8] at hc
        omega
      rw [h64 c cb]
      exact q16 u u8 c c8 hc
theorem c_board_L {th p : Nat} (hs : p + 12 ≤ th ∨ th + 8 ≤ p) {A : Nat → Int} (hA : SA A) {t f : Nat} (t8 : t < 8) (ht : (t : Int) < A 1) (f6 : f < 6) (hff : A (8 + 6 * t) = f) (h5 : A (10 + 6 * t) = A 5) {s v : Int} (hs9 : 0 ≤ s ∧ s ≤ 9) (hv : S8 v) :
    ∀ (d i k : Nat) (M : JMem), i + d = (A 2).toNat → d < k → RP (blk M p 12) A → RN (blk M th 8) (bdN A t s i).1 → (∀ j : Nat, i ≤ j → j < 8 → (bit v j = true ↔ (j : Int) < A 2 ∧ wh A j = A (8 + 6 * t) ∧ (A (8 + 6 * t) = 0 → ¬ A (58 + 10 * j) = 0))) →
    ∃ M', f_X1_board_L44 n th p k (t : Int) (f : Int) v (bdN A t s i).2 (i : Int) M = some (0, M') ∧ Fq th M M' ∧ RN (blk M' th 8) (bdN A t s (A 2).toNat).1 := by
  have h2 := hA.2.2.1
  have h1 := hA.2.1
  have s5 := hA.2.2.2.2.1
  have hat := (hA.2.2.2.2.2.1 t t8 ht).2.2.1
  have h5' : A 5 ≤ 63 := by omega
  intro d
  induction d with
  | zero =>
    intro i k M hi hk hP hR hm
    obtain ⟨k, rfl⟩ : ∃ q, k = q + 1 := ⟨k - 1, by omega⟩
    have e2 : M p 2 = A 2 := hP.2.2.1.1
    refine ⟨M, ?_, Fq.refl, by rw [show (A 2).toNat = i by omega]; exact hR⟩
    rw [f_X1_board_L44, e2, if_pos (by rw [jw_of (x := A 2) (by omega) (by omega), jw_of (x := (i : Int)) (by omega) (by omega)]; omega)]
  | succ d ih =>
    intro i k M hi hk hP hR hm
    obtain ⟨k, rfl⟩ : ∃ q, k = q + 1 := ⟨k - 1, by omega⟩
    have i8 : i < 8 := by omega
    have il : (i : Int) < A 2 := by omega
    have e2 : M p 2 = A 2 := hP.2.2.1.1
    have hv2 := bdN_s (A := A) (t := t) hs9.1 i
    have ne : ∀ q : Nat, (∀ b : Nat, b < i → q ≠ 63 + 10 * b ∧ q ≠ 64 + 10 * b) → (bdN A t s i).1 q = A q := fun q hq => bdN_ne i hq
    have hSi : SA (bdN A t s i).1 := hA.bdK t8 ht h5' i (by omega)
    have etk : M (th + 1) i = A (61 + 10 * i) ∧ S8 (A (61 + 10 * i)) := by
      have r := hR.heads.2.2.2.2.2 i i8 (by rw [ne 2 (by omega)]; exact il)
      rw [ne (61 + 10 * i) (by omega)] at r
      exact r
    have ewh : wh (bdN A t s i).1 i = wh A i := by
      unfold wh
      rw [ne (59 + 10 * i) (by omega), ne (63 + 10 * i) (by omega)]
    have ebd : bdC (bdN A t s i).1 t i ↔ bit v i = true ∧ bit (A (61 + 10 * i)) t = true := by
      unfold bdC
      rw [ewh, ne 2 (by omega), ne (8 + 6 * t) (by omega), ne (61 + 10 * i) (by omega), ne (58 + 10 * i) (by omega), hm i (Nat.le_refl i) i8]
      exact ⟨fun q => ⟨⟨q.1, q.2.1, q.2.2.2⟩, q.2.2.1⟩, fun q => ⟨q.1.1, q.1.2.1, q.2, q.1.2.2⟩⟩
    rw [f_X1_board_L44, e2, if_neg (by rw [jw_of (x := A 2) (by omega) (by omega), jw_of (x := (i : Int)) (by omega) (by omega)]; omega), jw_of (x := (bdN A t s i).2) (by omega) (by omega)]
    by_cases c0 : (bdN A t s i).2 ≤ 0
    · refine ⟨M, by rw [if_pos c0], Fq.refl, ?_⟩
      rw [show (A 2).toNat = i + (d + 1) by omega, bdN_stop c0]; exact hR
    · have hno : ¬ bdC (bdN A t s i).1 t i → ∃ M', f_X1_board_L130 n th p (f_X1_board_L44 n th p k) (t : Int) (f : Int) v (bdN A t s i).2 (i : Int) M = some (0, M') ∧ Fq th M M' ∧ RN (blk M' th 8) (bdN A t s (A 2).toNat).1 := fun c => by
        have e := bdN_no (A := A) (t := t) (s := s) (k := i) (fun q => c q.2)
        unfold f_X1_board_L130
        simp only [letv_ap, letm_ap]
        rw [← e]
        exact ih (i + 1) k M (by omega) (by omega) hP (by rw [e]; exact hR) (fun j hj => hm j (by omega))
      rw [if_neg c0, q_isIn hv i8, bnd_some]
      by_cases c1 : bit v i = true
      · rw [if_pos c1, if_neg (by decide), chk_pos (jin_of (by omega) (by omega) (by omega)), jwb (by omega), etk.1, q_isIn etk.2 t8, bnd_some]
        by_cases c2 : bit (A (61 + 10 * i)) t = true
        · have e := bdN_yes (A := A) (t := t) (s := s) (k := i) ⟨by omega, ebd.2 ⟨c1, c2⟩⟩
          have hw := (hm i (Nat.le_refl i) i8).1 c1
          have he : ¬ A (59 + 10 * i) = 1 := fun q => by
            have := hw.2.1
            unfold wh at this
            rw [if_pos q] at this; omega
          have hwf : A (63 + 10 * i) = f := by
            have := hw.2.1
            unfold wh at this
            rw [if_neg he] at this; omega
          have e7 : M (p + 7) t = A (11 + 6 * t) := (hP.2.2.2.2.2.1 t t8 (by omega)).2.2.2.1.1
          have e5 : M th 1 = A 5 := by
            have r := hR.heads.2.1.1
            rw [ne 5 (by omega)] at r
            exact r
          rw [if_pos c2, if_neg (by decide), chk_pos (jin_of (by omega) (by omega) (by omega)), chk_pos (jin_of (by omega) (by omega) (by omega)), jwb (by omega)]
          simp only [letv_ap, letm_ap]
          rw [chk_pos (jin_of (by omega) (by omega) (by omega)), chk_pos (jin_of (by omega) (by omega) (by omega)), jwb (by omega), chk_pos (jin_of (by omega) (by omega) (by omega)), chk_pos (jin_of (by omega) (by omega) (by omega))]
          unfold f_X1_board_L130
          simp only [letv_ap, letm_ap]
          have x1 : (jup (jup M (th + 3) f (jand (M (th + 3) f) (jxor (jshl 1 (i : Int)) (-1)))) (th + 4) t (jor (jup M (th + 3) f (jand (M (th + 3) f) (jxor (jshl 1 (i : Int)) (-1))) (th + 4) t) (jshl 1 (i : Int)))) th 1 = A 5 := by rw [jup_cell (by omega), jup_cell (by omega)]; exact e5
          have x2 : (jup (jup M (th + 3) f (jand (M (th + 3) f) (jxor (jshl 1 (i : Int)) (-1)))) (th + 4) t (jor (jup M (th + 3) f (jand (M (th + 3) f) (jxor (jshl 1 (i : Int)) (-1))) (th + 4) t) (jshl 1 (i : Int)))) (p + 7) t = A (11 + 6 * t) := by rw [jup_cell (by omega), jup_cell (by omega)]; exact e7
          rw [x1, x2, show jup M (th + 3) f (jand (M (th + 3) f) (jxor (jshl 1 (i : Int)) (-1))) (th + 4) t = M (th + 4) t by rw [jup_cell (by omega)]]
          have hF : Fq th M (jup (jup (jup M (th + 3) f (jand (M (th + 3) f) (jxor (jshl 1 (i : Int)) (-1)))) (th + 4) t (jor (M (th + 4) t) (jshl 1 (i : Int)))) (th + 5) t (A 5 + A (11 + 6 * t))) := fun c c3 c4 c5 => by rw [jup_cell c5, jup_cell c4, jup_cell c3]
          have hP' : RP (blk (jup (jup (jup M (th + 3) f (jand (M (th + 3) f) (jxor (jshl 1 (i : Int)) (-1)))) (th + 4) t (jor (M (th + 4) t) (jshl 1 (i : Int)))) (th + 5) t (A 5 + A (11 + 6 * t))) p 12) A := by rw [hF.plan hs]; exact hP
          have b5 : (bdN A t s i).1 5 = A 5 := ne 5 (by omega)
          have hR' := RN.bd (N' := blk (jup (jup (jup M (th + 3) f (jand (M (th + 3) f) (jxor (jshl 1 (i : Int)) (-1)))) (th + 4) t (jor (M (th + 4) t) (jshl 1 (i : Int)))) (th + 5) t (A 5 + A (11 + 6 * t))) th 8) hSi hR t8 (by rw [ne 1 (by omega)]; exact ht) i8 (by rw [ne 2 (by omega)]; exact il) (by rw [ne _ (by omega)]; exact he) f6 (by rw [ne _ (by omega)]; exact hwf) (by rw [b5, ne _ (by omega)]; exact h5)
            (fun j q hj => by rw [blk_at (by omega), blk_at (by omega), jup_cell (by omega), jup_cell (by omega), jup_cell (by omega)])
            (fun q q6 => by
              rw [blk_at (by omega), blk_at (by omega), jup_cell (by omega), jup_cell (by omega), jup_at]
              by_cases cq : q = f
              · rw [if_pos ⟨rfl, cq⟩, if_pos cq, cq]
              · rw [if_neg (fun w => cq w.2), if_neg cq])
            (fun u u8 => by
              rw [blk_at (by omega), blk_at (by omega), jup_cell (by omega), jup_at]
              by_cases cu : u = t
              · rw [if_pos ⟨rfl, cu⟩, if_pos cu, cu]
              · rw [if_neg (fun w => cu w.2), if_neg cu, jup_cell (by omega)])
            (fun u u8 => by
              rw [blk_at (by omega), blk_at (by omega), jup_at, b5, ne (11 + 6 * t) (by omega)]
              by_cases cu : u = t
              · rw [if_pos ⟨rfl, cu⟩, if_pos cu]
              · rw [if_neg (fun w => cu w.2), if_neg cu, jup_cell (by omega), jup_cell (by omega)])
          obtain ⟨M', g1, g2, g3⟩ := ih (i + 1) k _ (by omega) (by omega) hP' (by rw [e]; exact hR') (fun j hj => hm j (by omega))
          rw [e] at g1
          exact ⟨M', g1, hF.trans g2, g3⟩
        · rw [if_neg c2, if_pos (by decide)]
          exact hno (fun q => c2 (ebd.1 q).2)
      · rw [if_neg c1, if_pos (by decide)]
        exact hno (fun q => c1 (ebd.1 q).1)
theorem c_board {th p : Nat} (hf : 100 ≤ n) (hs : p + 12 ≤ th ∨ th + 8 ≤ p) {A : Nat → Int} {t : Nat} (t8 : t < 8) (ht : (t : Int) < A 1) (hP : RP (blk M p 12) A) (hR : RN (blk M th 8) A) (h5 : A (10 + 6 * t) = A 5) : ∃ M', f_X1_board n th p (t : Int) M = some (0, M') ∧ Fq th M M' ∧ RN (blk M' th 8) (bdN A t (A (12 + 6 * t)) (A 2).toNat).1 := by
  have hA := SA.of hP hR
  have h2 := hA.2.2.1
  have h0 := hA.1
  obtain ⟨p1, p2, p3, p4, p5⟩ := hP.2.2.2.2.2.1 t t8 ht
  obtain ⟨f, f6, ef⟩ := natOf (x := A (8 + 6 * t)) (k := 6) (by omega) (by omega)
  have e4 : M (p + 4) t = A (8 + 6 * t) := p1.1
  have e8 : M (p + 8) t = A (12 + 6 * t) := p5.1
  obtain ⟨q13, q14, q15, q16⟩ := hR.spots
  have r3 : S8 (M (th + 3) f) ∧ ∀ b : Nat, b < 8 → (bit (M (th + 3) f) b = true ↔ (b : Int) < A 2 ∧ ¬ A (59 + 10 * b) = 1 ∧ A (63 + 10 * b) = f) := q13 f f6
  have r2 : S8 (M th 2) ∧ ∀ b : Nat, b < 8 → (bit (M th 2) b = true ↔ (b : Int) < A 2 ∧ A (58 + 10 * b) = 1) := hR.heads.2.2.1
  have ewh : ∀ b : Nat, wh A b = A (8 + 6 * t) ↔ ¬ A (59 + 10 * b) = 1 ∧ A (63 + 10 * b) = f := fun b => by
    unfold wh
    by_cases he : A (59 + 10 * b) = 1
    · rw [if_pos he, ef]
      exact ⟨fun q => by omega, fun q => absurd he q.1⟩
    · rw [if_neg he, ef]
      exact ⟨fun q => ⟨he, q⟩, fun q => q.2⟩
  unfold f_X1_board
  simp only [letv_ap, letm_ap]
  rw [chk_pos (jin_of (by omega) (by omega) (by omega)), jwb (by omega), e4, ef]
  by_cases c : (f : Int) = 0
  · rw [if_pos (by rw [jw_of (x := (f : Int)) (by omega) (by omega)]; exact c), chk_pos (jin_of (by omega) (by omega) (by omega)), jwb (by omega)]
    unfold f_X1_board_L31
    simp only [letv_ap, letm_ap]
    rw [chk_pos (jin_of (by omega) (by omega) (by omega)), jwb (by omega), e8]
    have ra := jandS r3.1 r2.1
    exact c_board_L hs hA t8 ht f6 ef h5 (by omega) ra.1 (A 2).toNat 0 n M (by omega) (by omega) hP hR (fun j _ j8 => by
      rw [ra.2 j, Bool.and_eq_true, r3.2 j j8, r2.2 j j8, ewh j]
      have o01 := (hA.2.2.2.2.2.2 j j8)
      constructor
      · rintro ⟨⟨a1, a2, a3⟩, a4, a5⟩
        exact ⟨a1, ⟨a2, a3⟩, fun _ => by omega⟩
      · rintro ⟨a1, ⟨a2, a3⟩, a4⟩
        have := (o01 a1).1
        exact ⟨⟨a1, a2, a3⟩, a1, by have := a4 (by omega); omega⟩)
  · rw [if_neg (by rw [jw_of (x := (f : Int)) (by omega) (by omega)]; exact c), chk_pos (jin_of (by omega) (by omega) (by omega)), jwb (by omega)]
    unfold f_X1_board_L31
    simp only [letv_ap, letm_ap]
    rw [chk_pos (jin_of (by omega) (by omega) (by omega)), jwb (by omega), e8]
    exact c_board_L hs hA t8 ht f6 ef h5 (by omega) r3.1 (A 2).toNat 0 n M (by omega) (by omega) hP hR (fun j _ j8 => by
      rw [r3.2 j j8, ewh j]
      exact ⟨fun q => ⟨q.1, q.2, fun w => by omega⟩, fun q => ⟨q.1, q.2.1⟩⟩)
theorem c_depart_L {th p : Nat} (hf : 100 ≤ n) (hs : p + 12 ≤ th ∨ th + 8 ≤ p) {A : Nat → Int} (hA : SA A) (h5 : A 5 ≤ 63) : ∀ (d t k : Nat) (M : JMem), t + d = (A 1).toNat → d < k → RP (blk M p 12) A → RN (blk M th 8) (lvN A t) → ∃ M', f_X1_depart_L2 n th p k (t : Int) M = some (0, M') ∧ Fq th M M' ∧ RN (blk M' th 8) (lvN A (A 1).toNat) := by
  have h1 := hA.2.1
  have h2 := hA.2.2.1
  have s5 := hA.2.2.2.2.1
  intro d
  induction d with
  | zero =>
    intro t k M hi hk hP hR
    obtain ⟨k, rfl⟩ : ∃ q, k = q + 1 := ⟨k - 1, by omega⟩
    have e1 : M p 1 = A 1 := hP.2.1.1
    refine ⟨M, ?_, Fq.refl, by rw [show (A 1).toNat = t by omega]; exact hR⟩
    rw [f_X1_depart_L2, e1, if_pos (by rw [jw_of (x := A 1) (by omega) (by omega), jw_of (x := (t : Int)) (by omega) (by omega)]; omega)]
  | succ d ih =>
    intro t k M hi hk hP hR
    obtain ⟨k, rfl⟩ : ∃ q, k = q + 1 := ⟨k - 1, by omega⟩
    have t8 : t < 8 := by omega
    have e1 : M p 1 = A 1 := hP.2.1.1
    obtain ⟨p1, p2, p3, p4, p5⟩ := hP.2.2.2.2.2.1 t t8 (by omega)
    have e6 : M (p + 6) t = A (10 + 6 * t) := p3.1
    have ne : ∀ i : Nat, (∀ b : Nat, b < 8 → i ≠ 63 + 10 * b ∧ i ≠ 64 + 10 * b) → lvN A t i = A i := fun i hi => lvN_ne h2.2 t i hi
    have e5 : M th 1 = A 5 := by
      have r := hR.heads.2.1.1
      rw [ne 5 (by omega)] at r
      exact r
    have r4 : S8 (M th 4) ∧ ∀ u : Nat, u < 8 → (bit (M th 4) u = true ↔ (u : Int) < A 1 ∧ A (13 + 6 * u) = 1) := by
      have r := hR.heads.2.2.2.2.1
      refine ⟨r.1, fun u u8 => ?_⟩
      have r := r.2 u u8
      rw [ne 1 (by omega), ne (13 + 6 * u) (by omega)] at r
      exact r
    have hno : ¬ (lvN A t (10 + 6 * t) = lvN A t 5 ∧ ¬ lvN A t (13 + 6 * t) = 1) → ∃ M', f_X1_depart_L40 n th p (f_X1_depart_L2 n th p k) (t : Int) M = some (0, M') ∧ Fq th M M' ∧ RN (blk M' th 8) (lvN A (A 1).toNat) := fun c => by
      have e : lvN A (t + 1) = lvN A t := by
        rw [lvN]; unfold lv1; rw [if_neg c]
      exact ih (t + 1) k M (by omega) (by omega) hP (by rw [e]; exact hR)
    rw [ne (10 + 6 * t) (by omega), ne 5 (by omega), ne (13 + 6 * t) (by omega)] at hno
    rw [f_X1_depart_L2, e1, if_neg (by rw [jw_of (x := A 1) (by omega) (by omega), jw_of (x := (t : Int)) (by omega) (by omega)]; omega), chk_pos (jin_of (by omega) (by omega) (by omega)), jwb (by omega), e6, e5, jw_of (x := A 5) (by omega) (by omega), jw_of (x := A (10 + 6 * t)) (by omega) (by omega)]
    by_cases c1 : A (10 + 6 * t) = A 5
    · rw [if_pos c1, q_isIn r4.1 t8, bnd_some]
      by_cases c2 : A (13 + 6 * t) = 1
      · rw [if_pos ((r4.2 t t8).2 ⟨by omega, c2⟩), if_neg (by decide)]
        exact hno (fun q => q.2 c2)
      · have e : lvN A (t + 1) = (bdN (lvN A t) t (lvN A t (12 + 6 * t)) (lvN A t 2).toNat).1 := by
          rw [lvN]; unfold lv1
          rw [if_pos ⟨by rw [ne _ (by omega), ne _ (by omega)]; exact c1, by rw [ne _ (by omega)]; exact c2⟩]
        have hP' : RP (blk M p 12) (lvN A t) := hP.congr2 (fun q hq => ne q (by omega)) (fun u q hu hq => ne _ (by omega)) (fun b hb => ⟨ne _ (by omega), ne _ (by omega), ne _ (by omega)⟩)
        obtain ⟨M1, g1, g2, g3⟩ := c_board (n := n) (M := M) hf hs t8 (by rw [ne 1 (by omega)]; omega) hP' hR (by rw [ne _ (by omega), ne _ (by omega)]; exact c1)
        rw [if_neg (fun q => c2 ((r4.2 t t8).1 q).2), if_pos (by decide), g1, bnd_some]
        obtain ⟨M', k1, k2, k3⟩ := ih (t + 1) k M1 (by omega) (by omega) (by rw [g2.plan hs]; exact hP) (by rw [e]; exact g3)
        exact ⟨M', k1, g2.trans k2, k3⟩
    · rw [if_neg c1]
      exact hno (fun q => c1 q.1)
theorem c_depart {th p : Nat} (hf : 100 ≤ n) (hs : p + 12 ≤ th ∨ th + 8 ≤ p) {A : Nat → Int} (hP : RP (blk M p 12) A) (hR : RN (blk M th 8) A) (h5 : A 5 ≤ 63) : ∃ M', f_X1_depart n th p M = some (0, M') ∧ Fq th M M' ∧ RN (blk M' th 8) (lvN A (A 1).toNat) := by
  have hA := SA.of hP hR
  have h1 := hA.2.1
  exact c_depart_L hf hs hA h5 (A 1).toNat 0 n M (by omega) (by omega) hP hR
end PDEP

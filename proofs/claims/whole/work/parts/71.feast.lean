section PFEAST
variable {n : Nat} {M : JMem}
theorem jshr0 : ∀ m : Nat, m < 256 → ∀ i : Nat, i < 8 → jshr (m : Int) (i : Int) = ((m >>> i : Nat) : Int) := by decide +kernel
theorem and1 (X : Nat) : (X &&& 1 : Nat) = if X.testBit 0 = true then 1 else 0 := by
  rcases Nat.mod_two_eq_zero_or_one X with h | h <;> simp [Nat.and_one_is_mod, Nat.testBit_zero, h]
theorem jbit2 {v h : Int} (hv : S8 v) (hh : S8 h) {o b : Nat} (o8 : o < 8) (b8 : b < 8) : jand (jand (jshr v (o : Int)) (jshr h (b : Int))) 1 = if bit v o = true ∧ bit h b = true then 1 else 0 := by
  obtain ⟨m, hm, rfl⟩ := hv.nat
  obtain ⟨k, hk, rfl⟩ := hh.nat
  have l1 : m >>> o ≤ m := Nat.shiftRight_le m o
  have l2 : (m >>> o &&& k >>> b) ≤ m >>> o := Nat.and_le_left
  rw [jshr0 m hm o o8, jshr0 k hk b b8, jand_nat (by omega), show (1 : Int) = ((1 : Nat) : Int) from rfl, jand_nat (by omega), and1, bit_nat, bit_nat, Nat.testBit_and, Nat.testBit_shiftRight, Nat.testBit_shiftRight, Nat.add_zero, Nat.add_zero]
  cases m.testBit o <;> cases k.testBit b <;> rfl
theorem jfew0 : ∀ m : Nat, m < 256 → ∀ i : Nat, i < 8 → ∀ j : Nat, j < 8 → (m.testBit i && m.testBit j && !decide (i = j) && decide (jand (m : Int) ((m : Int) - 1) = 0)) = false := by decide +kernel
theorem jfew {x : Int} (hx : S8 x) (h : jand x (x - 1) = 0) {i j : Nat} (i8 : i < 8) (j8 : j < 8) (hi : bit x i = true) (hj : bit x j = true) : i = j := by
  obtain ⟨m, hm, rfl⟩ := hx.nat
  have r := jfew0 m hm i i8 j j8
  rw [bit_nat] at hi hj
  rw [hi, hj, decide_eq_true h, Bool.and_true, Bool.true_and, Bool.true_and, Bool.not_eq_false', decide_eq_true_eq] at r
  exact r
theorem eaN_early {A : Nat → Int} {k o : Nat} (h : k ≤ o) : eaN A k (59 + 10 * o) = A (59 + 10 * o) ∧ eaN A k (65 + 10 * o) = A (65 + 10 * o) := ⟨eaN_ne k (by omega), eaN_ne k (by omega)⟩
theorem eaN_late {A : Nat → Int} {o : Nat} : ∀ k : Nat, o < k → eaN A k (59 + 10 * o) = eaN A (o + 1) (59 + 10 * o) ∧ eaN A k (65 + 10 * o) = eaN A (o + 1) (65 + 10 * o) := by
  intro k
  induction k with
  | zero => intro h; omega
  | succ k ih =>
    intro h
    by_cases e : o = k
    · subst e; exact ⟨rfl, rfl⟩
    · have ih := ih (by omega)
      by_cases c : (k : Int) < A 2 ∧ ¬ eaN A k (59 + 10 * k) = 1 ∧ ¬ etr (eaN A k) k = -1
      · rw [eaN_yes c, upA_ne (by omega), upA_ne (by omega), upA_ne (by omega), upA_ne (by omega)]; exact ih
      · rw [eaN_no c]; exact ih
theorem eaN_mono {A : Nat → Int} {o : Nat} (h : A (59 + 10 * o) = 1) : ∀ k : Nat, eaN A k (59 + 10 * o) = 1 := by
  intro k
  induction k with
  | zero => exact h
  | succ k ih =>
    by_cases c : (k : Int) < A 2 ∧ ¬ eaN A k (59 + 10 * k) = 1 ∧ ¬ etr (eaN A k) k = -1
    · rw [eaN_yes c, upA_ne (by omega)]
      by_cases e : o = k
      · rw [e, upA_same]
      · rw [upA_ne (by omega)]; exact ih
    · rw [eaN_no c]; exact ih
/-- who is eaten behind the k-th's turn -/
theorem eaN_iff {A : Nat → Int} {k o : Nat} {m : Nat} (hk : k ≤ m) (ho : o < m) : ¬ eaN A k (59 + 10 * o) = 1 ↔ ¬ A (59 + 10 * o) = 1 ∧ ¬ (o < k ∧ eaN A m (59 + 10 * o) = 1) := by
  by_cases c : o < k
  · rw [(eaN_late k c).1, (eaN_late m (by omega)).1]
    exact ⟨fun q => ⟨fun w => q (eaN_mono w _), fun w => q w.2⟩, fun q w => q.2 ⟨c, w⟩⟩
  · rw [(eaN_early (by omega)).1]
    exact ⟨fun q => ⟨q, fun w => c w.1⟩, fun q => q.1⟩
theorem q_firstHunter_L {p b : Nat} {v : Int} {A : Nat → Int} (hv : S8 v) (b8 : b < 8) (hn : M p 2 = A 2 ∧ 0 ≤ A 2 ∧ A 2 ≤ 8) (hh : ∀ o : Nat, o < 8 → (o : Int) < A 2 → S8 (M (p + 11) o) ∧ ((bit v o = true ∧ bit (M (p + 11) o) b = true) ↔ eC A b o)) :
    ∀ (d i k : Nat), i + d = (A 2).toNat → d < k → f_X4_firstHunter_L2 n p k v (b : Int) (i : Int) M = some (etF A b d i, M) := by
  intro d
  induction d with
  | zero =>
    intro i k hi hk
    obtain ⟨k, rfl⟩ : ∃ q, k = q + 1 := ⟨k - 1, by omega⟩
    rw [f_X4_firstHunter_L2, hn.1, if_pos (by rw [jw_of (x := A 2) (by omega) (by omega), jw_of (x := (i : Int)) (by omega) (by omega)]; omega)]
    rfl
  | succ d ih =>
    intro i k hi hk
    obtain ⟨k, rfl⟩ : ∃ q, k = q + 1 := ⟨k - 1, by omega⟩
    have i8 : i < 8 := by omega
    obtain ⟨g1, g2⟩ := hh i i8 (by omega)
    rw [f_X4_firstHunter_L2, hn.1, jw_of (x := A 2) (by omega) (by omega), if_neg (by rw [jw_of (x := (i : Int)) (by omega) (by omega)]; omega), chk_pos (jin_of (by omega) (by omega) (by omega)), jwb (by omega), jbit2 hv g1 i8 b8]
    by_cases c : eC A b i
    · rw [if_pos (g2.2 c), if_neg (by decide), etF, if_pos c]
    · rw [if_neg (fun q => c (g2.1 q)), if_pos (by decide), etF, if_neg c]
      exact ih (i + 1) k (by omega) (by omega)
/-- so far has a group been gone through -/
def GS (th : Nat) (g : Int) (A A2 : Nat → Int) (i : Nat) (M0 M : JMem) : Prop :=
  (S8 (M th 3) ∧ ∀ b : Nat, b < 8 → (bit (M th 3) b = true ↔ bit (M0 th 3) b = true ∨ (bit g b = true ∧ b < i ∧ A2 (59 + 10 * b) = 1))) ∧ (∀ j : Nat, j ≠ 3 → M th j = M0 th j) ∧
  (∀ b : Nat, b < 8 → bit g b = true → b < i → A2 (59 + 10 * b) = 1 → M (th + 6) b = A2 (65 + 10 * b) ∧ M (th + 7) b = A 5) ∧
  (∀ b : Nat, ¬ (bit g b = true ∧ b < i ∧ A2 (59 + 10 * b) = 1) → M (th + 6) b = M0 (th + 6) b ∧ M (th + 7) b = M0 (th + 7) b) ∧ (∀ c : Nat, c ≠ th → c ≠ th + 6 → c ≠ th + 7 → M c = M0 c)
theorem GS.next {th : Nat} {g : Int} {A A2 : Nat → Int} {i : Nat} {M0 : JMem} (h : GS th g A A2 i M0 M) (hi : ¬ (bit g i = true ∧ A2 (59 + 10 * i) = 1)) : GS th g A A2 (i + 1) M0 M := by
  obtain ⟨⟨h1, h2⟩, h3, h4, h5, h6⟩ := h
  have e : ∀ b : Nat, bit g b = true → b < i + 1 → A2 (59 + 10 * b) = 1 → b < i := fun b q1 q2 q3 => by
    by_cases c : b = i
    · rw [c] at q1 q3; exact absurd ⟨q1, q3⟩ hi
    · omega
  refine ⟨⟨h1, fun b b8 => ?_⟩, h3, fun b b8 q1 q2 q3 => h4 b b8 q1 (e b q1 q2 q3) q3, fun b q => h5 b (fun w => q ⟨w.1, by omega, w.2.2⟩), h6⟩
  rw [h2 b b8]
  exact ⟨fun q => q.imp id (fun w => ⟨w.1, by omega, w.2.2⟩), fun q => q.imp id (fun w => ⟨w.1, e b w.1 w.2.1 w.2.2, w.2.2⟩)⟩
theorem c_leftBy_L {th p : Nat} (hf : 100 ≤ n) (hs : p + 12 ≤ th ∨ th + 8 ≤ p) {A : Nat → Int} (hA : SA A) {g w : Int} (hg : S8 g ∧ ∀ b : Nat, b < 8 → (bit g b = true ↔ (b : Int) < A 2 ∧ ¬ A (59 + 10 * b) = 1 ∧ A (63 + 10 * b) = w)) (hw : 0 < w) {M0 : JMem} (hh : M0 th 1 = A 5) (hP : RP (blk M0 p 12) A) :
    ∀ (d i k : Nat) (v : Int) (M : JMem), i + d = (A 2).toNat → d < k → S8 v → (∀ b : Nat, b < 8 → (bit v b = true ↔ bit g b = true ∧ ¬ (b < i ∧ eaN A (A 2).toNat (59 + 10 * b) = 1))) → GS th g A (eaN A (A 2).toNat) i M0 M →
    ∃ r M', f_X1_leftBy_L15 n th p k v (i : Int) M = some (r, M') ∧ S8 r ∧ (∀ b : Nat, b < 8 → (bit r b = true ↔ bit g b = true ∧ ¬ eaN A (A 2).toNat (59 + 10 * b) = 1)) ∧ GS th g A (eaN A (A 2).toNat) (A 2).toNat M0 M' := by
  have h2 := hA.2.2.1
  intro d
  induction d with
  | zero =>
    intro i k v M hi hk hv hb hG
    obtain ⟨k, rfl⟩ : ∃ q, k = q + 1 := ⟨k - 1, by omega⟩
    have e2 : M p 2 = A 2 := by
      rw [hG.2.2.2.2 p (by omega) (by omega) (by omega)]; exact hP.2.2.1.1
    refine ⟨v, M, ?_, hv, fun b b8 => ?_, by rw [show (A 2).toNat = i by omega] at hG ⊢; exact hG⟩
    · rw [f_X1_leftBy_L15, e2, if_pos (by rw [jw_of (x := A 2) (by omega) (by omega), jw_of (x := (i : Int)) (by omega) (by omega)]; omega)]
    · rw [hb b b8]
      constructor
      · rintro ⟨q1, q2⟩
        have := ((hg.2 b b8).1 q1).1
        exact ⟨q1, fun w => q2 ⟨by omega, w⟩⟩
      · rintro ⟨q1, q2⟩
        exact ⟨q1, fun w => q2 w.2⟩
  | succ d ih =>
    intro i k v M hi hk hv hb hG
    obtain ⟨k, rfl⟩ : ∃ q, k = q + 1 := ⟨k - 1, by omega⟩
    have i8 : i < 8 := by omega
    have il : (i : Int) < A 2 := by omega
    have eP : blk M p 12 = blk M0 p 12 := blk_congr (by decide) fun j hj => hG.2.2.2.2 _ (by omega) (by omega) (by omega)
    have hP' : RP (blk M p 12) A := by rw [eP]; exact hP
    have e2 : M p 2 = A 2 := hP'.2.2.1.1
    have eh : M th 1 = A 5 := by rw [hG.2.1 1 (by omega)]; exact hh
    have hno : ¬ (bit g i = true ∧ eaN A (A 2).toNat (59 + 10 * i) = 1) → ∃ r M', f_X1_leftBy_L44 n th p (f_X1_leftBy_L15 n th p k) v (i : Int) (-1) M = some (r, M') ∧ S8 r ∧ (∀ b : Nat, b < 8 → (bit r b = true ↔ bit g b = true ∧ ¬ eaN A (A 2).toNat (59 + 10 * b) = 1)) ∧ GS th g A (eaN A (A 2).toNat) (A 2).toNat M0 M' := fun c => by
      unfold f_X1_leftBy_L44 f_X1_leftBy_L94
      simp only [letv_ap, letm_ap]
      rw [if_pos trivial]
      refine ih (i + 1) k v M (by omega) (by omega) hv (fun b b8 => ?_) (hG.next c)
      rw [hb b b8]
      refine ⟨fun q => ⟨q.1, fun w => ?_⟩, fun q => ⟨q.1, fun w => q.2 ⟨by omega, w.2⟩⟩⟩
      by_cases e : b = i
      · rw [e] at q w; exact c ⟨q.1, w.2⟩
      · exact q.2 ⟨by omega, w.2⟩
    rw [f_X1_leftBy_L15, e2, if_neg (by rw [jw_of (x := A 2) (by omega) (by omega), jw_of (x := (i : Int)) (by omega) (by omega)]; omega), q_isIn hv i8, bnd_some]
    by_cases c1 : bit v i = true
    · have gi := ((hb i i8).1 c1).1
      have ga := (hg.2 i i8).1 gi
      have n59 : eaN A i (59 + 10 * i) = A (59 + 10 * i) := (eaN_early (Nat.le_refl i)).1
      have hh : ∀ o : Nat, o < 8 → (o : Int) < eaN A i 2 → S8 (M (p + 11) o) ∧ ((bit v o = true ∧ bit (M (p + 11) o) i = true) ↔ eC (eaN A i) i o) := fun o o8 ho => by
        have x2 : eaN A i 2 = A 2 := eaN_ne i (by omega)
        rw [x2] at ho
        obtain ⟨r1, r2, r3, r4⟩ := (hP'.2.2.2.2.2.2 o o8 ho).2.2
        have r1 : M (p + 11) o = A (62 + 10 * o) := r1
        rw [r1]
        refine ⟨r2, ?_⟩
        unfold eC
        have x62 : eaN A i (62 + 10 * o) = A (62 + 10 * o) := eaN_ne i (by omega)
        have x63 : ∀ c : Nat, eaN A i (63 + 10 * c) = A (63 + 10 * c) := fun c => eaN_ne i (by omega)
        have wi : wh (eaN A i) i = w := by
          unfold wh
          rw [n59, if_neg ga.2.1, x63]; exact ga.2.2
        have fo := eaN_iff (A := A) (k := i) (o := o) (m := (A 2).toNat) (by omega) (by omega)
        rw [x2, x62, wi, hb o o8, hg.2 o o8]
        constructor
        · rintro ⟨⟨⟨q1, q2, q3⟩, q4⟩, q5⟩
          have wo : wh (eaN A i) o = w := by
            unfold wh
            rw [if_neg (fo.2 ⟨q2, q4⟩), x63]; exact q3
          refine ⟨q1, fun e => ?_, by rw [wo]; exact hw, wo, q5⟩
          rw [e] at q5 r3
          rw [r3] at q5
          exact absurd q5 (by decide)
        · rintro ⟨q1, q2, q3, q4, q5⟩
          have wo : ¬ eaN A i (59 + 10 * o) = 1 := fun z => by
            unfold wh at q4
            rw [if_pos z] at q4; omega
          have w1 := fo.1 wo
          have w2 : A (63 + 10 * o) = w := by
            unfold wh at q4
            rw [if_neg wo, x63] at q4; exact q4
          exact ⟨⟨⟨q1, w1.1, w2⟩, w1.2⟩, q5⟩
      have x2 : eaN A i 2 = A 2 := eaN_ne i (by omega)
      have eFH : f_X4_firstHunter n p v (i : Int) M = some (etr (eaN A i) i, M) := by
        unfold f_X4_firstHunter
        simp only [letv_ap, letm_ap]
        exact q_firstHunter_L hv i8 (by rw [x2]; exact ⟨e2, h2⟩) hh (eaN A i 2).toNat 0 n (by omega) (by rw [x2]; omega)
      rw [if_pos c1, if_neg (by decide), eFH, bnd_some]
      by_cases c2 : etr (eaN A i) i = -1
      · have e : eaN A (i + 1) = eaN A i := eaN_no (fun q => q.2.2 c2)
        rw [c2]
        refine hno (fun q => ?_)
        rw [(eaN_late (A 2).toNat (by omega)).1, e, n59] at q
        exact ga.2.1 q.2
      · have e := eaN_yes (A := A) (k := i) ⟨il, by rw [n59]; exact ga.2.1, c2⟩
        have z1 : eaN A (A 2).toNat (59 + 10 * i) = 1 := by
          rw [(eaN_late (A 2).toNat (by omega)).1, e, upA_ne (by omega), upA_same]
        have z2 : eaN A (A 2).toNat (65 + 10 * i) = etr (eaN A i) i := by
          rw [(eaN_late (A 2).toNat (by omega)).2, e, upA_same]
        obtain ⟨o, eo, o8⟩ : ∃ o : Nat, etr (eaN A i) i = o ∧ o < 8 := by
          rcases etF_spec (A := eaN A i) (b := i) (eaN A i 2).toNat 0 with q | ⟨o, q1, q2, q3, q4⟩
          · exact absurd q.1 c2
          · exact ⟨o, q1, by omega⟩
        unfold f_X1_leftBy_L44
        simp only [letv_ap, letm_ap]
        rw [if_neg (by rw [eo, jw_of (by omega) (by omega), show jw (-1) = -1 by decide]; omega)]
        rw [chk_pos (jin_of (by omega) (by omega) (by omega)), jwb (by omega), chk_pos (jin_of (by omega) (by omega) (by omega))]
        unfold f_X1_leftBy_L94
        simp only [letv_ap, letm_ap]
        have y1 : jup (jup M th 3 (jor (M th 3) (jshl 1 (i : Int)))) (th + 6) i (etr (eaN A i) i) th 1 = A 5 := by
          rw [jup_cell (by omega), jup_at, if_neg (by omega)]; exact eh
        rw [y1]
        obtain ⟨⟨g1, g2⟩, g3, g4, g5, g6⟩ := hG
        have s1 := jset g1 i8
        have s2 := jclr hv i8
        refine ih (i + 1) k _ _ (by omega) (by omega) s2.1 (fun b b8 => ?_) ⟨⟨?_, fun b b8 => ?_⟩, fun j hj => ?_, fun b b8 q1 q2 q3 => ?_, fun b q => ?_, fun c c1 c2 c3 => ?_⟩
        · rw [s2.2 b b8, Bool.and_eq_true, decide_eq_true_eq, hb b b8]
          constructor
          · rintro ⟨⟨q1, q2⟩, q3⟩
            exact ⟨q1, fun w => q2 ⟨by omega, w.2⟩⟩
          · rintro ⟨q1, q2⟩
            exact ⟨⟨q1, fun w => q2 ⟨by omega, w.2⟩⟩, fun w => q2 ⟨by omega, by rw [w]; exact z1⟩⟩
        · rw [jup_cell (by omega), jup_cell (by omega), jup_at, if_pos ⟨rfl, rfl⟩]; exact s1.1
        · rw [jup_cell (by omega), jup_cell (by omega), jup_at, if_pos ⟨rfl, rfl⟩, s1.2 b b8, Bool.or_eq_true, decide_eq_true_eq, g2 b b8]
          constructor
          · rintro ((q | q) | q)
            · exact Or.inl q
            · exact Or.inr ⟨q.1, by omega, q.2.2⟩
            · rw [q]; exact Or.inr ⟨gi, by omega, z1⟩
          · rintro (q | q)
            · exact Or.inl (Or.inl q)
            · by_cases cb : b = i
              · exact Or.inr cb
              · exact Or.inl (Or.inr ⟨q.1, by omega, q.2.2⟩)
        · rw [jup_cell (by omega), jup_cell (by omega)]
          show (fun x => x) (jup M th 3 _ th j) = _
          rw [jup_at, if_neg (fun q => hj q.2)]; exact g3 j hj
        · by_cases cb : b = i
          · subst cb
            rw [jup_cell (by omega), jup_at, if_pos ⟨rfl, rfl⟩, jup_at, if_pos ⟨rfl, rfl⟩]
            exact ⟨z2.symm, rfl⟩
          · rw [jup_cell (b := th + 6) (by omega), jup_at, if_neg (fun q => cb q.2), jup_cell (by omega), jup_at, if_neg (fun q => cb q.2), jup_cell (by omega), jup_cell (by omega)]
            exact g4 b b8 q1 (by omega) q3
        · have cb : b ≠ i := fun w => q ⟨by rw [w]; exact gi, by omega, by rw [w]; exact z1⟩
          rw [jup_cell (b := th + 6) (by omega), jup_at, if_neg (fun q => cb q.2), jup_cell (by omega), jup_at, if_neg (fun q => cb q.2), jup_cell (by omega), jup_cell (by omega)]
          exact g5 b (fun w => q ⟨w.1, by omega, w.2.2⟩)
        · rw [jup_cell c3, jup_cell c2, jup_cell c1]; exact g6 c c1 c2 c3
    · rw [if_neg c1, if_pos (by decide)]
      exact hno (fun q => c1 ((hb i i8).2 ⟨q.1, fun w => by omega⟩))
end PFEAST

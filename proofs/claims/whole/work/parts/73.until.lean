section PUNTIL
variable {n : Nat} {M : JMem}
theorem jandn0 : ∀ m : Nat, m < 256 → ∀ k : Nat, k < 256 → jand (m : Int) (jxor (k : Int) (-1)) = ((m &&& (255 ^^^ k) : Nat) : Int) := by decide +kernel
theorem ones8 : ∀ j : Nat, j < 8 → (255 : Nat).testBit j = true := by decide
theorem jandn {x y : Int} (hx : S8 x) (hy : S8 y) : S8 (jand x (jxor y (-1))) ∧ ∀ j : Nat, j < 8 → (bit (jand x (jxor y (-1))) j = true ↔ bit x j = true ∧ ¬ bit y j = true) := by
  obtain ⟨m, hm, rfl⟩ := hx.nat
  obtain ⟨k, hk, rfl⟩ := hy.nat
  rw [jandn0 m hm k hk]
  have h : m &&& (255 ^^^ k) ≤ m := Nat.and_le_left
  refine ⟨⟨by omega, by omega⟩, fun j hj => ?_⟩
  rw [bit_nat, bit_nat, bit_nat, Nat.testBit_and, Nat.testBit_xor, ones8 j hj]
  cases m.testBit j <;> cases k.testBit j <;> decide
theorem hourA_ne {A : Nat → Int} (h2 : 0 ≤ A 2 ∧ A 2 ≤ 8) {i : Nat} (h5 : i ≠ 5) (h : ∀ b : Nat, b < 8 → i ≠ 59 + 10 * b ∧ i ≠ 63 + 10 * b ∧ i ≠ 64 + 10 * b ∧ i ≠ 65 + 10 * b) : hourA A i = A i := by
  unfold hourA
  have o2 : offs A (A 2).toNat 2 = A 2 := offs_ne (by omega)
  rw [upA_ne h5, eaN_ne _ (fun b hb => ⟨(h b (by omega)).1, (h b (by omega)).2.2.2⟩), lvN_ne (by omega) _ _ (fun b hb => ⟨(h b hb).2.1, (h b hb).2.2.1⟩), offs_ne (fun b hb => (h b (by omega)).2.1)]
theorem hourA_5 (A : Nat → Int) : hourA A 5 = A 5 + 1 := upA_same _ _ _
theorem hourA_mono {A : Nat → Int} (h2 : 0 ≤ A 2 ∧ A 2 ≤ 8) {b : Nat} (h : A (59 + 10 * b) = 1) : hourA A (59 + 10 * b) = 1 := by
  unfold hourA
  have o2 : offs A (A 2).toNat 2 = A 2 := offs_ne (by omega)
  rw [upA_ne (by omega)]
  exact eaN_mono (by rw [lvN_ne (by omega) _ _ (by omega), offs_ne (by omega)]; exact h) _
def itA (A : Nat → Int) : Nat → Nat → Int
  | 0 => A
  | k + 1 => hourA (itA A k)
theorem itA_ne {A : Nat → Int} (h2 : 0 ≤ A 2 ∧ A 2 ≤ 8) : ∀ k i : Nat, i ≠ 5 → (∀ b : Nat, b < 8 → i ≠ 59 + 10 * b ∧ i ≠ 63 + 10 * b ∧ i ≠ 64 + 10 * b ∧ i ≠ 65 + 10 * b) → itA A k i = A i := by
  intro k
  induction k with
  | zero => intro i _ _; rfl
  | succ k ih =>
    intro i h5 h
    have e2 : itA A k 2 = A 2 := ih 2 (by omega) (by omega)
    rw [itA, hourA_ne (by rw [e2]; exact h2) h5 h, ih i h5 h]
theorem itA_5 (A : Nat → Int) : ∀ k : Nat, itA A k 5 = A 5 + k := by
  intro k
  induction k with
  | zero => show A 5 = A 5 + 0; omega
  | succ k ih => rw [itA, hourA_5, ih]; omega
theorem itA_mono {A : Nat → Int} (h2 : 0 ≤ A 2 ∧ A 2 ≤ 8) {b k : Nat} (h : itA A k (59 + 10 * b) = 1) : ∀ d : Nat, itA A (k + d) (59 + 10 * b) = 1 := by
  intro d
  induction d with
  | zero => exact h
  | succ d ih =>
    show hourA (itA A (k + d)) (59 + 10 * b) = 1
    exact hourA_mono (by rw [itA_ne h2 _ 2 (by omega) (by omega)]; exact h2) ih
theorem SA.hour {A : Nat → Int} (h : SA A) (h5 : A 5 ≤ 63) : SA (hourA A) := by
  have h1 := h.2.1
  have h2 := h.2.2.1
  have s5 := h.2.2.2.2.1
  have a1 : SA (offs A (A 2).toNat) := h.offsK (by omega)
  have o5 : offs A (A 2).toNat 5 = A 5 := offs_ne (by omega)
  have o1 : offs A (A 2).toNat 1 = A 1 := offs_ne (by omega)
  have o2 : offs A (A 2).toNat 2 = A 2 := offs_ne (by omega)
  have a2 : SA (lvN (offs A (A 2).toNat) (A 1).toNat) := a1.lvK (by omega) _ (by omega)
  have a3 := a2.eaK (A 2).toNat (by omega)
  have l2 : eaN (lvN (offs A (A 2).toNat) (A 1).toNat) (A 2).toNat 2 = A 2 := by rw [eaN_ne _ (by omega), lvN_ne (by omega) _ _ (by omega), o2]
  unfold hourA
  refine a3.mk2 (fun i i4 i5 hi => upA_ne i5) (by rw [upA_ne (by omega)]; exact a3.2.2.2.1) (by rw [upA_same]; omega) (fun b b8 hb => ?_)
  have r := a3.2.2.2.2.2.2 b b8 hb
  rw [upA_ne (by omega), upA_ne (by omega), upA_ne (by omega), upA_ne (by omega)]
  exact ⟨r.1, r.2.1, r.2.2.2.2⟩
theorem SA.it {A : Nat → Int} (h : SA A) : ∀ k : Nat, A 5 + k ≤ 64 → SA (itA A k) := by
  intro k
  induction k with
  | zero => intro _; exact h
  | succ k ih => intro hk; exact (ih (by omega)).hour (by rw [itA_5]; omega)
theorem RP.same {P : JV} {A A' : Nat → Int} (h : RP P A) (hA : ∀ i : Nat, i ≠ 5 → (∀ b : Nat, b < 8 → i ≠ 59 + 10 * b ∧ i ≠ 63 + 10 * b ∧ i ≠ 64 + 10 * b ∧ i ≠ 65 + 10 * b) → A' i = A i) : RP P A' :=
  h.congr2 (fun k hk => hA k (by omega) (by omega)) (fun t k ht hk => hA _ (by omega) (by omega)) (fun b hb => ⟨hA _ (by omega) (by omega), hA _ (by omega) (by omega), hA _ (by omega) (by omega)⟩)
/-- nobody is where it can be eaten -/
def Quiet (A : Nat → Int) : Prop := ∀ b : Nat, b < 8 → (b : Int) < A 2 → ¬ A (59 + 10 * b) = 1 → ∀ o : Nat, o < 8 → ¬ eC A b o
theorem Quiet.up5 {A : Nat → Int} {x : Int} (h : Quiet A) : Quiet (upA A 5 x) := by
  intro b b8 hb he o o8 hc
  rw [upA_ne (by omega)] at hb he
  refine h b b8 hb he o o8 ?_
  have ew : ∀ c : Nat, wh (upA A 5 x) c = wh A c := fun c => by
    unfold wh
    rw [upA_ne (by omega), upA_ne (by omega)]
  unfold eC at hc ⊢
  rw [ew, ew, upA_ne (by omega), upA_ne (by omega)] at hc
  exact hc
theorem Quiet.ate {A : Nat → Int} (hA : SA A) : Quiet (eaN A (A 2).toNat) := by
  intro b b8 hb he o o8 hc
  have h2 := hA.2.2.1
  have e2 : eaN A (A 2).toNat 2 = A 2 := eaN_ne _ (by omega)
  have e2b : eaN A b 2 = A 2 := eaN_ne _ (by omega)
  rw [e2] at hb
  have hb' := (eaN_iff (A := A) (k := b) (o := b) (m := (A 2).toNat) (by omega) (by omega)).2 ⟨fun z => he (eaN_mono z _), fun z => he z.2⟩
  have hs : etr (eaN A b) b = -1 := by
    apply Classical.byContradiction
    intro z
    have e := eaN_yes (A := A) (k := b) ⟨hb, hb', z⟩
    rw [(eaN_late (A 2).toNat (by omega)).1, e, upA_ne (by omega), upA_same] at he
    exact he rfl
  have n63 : ∀ k c : Nat, eaN A k (63 + 10 * c) = A (63 + 10 * c) := fun k c => eaN_ne _ (by omega)
  have n62 : ∀ k c : Nat, eaN A k (62 + 10 * c) = A (62 + 10 * c) := fun k c => eaN_ne _ (by omega)
  obtain ⟨r1, r2, r3, r4, r5⟩ := hc
  rw [e2] at r1
  have no : ¬ eaN A (A 2).toNat (59 + 10 * o) = 1 := fun z => by
    unfold wh at r3
    rw [if_pos z] at r3; omega
  have no' := (eaN_iff (A := A) (k := b) (o := o) (m := (A 2).toNat) (by omega) (by omega)).2 ⟨fun z => no (eaN_mono z _), fun z => no z.2⟩
  have w1 : ∀ c : Nat, ¬ eaN A (A 2).toNat (59 + 10 * c) = 1 → wh (eaN A (A 2).toNat) c = A (63 + 10 * c) := fun c hc => by
    unfold wh
    rw [if_neg hc, n63]
  have w2 : ∀ c : Nat, ¬ eaN A b (59 + 10 * c) = 1 → wh (eaN A b) c = A (63 + 10 * c) := fun c hc => by
    unfold wh
    rw [if_neg hc, n63]
  rw [w1 o no] at r3
  rw [w1 o no, w1 b he] at r4
  rw [n62] at r5
  have c : eC (eaN A b) b o := ⟨by rw [e2b]; exact r1, r2, by rw [w2 o no']; exact r3, by rw [w2 o no', w2 b hb']; exact r4, by rw [n62]; exact r5⟩
  rcases etF_spec (A := eaN A b) (b := b) (eaN A b 2).toNat 0 with q | ⟨u, q1, q2, q3, q4⟩
  · exact q.2 o (by omega) (by rw [e2b]; omega) c
  · have : etr (eaN A b) b = u := q1
    omega
/-- an hour in which nobody moves -/
theorem hourA_idle {N : JV} {A : Nat → Int} (hA : SA A) (hR : RN N A) (hq : Quiet A) (hb : ∀ t : Nat, t < 8 → (t : Int) < A 1 → ¬ A (10 + 6 * t) = A 5 ∧ (N 4 t = 0 ∨ ¬ N 5 t = A 5)) : hourA A = upA A 5 (A 5 + 1) := by
  obtain ⟨q13, q14, q15, q16⟩ := hR.spots
  have h1 := hA.2.1
  have h2 := hA.2.2.1
  have e1 : offs A (A 2).toNat = A := by
    funext i
    unfold offs upB
    by_cases c : 63 ≤ i ∧ (i - 63) % 10 = 0 ∧ (i - 63) / 10 < (A 2).toNat
    · rw [if_pos c]
      unfold offv
      by_cases c2 : ((i - 63) / 10 : Nat) < A 2 ∧ ¬ A (59 + 10 * ((i - 63) / 10)) = 1 ∧ 10 ≤ A (63 + 10 * ((i - 63) / 10)) ∧ A (64 + 10 * ((i - 63) / 10)) + A (11 + 6 * (A (63 + 10 * ((i - 63) / 10)) - 10).toNat) = A 5
      · exfalso
        have w := q15 ((i - 63) / 10) (by omega) c2.1 c2.2.1
        have h0 := hA.1
        obtain ⟨t, t8, et⟩ := natOf (x := A (63 + 10 * ((i - 63) / 10)) - 10) (k := 8) (by omega) (by omega)
        have hr := ((q14 t t8).2 ((i - 63) / 10) (by omega)).2 ⟨c2.1, c2.2.1, by omega⟩
        have d := (q16 t t8 _ (by omega) hr).1
        have b := (hb t t8 (by omega)).2
        have c3 := c2.2.2.2
        rw [show (A (63 + 10 * ((i - 63) / 10)) - 10).toNat = t by omega] at c3
        rcases b with b | b
        · rw [b, bit0] at hr
          exact absurd hr (by decide)
        · omega
      · rw [if_neg c2, show 63 + 10 * ((i - 63) / 10) = i by omega]
    · rw [if_neg c]
  have e2 : ∀ k : Nat, (k : Int) ≤ A 1 → lvN A k = A := by
    intro k
    induction k with
    | zero => intro _; rfl
    | succ k ih =>
      intro hk
      have hk2 : (k : Int) < A 1 := by omega
      have r := hb k (by omega) hk2
      rw [lvN, ih (by omega)]
      unfold lv1
      rw [if_neg (fun q => r.1 q.1)]
  have e3 : ∀ k : Nat, k ≤ 8 → eaN A k = A := by
    intro k
    induction k with
    | zero => intro _; rfl
    | succ k ih =>
      intro hk
      have ih := ih (by omega)
      rw [eaN_no, ih]
      rw [ih]
      rintro ⟨c1, c2, c3⟩
      rcases etF_spec (A := A) (b := k) (A 2).toNat 0 with q | ⟨u, q1, q2, q3, q4, q5⟩
      · exact c3 q.1
      · exact hq k (by omega) c1 c2 u (by omega) q4
  unfold hourA
  rw [e1, e2 _ (by omega), e3 _ (by omega)]
theorem RN.up5 {th : Nat} {A : Nat → Int} {x : Int} (h : RN (blk M th 8) A) (hx : 0 ≤ x ∧ x ≤ 64) : RN (blk (jup M th 1 x) th 8) (upA A 5 x) := by
  have hN : ∀ j k : Nat, j < 8 → ¬ (j = 0 ∧ k = 1) → blk (jup M th 1 x) th 8 j k = blk M th 8 j k := fun j k hj hk => by
    rw [blk_at hj, blk_at hj, jup_at, if_neg (by omega)]
  have hv : blk (jup M th 1 x) th 8 0 1 = x := by
    rw [blk_at (by omega), jup_at, if_pos ⟨rfl, rfl⟩]
  generalize blk (jup M th 1 x) th 8 = N' at hN hv ⊢
  generalize blk M th 8 = N at h hN
  have e1 : N' 1 = N 1 := funext fun k => hN 1 k (by omega) (by omega)
  have e2 : N' 2 = N 2 := funext fun k => hN 2 k (by omega) (by omega)
  have e3 : N' 3 = N 3 := funext fun k => hN 3 k (by omega) (by omega)
  have e4 : N' 4 = N 4 := funext fun k => hN 4 k (by omega) (by omega)
  have e5 : N' 5 = N 5 := funext fun k => hN 5 k (by omega) (by omega)
  have ea : ∀ k : Nat, k ≠ 5 → upA A 5 x k = A k := fun k hk => upA_ne hk
  unfold RN at h ⊢
  obtain ⟨q0, q1, ⟨a2, q2⟩, q3, ⟨a4, q4⟩, q5, ⟨a6, q6⟩, q7, q8, q9, q10, q11, q12, q13, q14, q15, q16⟩ := h
  rw [hN 0 0 (by omega) (by omega), hv, hN 0 2 (by omega) (by omega), hN 0 3 (by omega) (by omega), hN 0 4 (by omega) (by omega), e1, e2, e3, e4, e5, ea 0 (by omega), ea 1 (by omega), ea 2 (by omega), ea 4 (by omega), upA_same, ea 6 (by omega)]
  refine ⟨q0, ⟨rfl, hx⟩, ⟨a2, fun b b8 => ?_⟩, fun b b8 => ?_, ⟨a4, fun b b8 => ?_⟩, fun b b8 => ?_, ⟨a6, fun t t8 => ?_⟩, fun t t8 => ?_, fun b b8 => ?_, fun b b8 => ?_, q10, q11, q12, fun p p6 => ⟨(q13 p p6).1, fun b b8 => ?_⟩, fun t t8 => ⟨(q14 t t8).1, fun b b8 => ?_⟩, fun b b8 => ?_, fun t t8 b b8 => ?_⟩
  · rw [ea _ (by omega)]; exact q2 b b8
  · rw [ea _ (by omega)]; exact q3 b b8
  · rw [ea _ (by omega)]; exact q4 b b8
  · rw [ea _ (by omega)]; exact q5 b b8
  · rw [ea _ (by omega)]; exact q6 t t8
  · rw [ea _ (by omega)]; exact q7 t t8
  · rw [ea _ (by omega)]; exact q8 b b8
  · rw [ea _ (by omega)]; exact q9 b b8
  · rw [ea (59 + 10 * b) (by omega), ea (63 + 10 * b) (by omega)]; exact (q13 p p6).2 b b8
  · rw [ea (59 + 10 * b) (by omega), ea (63 + 10 * b) (by omega)]; exact (q14 t t8).2 b b8
  · rw [ea (59 + 10 * b) (by omega), ea (63 + 10 * b) (by omega)]; exact q15 b b8
  · rw [ea (64 + 10 * b) (by omega), ea (11 + 6 * t) (by omega), ea (10 + 6 * t) (by omega)]; exact q16 t t8 b b8
theorem c_isBusy_L {th p : Nat} {A : Nat → Int} (hA : SA A) (hP : RP (blk M p 12) A) (hR : RN (blk M th 8) A) : ∀ (d t k : Nat), t + d = (A 1).toNat → d < k → f_X1_isBusy_L2 n th p k (t : Int) M = some (1, M) ∨ (f_X1_isBusy_L2 n th p k (t : Int) M = some (0, M) ∧ ∀ u : Nat, t ≤ u → (u : Int) < A 1 → ¬ A (10 + 6 * u) = A 5 ∧ (M (th + 4) u = 0 ∨ ¬ M (th + 5) u = A 5)) := by
  have h1 := hA.2.1
  have s5 := hA.2.2.2.2.1
  intro d
  induction d with
  | zero =>
    intro t k hi hk
    obtain ⟨k, rfl⟩ : ∃ q, k = q + 1 := ⟨k - 1, by omega⟩
    have e1 : M p 1 = A 1 := hP.2.1.1
    refine Or.inr ⟨?_, fun u h1 h2 => by omega⟩
    rw [f_X1_isBusy_L2, e1, if_pos (by rw [jw_of (x := A 1) (by omega) (by omega), jw_of (x := (t : Int)) (by omega) (by omega)]; omega)]
  | succ d ih =>
    intro t k hi hk
    obtain ⟨k, rfl⟩ : ∃ q, k = q + 1 := ⟨k - 1, by omega⟩
    have t8 : t < 8 := by omega
    have e1 : M p 1 = A 1 := hP.2.1.1
    obtain ⟨p1, p2, p3, p4, p5⟩ := hP.2.2.2.2.2.1 t t8 (by omega)
    have e6 : M (p + 6) t = A (10 + 6 * t) := p3.1
    have eh : M th 1 = A 5 := hR.heads.2.1.1
    obtain ⟨q13, q14, q15, q16⟩ := hR.spots
    have r14 : S8 (M (th + 4) t) := (q14 t t8).1
    rw [f_X1_isBusy_L2, e1, jw_of (x := A 1) (by omega) (by omega), if_neg (by rw [jw_of (x := (t : Int)) (by omega) (by omega)]; omega), chk_pos (jin_of (by omega) (by omega) (by omega)), jwb (by omega), e6, eh, jw_of (x := A 5) (by omega) (by omega), jw_of (x := A (10 + 6 * t)) (by omega) (by omega), r14.jw]
    by_cases c1 : A (10 + 6 * t) = A 5
    · rw [if_pos c1]; exact Or.inl rfl
    · rw [if_neg c1, chk_pos (jin_of (by omega) (by omega) (by omega))]
      have hno : (M (th + 4) t = 0 ∨ ¬ M (th + 5) t = A 5) → f_X1_isBusy_L47 n th p (f_X1_isBusy_L2 n th p k) (t : Int) M = some (1, M) ∨ (f_X1_isBusy_L47 n th p (f_X1_isBusy_L2 n th p k) (t : Int) M = some (0, M) ∧ ∀ u : Nat, t ≤ u → (u : Int) < A 1 → ¬ A (10 + 6 * u) = A 5 ∧ (M (th + 4) u = 0 ∨ ¬ M (th + 5) u = A 5)) := fun c => by
        rcases ih (t + 1) k (by omega) (by omega) with r | r
        · exact Or.inl r
        · refine Or.inr ⟨r.1, fun u u1 u2 => ?_⟩
          by_cases e : u = t
          · rw [e]; exact ⟨c1, c⟩
          · exact r.2 u (by omega) u2
      by_cases c2 : M (th + 4) t = 0
      · rw [if_pos c2]; exact hno (Or.inl c2)
      · have hd : ∃ b : Nat, b < 8 ∧ bit (M (th + 4) t) b = true := by
          apply Classical.byContradiction
          intro q
          exact c2 (S8.ext r14 S8_0 fun b b8 => by
            rw [bit0]
            cases hb : bit (M (th + 4) t) b
            · rfl
            · exact absurd ⟨b, b8, hb⟩ q)
        obtain ⟨b, b8, hb⟩ := hd
        have r := q16 t t8 b b8 hb
        have e5 : jw (M (th + 5) t) = M (th + 5) t := by
          have : M (th + 5) t = A (64 + 10 * b) + A (11 + 6 * t) := r.1
          exact jw_of (by omega) (by omega)
        rw [if_neg c2, chk_pos (jin_of (by omega) (by omega) (by omega)), e5]
        by_cases c3 : M (th + 5) t = A 5
        · rw [if_pos c3]; exact Or.inl rfl
        · rw [if_neg c3]; exact hno (Or.inr c3)
end PUNTIL

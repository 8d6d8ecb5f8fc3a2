section PROOMS2
variable {n : Nat} {M : JMem}
theorem c_fewestOf (hf : 1000 ≤ n) {A : Nat → Int} {nb : Nat} (n8 : nb ≤ 8) (hW : WS A nb (M 80)) {s : Nat} (hs : s < 1000) {x : Nat} (hx : x < 2 ^ nb) (x0 : x ≠ 0) (hN : ∀ w : Nat, w < x → sub8 w x → LK (isR (hF A) (hZ A) s) w 1000 (M 81 w)) :
    ∃ r, f_X5_fewestOf n (x : Int) (s : Int) M = some (r, M) ∧ LK (isR (hF A) (hZ A) s) x 1000 r := by
  have p8 := pow8 nb (by omega)
  have x8 : x < 256 := by omega
  obtain ⟨j, j8, e1, e2, e3⟩ := lowbit0 x x8 x0
  have f8 : 2 ^ j < 256 := Nat.lt_of_le_of_lt (Nat.pow_le_pow_right (n := 2) (by decide) (show j ≤ 7 by omega)) (by decide)
  have o8 : less x (2 ^ j) < 256 := less_lt x8
  have w : x ^^^ 2 ^ j = less x (2 ^ j) := by
    refine ext8 (xor_lt8 x8 f8) o8 fun t t8 => ?_
    rw [Nat.testBit_xor, less_bit _ _ t8, Nat.testBit_two_pow]
    by_cases e : j = t
    · rw [← e, e2, decide_eq_true rfl]; rfl
    · rw [decide_eq_false e]; simp
  obtain ⟨r, r1, r2⟩ := c_fewestL (n := n) (M := M) n8 hW hs hx ⟨j8, e2, e3⟩ hN (less x (2 ^ j)) n 1000 0 o8 (by omega) (fun _ _ h => h) (by omega) (by omega) ⟨Or.inl rfl, fun y hy ⟨a1, a2, a3⟩ => by
    exfalso
    have : less y (2 ^ j) ≤ less x (2 ^ j) := sub8_le (less_lt hy) fun t t8 h => by
      rw [less_bit _ _ t8, Bool.and_eq_true] at h
      rw [less_bit _ _ t8, a1 t t8 h.1, h.2]; rfl
    omega⟩
  refine ⟨r, ?_, r2⟩
  unfold f_X5_fewestOf
  simp only [letv_ap]
  rw [e1, jxor_nat (by omega) (by omega), w]
  exact r1
theorem jless {m k : Nat} (hm : m < 256) (hk : k < 256) : jand (m : Int) (jxor (k : Int) (-1)) = (less m k : Nat) := jandn0 m hm k hk
theorem less_zero {m k : Nat} (hm : m < 256) : less m k = 0 ↔ sub8 m k := by
  constructor
  · intro e t t8 h
    have := less_bit m k t8
    rw [e, Nat.zero_testBit, h] at this
    cases hk : k.testBit t with
    | true => rfl
    | false => rw [hk] at this; exact absurd this (by decide)
  · intro h
    refine ext8 (less_lt hm) (by decide) fun t t8 => ?_
    rw [less_bit m k t8, Nat.zero_testBit]
    cases hb : m.testBit t with
    | false => rfl
    | true => rw [h t t8 hb]; rfl
theorem c_fewest (hf : 1000 ≤ n) {A : Nat → Int} {nb : Nat} (n8 : nb ≤ 8) (hW : WS A nb (M 80)) {s : Nat} (hs : s < 1000) {S : Nat} (hS : S < 2 ^ nb) :
    ∃ r M', f_X5_fewest n (S : Int) (s : Int) M = some (r, M') ∧ (∀ c : Nat, c ≠ 81 → M' c = M c) ∧ LK (isR (hF A) (hZ A) s) S 1000 r := by
  have p8 := pow8 nb (by omega)
  have key : ∀ (d i q : Nat) (M1 : JMem), i + d = S + 1 → d < q → 1 ≤ i → (∀ c : Nat, c ≠ 81 → M1 c = M c) → (∀ w : Nat, w < i → sub8 w S → LK (isR (hF A) (hZ A) s) w 1000 (M1 81 w)) → ∃ r M', f_X5_fewest_L9 n q (S : Int) (s : Int) (i : Int) M1 = some (r, M') ∧ (∀ c : Nat, c ≠ 81 → M' c = M c) ∧ LK (isR (hF A) (hZ A) s) S 1000 r := fun d => by
    induction d with
    | zero =>
      intro i q M1 hi hq h1 hF hN
      obtain ⟨q, rfl⟩ : ∃ z, q = z + 1 := ⟨q - 1, by omega⟩
      refine ⟨M1 81 S, M1, ?_, hF, hN S (by omega) fun _ _ h => h⟩
      rw [f_X5_fewest_L9, if_pos (by rw [jw_of (x := (S : Int)) (by omega) (by omega), jw_of (x := (i : Int)) (by omega) (by omega)]; omega)]
      unfold f_X5_fewest_L47
      rw [if_neg (by rw [show jw 256 = 256 by decide, jw_of (x := (S : Int)) (by omega) (by omega)]; omega), chk_pos (jin_of (by omega) (by omega) (by omega)), show (jw (S : Int)).toNat = S from jwb (by omega)]
    | succ d ih =>
      intro i q M1 hi hq h1 hF hN
      obtain ⟨q, rfl⟩ : ∃ z, q = z + 1 := ⟨q - 1, by omega⟩
      have ll : less i S < 256 := less_lt (by omega)
      rw [f_X5_fewest_L9, if_neg (by rw [jw_of (x := (S : Int)) (by omega) (by omega), jw_of (x := (i : Int)) (by omega) (by omega)]; omega), if_neg (by rw [show jw 256 = 256 by decide, jw_of (x := (i : Int)) (by omega) (by omega)]; omega), jless (by omega) (by omega), jw_of (x := (less i S : Int)) (by omega) (by omega)]
      unfold f_X5_fewest_L41
      simp only [letv_ap]
      by_cases c : less i S = 0
      · have is := (less_zero (m := i) (k := S) (by omega)).1 c
        obtain ⟨r, r1, r2⟩ := c_fewestOf (n := n) (M := M1) hf n8 (by rw [hF 80 (by omega)]; exact hW) hs (x := i) (by omega) (by omega) (fun w hw hs => hN w hw fun t t8 h => is t t8 (hs t t8 h))
        obtain ⟨v, M2, k1, k2, k3⟩ := ih (i + 1) q (jup M1 81 i r) (by omega) (by omega) (by omega) (fun c hc => by rw [jup_cell hc, hF c hc]) (fun w hw hs => by
          rw [jup_if]
          by_cases e : w = i
          · rw [if_pos e, e]; exact r2
          · rw [if_neg e]; exact hN w (by omega) hs)
        refine ⟨v, M2, ?_, k2, k3⟩
        rw [if_pos (by omega), r1, bnd_some, chk_pos (jin_of (by omega) (by omega) (by omega)), show (jw (i : Int)).toNat = i from jwb (by omega)]
        simp only [letm_ap]
        exact k1
      · obtain ⟨v, M2, k1, k2, k3⟩ := ih (i + 1) q M1 (by omega) (by omega) (by omega) hF (fun w hw hs => hN w (by
          by_cases e : w = i
          · exfalso; rw [e] at hs; exact c ((less_zero (m := i) (k := S) (by omega)).2 hs)
          · omega) hs)
        refine ⟨v, M2, ?_, k2, k3⟩
        rw [if_neg (by omega)]
        exact k1
  obtain ⟨r, M', r1, r2, r3⟩ := key S 1 n (jup M 81 0 0) (by omega) (by omega) (by omega) (fun c hc => jup_cell hc) (fun w hw _ => by
    obtain rfl : w = 0 := by omega
    rw [jup_if, if_pos rfl]
    exact LK.zero)
  refine ⟨r, M', ?_, r2, r3⟩
  unfold f_X5_fewest
  rw [chk_pos (by decide), show (jw 0).toNat = 0 by decide]
  simp only [letv_ap, letm_ap]
  exact r1
/-! the reference -/
theorem q_isRoom (hf : 1000 ≤ n) {A : Nat → Int} (h168 : M 168 = A) (hn : 0 ≤ A 2 ∧ A 2 ≤ 8) (hb : ∀ b : Nat, b < 8 → (b : Int) < A 2 → (1 ≤ A (56 + 10 * b) ∧ A (56 + 10 * b) ≤ 9) ∧ S8 (A (62 + 10 * b))) {s x : Nat} (hs : s < 1000) (hx : x < 2 ^ (A 2).toNat) :
    ∃ r, f_X12_isRoom n (x : Int) (s : Int) M = some (r, M) ∧ ((r = 1 ∧ isR (hF A) (hZ A) s x) ∨ (r = 0 ∧ ¬ isR (hF A) (hZ A) s x)) := by
  have p8 := pow8 (A 2).toNat (by omega)
  have x8 : S8 (x : Int) := ⟨by omega, by omega⟩
  have xl : ∀ t : Nat, x.testBit t = true → t < (A 2).toNat := fun t ht => by
    by_cases z : t < (A 2).toNat
    · exact z
    · have := Nat.testBit_lt_two_pow (Nat.lt_of_lt_of_le hx (Nat.pow_le_pow_right (n := 2) (by decide) (show (A 2).toNat ≤ t by omega)))
      rw [this] at ht; cases ht
  have zb : ∀ i : Nat, i ≤ (A 2).toNat → zN (hZ A) x i ≤ 9 * i := fun i => by
    induction i with
    | zero => intro _; exact Nat.le_refl _
    | succ i ih =>
      intro hi
      have a := ih (by omega)
      have b := (hb i (by omega) (by omega)).1
      show zN (hZ A) x i + (if x.testBit i = true then hZ A i else 0) ≤ 9 * (i + 1)
      have : hZ A i ≤ 9 := by unfold hZ; omega
      by_cases c : x.testBit i = true
      · rw [if_pos c]; omega
      · rw [if_neg c]; omega
  have key : ∀ (d i q : Nat), i + d = (A 2).toNat → d < q → (∀ a b : Nat, a < i → b < 8 → x.testBit a = true → x.testBit b = true → hF A a b = false) → ∃ r, f_X12_isRoom_L5 n q (x : Int) (s : Int) (zN (hZ A) x i : Nat) (i : Int) M = some (r, M) ∧ ((r = 1 ∧ isR (hF A) (hZ A) s x) ∨ (r = 0 ∧ ¬ isR (hF A) (hZ A) s x)) := fun d => by
    induction d with
    | zero =>
      intro i q hi hq hl
      obtain ⟨q, rfl⟩ : ∃ z, q = z + 1 := ⟨q - 1, by omega⟩
      have z1 := zb i (by omega)
      have ez : zN (hZ A) x 8 = zN (hZ A) x i := by
        have := zN_more (Z := hZ A) (x := x) (k := i) (fun t ht => by
          cases hb : x.testBit t with
          | false => rfl
          | true => have := xl t hb; omega) (8 - i)
        rw [← this, show i + (8 - i) = 8 by omega]
      rw [f_X12_isRoom_L5, chk_pos (by decide), show (jw 2).toNat = 2 by decide, h168, if_pos (by rw [jw_of (x := A 2) (by omega) (by omega), jw_of (x := (i : Int)) (by omega) (by omega)]; omega)]
      unfold f_X12_isRoom_L60
      rw [jw_of (x := (s : Int)) (by omega) (by omega), jw_of (x := (zN (hZ A) x i : Int)) (by omega) (by omega)]
      by_cases c : (s : Int) < (zN (hZ A) x i : Int)
      · exact ⟨0, by rw [if_pos c], Or.inr ⟨rfl, fun q => by have := q.2; rw [ez] at this; omega⟩⟩
      · exact ⟨1, by rw [if_neg c], Or.inl ⟨rfl, fun a b a8 b8 ha hb => hl a b (by have := xl a ha; omega) b8 ha hb, by rw [ez]; omega⟩⟩
    | succ d ih =>
      intro i q hi hq hl
      obtain ⟨q, rfl⟩ : ∃ z, q = z + 1 := ⟨q - 1, by omega⟩
      have i8 : i < 8 := by omega
      obtain ⟨b1, b2⟩ := hb i i8 (by omega)
      have ja := jandS b2 x8
      rw [f_X12_isRoom_L5, chk_pos (by decide), show (jw 2).toNat = 2 by decide, show M 168 2 = A 2 by rw [h168], if_neg (by rw [jw_of (x := A 2) (by omega) (by omega), jw_of (x := (i : Int)) (by omega) (by omega)]; omega), q_isInM x8 i8, bnd_some]
      unfold f_X12_isRoom_L54
      simp only [letv_ap]
      by_cases c : bit (x : Int) i = true
      · rw [if_pos c, if_neg (by decide), q_bo0 i8, bnd_some, q_bo6 i8, bnd_some, h168, ja.1.jw]
        by_cases c2 : jand (A (62 + 10 * i)) (x : Int) = 0
        · obtain ⟨r, r1, r2⟩ := ih (i + 1) q (by omega) (by omega) (fun a b ha hb8 hxa hxb => by
            by_cases e : a = i
            · rw [e]
              have := (zero_of ja.1).1 c2 b hb8
              rw [ja.2 b, Bool.and_eq_true] at this
              exact Bool.eq_false_iff.2 fun z => this ⟨z, hxb⟩
            · exact hl a b (by omega) hb8 hxa hxb)
          refine ⟨r, ?_, r2⟩
          rw [if_pos c2]
          have ez : ((zN (hZ A) x i : Nat) : Int) + A (56 + 10 * i) = ((zN (hZ A) x (i + 1) : Nat) : Int) := by
            show _ = ((zN (hZ A) x i + (if x.testBit i = true then hZ A i else 0) : Nat) : Int)
            rw [if_pos (show x.testBit i = true from c)]
            unfold hZ
            omega
          rw [ez, show (i : Int) + 1 = ((i + 1 : Nat) : Int) by omega]
          exact r1
        · refine ⟨0, by rw [if_neg c2], Or.inr ⟨rfl, fun q => c2 ((zero_of ja.1).2 fun t t8 ht => ?_)⟩⟩
          rw [ja.2 t, Bool.and_eq_true] at ht
          have := q.1 i t i8 t8 c ht.2
          unfold hF at this
          rw [ht.1] at this; cases this
      · obtain ⟨r, r1, r2⟩ := ih (i + 1) q (by omega) (by omega) (fun a b ha hb8 hxa hxb => by
          by_cases e : a = i
          · rw [e] at hxa; exact absurd hxa c
          · exact hl a b (by omega) hb8 hxa hxb)
        refine ⟨r, ?_, r2⟩
        rw [if_neg c, if_pos (by decide)]
        have ez : zN (hZ A) x (i + 1) = zN (hZ A) x i := by
          show zN (hZ A) x i + (if x.testBit i = true then hZ A i else 0) = _
          rw [if_neg (show ¬ x.testBit i = true from c)]; rfl
        rw [ez, show ((i + 1 : Nat) : Int) = (i : Int) + 1 by omega] at r1
        exact r1
  obtain ⟨r, r1, r2⟩ := key (A 2).toNat 0 n (by omega) (by omega) (fun a b ha => by omega)
  refine ⟨r, ?_, r2⟩
  unfold f_X12_isRoom
  simp only [letv_ap]
  exact r1
end PROOMS2

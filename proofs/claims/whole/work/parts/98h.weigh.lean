section PWEIGH
variable {n : Nat} {M : JMem}
def hF (A : Nat → Int) (a b : Nat) : Bool := bit (A (62 + 10 * a)) b
def hZ (A : Nat → Int) (b : Nat) : Nat := (A (56 + 10 * b)).toNat
def freeR (F : Nat → Nat → Bool) (x : Nat) : Prop := ∀ a b : Nat, a < 8 → b < 8 → x.testBit a = true → x.testBit b = true → F a b = false
def WS (A : Nat → Int) (b : Nat) (m : Nat → Int) : Prop := ∀ x : Nat, x < 2 ^ b → (0 ≤ m x ∧ m x ≤ 1000 * b) ∧ ((freeR (hF A) x ∧ m x = (zN (hZ A) x b : Nat)) ∨ (¬ freeR (hF A) x ∧ 1000 ≤ m x))
theorem jor_two {b r : Nat} (b8 : b < 8) (hr : r < 2 ^ b) : jor ((2 ^ b : Nat) : Int) (r : Int) = ((2 ^ b + r : Nat) : Int) ∧ 2 ^ b + r < 256 ∧ (2 ^ b + r).testBit b = true ∧ ∀ t : Nat, t ≠ b → (2 ^ b + r).testBit t = r.testBit t := by
  have p : 2 ^ b ≤ 128 := Nat.pow_le_pow_right (n := 2) (by decide) (show b ≤ 7 by omega)
  have tb : (2 ^ b + r).testBit b = true := by rw [Nat.testBit_two_pow_add_eq, Nat.testBit_lt_two_pow hr]; rfl
  have to : ∀ t : Nat, t ≠ b → (2 ^ b + r).testBit t = r.testBit t := fun t ht => by
    by_cases c : t < b
    · exact Nat.testBit_two_pow_add_gt c r
    · have q : 2 ^ (b + 1) ≤ 2 ^ t := Nat.pow_le_pow_right (n := 2) (by decide) (by omega)
      rw [Nat.pow_succ] at q
      rw [Nat.testBit_lt_two_pow (by omega), Nat.testBit_lt_two_pow (by omega)]
  have h1 : S8 ((2 ^ b : Nat) : Int) := ⟨by omega, by omega⟩
  have h2 : S8 (r : Int) := ⟨by omega, by omega⟩
  have jo := jorS h1 h2
  refine ⟨S8.ext jo.1 ⟨by omega, by omega⟩ fun t t8 => ?_, by omega, tb, to⟩
  rw [jo.2 t, bit_nat, bit_nat, bit_nat]
  by_cases e : t = b
  · rw [e, tb, Nat.testBit_two_pow_self]; rfl
  · rw [to t e, Nat.testBit_two_pow_of_ne (fun q => e q.symm)]; rfl
theorem c_weighF {r9 : Int → JMem → Option (Int × JMem)} {A : Nat → Int} (hP : RP (blk M 40 12) A) {b : Nat} (b8 : b < 8) {v3 : Int} : ∀ (d i q : Nat) (v : Int), i + d = (A 2).toNat → d < q → S8 v → ∃ r, f_X5_weigh_L32 n 40 r9 q (b : Int) v3 v (i : Int) M = f_X5_weigh_L70 n 40 r9 (b : Int) v3 r M ∧ S8 r ∧ ∀ t : Nat, t < 8 → (bit r t = true ↔ bit v t = true ∨ (i ≤ t ∧ (t : Int) < A 2 ∧ bit (A (62 + 10 * t)) b = true)) := by
  have hn : M 40 2 = A 2 ∧ 0 ≤ A 2 ∧ A 2 ≤ 8 := hP.2.2.1
  intro d
  induction d with
  | zero =>
    intro i q v hi hq hv
    obtain ⟨q, rfl⟩ : ∃ z, q = z + 1 := ⟨q - 1, by omega⟩
    refine ⟨v, ?_, hv, fun t t8 => ⟨Or.inl, fun q => q.elim id (fun w => by omega)⟩⟩
    rw [f_X5_weigh_L32, hn.1, if_pos (by rw [jw_of (x := A 2) (by omega) (by omega), jw_of (x := (i : Int)) (by omega) (by omega)]; omega)]
  | succ d ih =>
    intro i q v hi hq hv
    obtain ⟨q, rfl⟩ : ∃ z, q = z + 1 := ⟨q - 1, by omega⟩
    have i8 : i < 8 := by omega
    obtain ⟨p1, p2, p3⟩ := hP.2.2.2.2.2.2 i i8 (by omega)
    have e11 : M (40 + 11) i = A (62 + 10 * i) := p3.1
    rw [f_X5_weigh_L32, hn.1, if_neg (by rw [jw_of (x := A 2) (by omega) (by omega), jw_of (x := (i : Int)) (by omega) (by omega)]; omega), chk_pos (jin_of (by omega) (by omega) (by omega)), show (jw (i : Int)).toNat = i from jwb (by omega), e11, q_isIn p3.2.1 b8, bnd_some]
    unfold f_X5_weigh_L64
    simp only [letv_ap]
    by_cases c : bit (A (62 + 10 * i)) b = true
    · have s := jset hv i8
      obtain ⟨r, r1, r2, r3⟩ := ih (i + 1) q (jor v (jshl 1 (i : Int))) (by omega) (by omega) s.1
      refine ⟨r, ?_, r2, fun t t8 => ?_⟩
      · rw [if_pos c, if_neg (by decide)]; exact r1
      rw [r3 t t8, s.2 t t8, Bool.or_eq_true, decide_eq_true_eq]
      constructor
      · rintro ((q | q) | q)
        · exact Or.inl q
        · rw [q]; exact Or.inr ⟨by omega, by omega, c⟩
        · exact Or.inr ⟨by omega, q.2⟩
      · rintro (q | q)
        · exact Or.inl (Or.inl q)
        · by_cases e : t = i
          · exact Or.inl (Or.inr e)
          · exact Or.inr ⟨by omega, q.2⟩
    · obtain ⟨r, r1, r2, r3⟩ := ih (i + 1) q v (by omega) (by omega) hv
      refine ⟨r, ?_, r2, fun t t8 => ?_⟩
      · rw [if_neg c, if_pos (by decide)]; exact r1
      rw [r3 t t8]
      constructor
      · rintro (q | q)
        · exact Or.inl q
        · exact Or.inr ⟨by omega, q.2⟩
      · rintro (q | q)
        · exact Or.inl q
        · by_cases e : t = i
          · subst e; exact absurd q.2.2 c
          · exact Or.inr ⟨by omega, q.2⟩
theorem c_weighR {r9 : Int → JMem → Option (Int × JMem)} {A : Nat → Int} {b : Nat} (b8 : b < 8) {fo : Int} (hfo : S8 fo) {M0 : JMem} (hz : M0 (40 + 9) b = A (56 + 10 * b) ∧ 1 ≤ A (56 + 10 * b) ∧ A (56 + 10 * b) ≤ 9) :
    ∀ (d i q : Nat) (M : JMem), i + d = 2 ^ b → d < q → (∀ c : Nat, c ≠ 80 → M c = M0 c) → (∀ x : Nat, x < 2 ^ b → M 80 x = M0 80 x) → (∀ r : Nat, r < i → M 80 (2 ^ b + r) = M0 80 r + if jand (r : Int) fo = 0 then A (56 + 10 * b) else 1000) →
    ∃ M', f_X5_weigh_L73 n 40 r9 q (b : Int) ((2 ^ b : Nat) : Int) fo (i : Int) M = f_X5_weigh_L134 n 40 r9 (b : Int) M' ∧ (∀ c : Nat, c ≠ 80 → M' c = M0 c) ∧ (∀ x : Nat, x < 2 ^ b → M' 80 x = M0 80 x) ∧ (∀ r : Nat, r < 2 ^ b → M' 80 (2 ^ b + r) = M0 80 r + if jand (r : Int) fo = 0 then A (56 + 10 * b) else 1000) := by
  have p : 2 ^ b ≤ 128 := Nat.pow_le_pow_right (n := 2) (by decide) (show b ≤ 7 by omega)
  intro d
  induction d with
  | zero =>
    intro i q M hi hq hF h1 h2
    obtain ⟨q, rfl⟩ : ∃ z, q = z + 1 := ⟨q - 1, by omega⟩
    refine ⟨M, ?_, hF, h1, fun r hr => h2 r (by omega)⟩
    rw [f_X5_weigh_L73, if_pos (by rw [jw_of (x := ((2 ^ b : Nat) : Int)) (by omega) (by omega), jw_of (x := (i : Int)) (by omega) (by omega)]; omega)]
  | succ d ih =>
    intro i q M hi hq hF h1 h2
    obtain ⟨q, rfl⟩ : ∃ z, q = z + 1 := ⟨q - 1, by omega⟩
    have i8 : S8 (i : Int) := ⟨by omega, by omega⟩
    have ja := (jandS i8 hfo).1
    obtain ⟨o1, o2, _, _⟩ := jor_two b8 (r := i) (by omega)
    have e9 : M (40 + 9) b = A (56 + 10 * b) := by rw [hF (40 + 9) (by omega)]; exact hz.1
    have step : ∀ y : Int, (y = if jand (i : Int) fo = 0 then A (56 + 10 * b) else 1000) → ∃ M', f_X5_weigh_L126 n 40 r9 (f_X5_weigh_L73 n 40 r9 q) (b : Int) ((2 ^ b : Nat) : Int) fo (i : Int) (jor ((2 ^ b : Nat) : Int) (i : Int)) (M 80 i) y M = f_X5_weigh_L134 n 40 r9 (b : Int) M' ∧ (∀ c : Nat, c ≠ 80 → M' c = M0 c) ∧ (∀ x : Nat, x < 2 ^ b → M' 80 x = M0 80 x) ∧ (∀ r : Nat, r < 2 ^ b → M' 80 (2 ^ b + r) = M0 80 r + if jand (r : Int) fo = 0 then A (56 + 10 * b) else 1000) := fun y hy => by
      unfold f_X5_weigh_L126
      simp only [letv_ap, letm_ap]
      rw [o1, chk_pos (jin_of (by omega) (by omega) (by omega)), show (jw ((2 ^ b + i : Nat) : Int)).toNat = 2 ^ b + i from jwb (by omega), show (i : Int) + 1 = ((i + 1 : Nat) : Int) by omega]
      refine ih (i + 1) q _ (by omega) (by omega) (fun c hc => by rw [jup_cell hc, hF c hc]) (fun x hx => by rw [jup_if, if_neg (by omega)]; exact h1 x hx) (fun r hr => ?_)
      rw [jup_if]
      by_cases e : r = i
      · rw [if_pos (by rw [e]), e, h1 i (by omega), hy]
      · rw [if_neg (by omega)]; exact h2 r (by omega)
    rw [f_X5_weigh_L73, if_neg (by rw [jw_of (x := ((2 ^ b : Nat) : Int)) (by omega) (by omega), jw_of (x := (i : Int)) (by omega) (by omega)]; omega), jw_of (x := jand (i : Int) fo) (by have := ja.1; omega) (by have := ja.2; omega)]
    unfold f_X5_weigh_L92
    simp only [letv_ap]
    rw [chk_pos (jin_of (by omega) (by omega) (by omega)), show (jw (i : Int)).toNat = i from jwb (by omega)]
    by_cases c : jand (i : Int) fo = 0
    · rw [if_pos c, if_pos (by decide), chk_pos (jin_of (by omega) (by omega) (by omega)), show (jw (b : Int)).toNat = b from jwb (by omega), e9]
      exact step _ (by rw [if_pos c])
    · rw [if_neg c, chk_pos (jin_of (by omega) (by omega) (by omega)), if_neg (by decide)]
      have e : (1000 : Int) = if jand (i : Int) fo = 0 then A (56 + 10 * b) else 1000 := by rw [if_neg c]
      have z := step 1000 e
      exact z
theorem zN_congr {Z : Nat → Nat} {x y : Nat} : ∀ i : Nat, (∀ t : Nat, t < i → x.testBit t = y.testBit t) → zN Z x i = zN Z y i := by
  intro i
  induction i with
  | zero => intro _; rfl
  | succ i ih =>
    intro h
    show zN Z x i + (if x.testBit i = true then Z i else 0) = zN Z y i + (if y.testBit i = true then Z i else 0)
    rw [ih (fun t ht => h t (by omega)), h i (by omega)]
theorem WS.step {A : Nat → Int} {b : Nat} (b8 : b < 8) {m m' : Nat → Int} (h : WS A b m) (hz : 1 ≤ A (56 + 10 * b) ∧ A (56 + 10 * b) ≤ 9) (hbb : hF A b b = false) {fo : Int} (hfo : S8 fo) (hfb : ∀ t : Nat, t < b → (bit fo t = true ↔ hF A b t = true ∨ hF A t b = true))
    (h1 : ∀ x : Nat, x < 2 ^ b → m' x = m x) (h2 : ∀ r : Nat, r < 2 ^ b → m' (2 ^ b + r) = m r + if jand (r : Int) fo = 0 then A (56 + 10 * b) else 1000) : WS A (b + 1) m' := by
  have p : 2 ^ b ≤ 128 := Nat.pow_le_pow_right (n := 2) (by decide) (show b ≤ 7 by omega)
  intro x hx
  rw [Nat.pow_succ] at hx
  by_cases c : x < 2 ^ b
  · obtain ⟨w1, w2⟩ := h x c
    have ez : zN (hZ A) x (b + 1) = zN (hZ A) x b := by
      show zN (hZ A) x b + (if x.testBit b = true then hZ A b else 0) = _
      rw [Nat.testBit_lt_two_pow c]; rfl
    rw [h1 x c, ez]
    exact ⟨by omega, w2⟩
  · obtain ⟨r, rfl⟩ : ∃ r, x = 2 ^ b + r := ⟨x - 2 ^ b, by omega⟩
    have hr : r < 2 ^ b := by omega
    obtain ⟨w1, w2⟩ := h r hr
    obtain ⟨_, _, tb, to⟩ := jor_two b8 hr
    have r8 : S8 (r : Int) := ⟨by omega, by omega⟩
    have ja := jandS r8 hfo
    have rl : ∀ t : Nat, r.testBit t = true → t < b := fun t ht => by
      by_cases z : t < b
      · exact z
      · have := Nat.testBit_lt_two_pow (Nat.lt_of_lt_of_le hr (Nat.pow_le_pow_right (n := 2) (by decide) (show b ≤ t by omega)))
        rw [this] at ht; cases ht
    have ez : zN (hZ A) (2 ^ b + r) (b + 1) = zN (hZ A) r b + hZ A b := by
      show zN (hZ A) (2 ^ b + r) b + (if (2 ^ b + r).testBit b = true then hZ A b else 0) = _
      rw [tb, if_pos rfl, zN_congr b (fun t ht => to t (by omega))]
    have hzb : (hZ A b : Int) = A (56 + 10 * b) := by unfold hZ; omega
    have fr : freeR (hF A) (2 ^ b + r) ↔ freeR (hF A) r ∧ jand (r : Int) fo = 0 := by
      rw [zero_of ja.1]
      constructor
      · intro q
        refine ⟨fun a c a8 c8 ha hc => q a c a8 c8 (by rw [to a (by have := rl a ha; omega)]; exact ha) (by rw [to c (by have := rl c hc; omega)]; exact hc), fun t t8 ht => ?_⟩
        rw [ja.2 t, Bool.and_eq_true, bit_nat] at ht
        have tl := rl t ht.1
        have t2 : (2 ^ b + r).testBit t = true := by rw [to t (by omega)]; exact ht.1
        rcases (hfb t tl).1 ht.2 with z | z
        · rw [q b t b8 t8 tb t2] at z; cases z
        · rw [q t b t8 b8 t2 tb] at z; cases z
      · rintro ⟨q1, q2⟩ a c a8 c8 ha hc
        have no : ∀ t : Nat, t < 8 → r.testBit t = true → hF A b t = false ∧ hF A t b = false := fun t t8 ht => by
          have nn : ¬ bit fo t = true := fun z => q2 t t8 (by rw [ja.2 t, bit_nat, ht, z]; rfl)
          rw [hfb t (rl t ht)] at nn
          exact ⟨Bool.eq_false_iff.2 fun z => nn (Or.inl z), Bool.eq_false_iff.2 fun z => nn (Or.inr z)⟩
        by_cases ea : a = b
        · by_cases ec : c = b
          · rw [ea, ec]; exact hbb
          · rw [ea]
            rw [to c ec] at hc
            exact (no c c8 hc).1
        · rw [to a ea] at ha
          by_cases ec : c = b
          · rw [ec]; exact (no a a8 ha).2
          · rw [to c ec] at hc
            exact q1 a c a8 c8 ha hc
    rw [h2 r hr, ez]
    by_cases cz : jand (r : Int) fo = 0
    · rw [if_pos cz]
      refine ⟨by omega, ?_⟩
      rcases w2 with ⟨a, a2⟩ | ⟨a, a2⟩
      · exact Or.inl ⟨fr.2 ⟨a, cz⟩, by omega⟩
      · exact Or.inr ⟨fun q => a (fr.1 q).1, by omega⟩
    · rw [if_neg cz]
      exact ⟨by omega, Or.inr ⟨fun q => cz (fr.1 q).2, by omega⟩⟩
theorem c_weigh (hf : 1000 ≤ n) {A : Nat → Int} (hP : RP (blk M 40 12) A) : ∃ M', f_X5_weigh n 40 M = some (0, M') ∧ (∀ c : Nat, c ≠ 80 → M' c = M c) ∧ WS A (A 2).toNat (M' 80) := by
  have hn : M 40 2 = A 2 ∧ 0 ≤ A 2 ∧ A 2 ≤ 8 := hP.2.2.1
  have key : ∀ (d b q : Nat) (M1 : JMem), b + d = (A 2).toNat → d < q → (∀ c : Nat, c ≠ 80 → M1 c = M c) → WS A b (M1 80) → ∃ M', f_X5_weigh_L9 n 40 q (b : Int) M1 = some (0, M') ∧ (∀ c : Nat, c ≠ 80 → M' c = M c) ∧ WS A (A 2).toNat (M' 80) := fun d => by
    induction d with
    | zero =>
      intro b q M1 hb hq hF hW
      obtain ⟨q, rfl⟩ : ∃ z, q = z + 1 := ⟨q - 1, by omega⟩
      refine ⟨M1, ?_, hF, by rw [← show b = (A 2).toNat by omega]; exact hW⟩
      rw [f_X5_weigh_L9, hF 40 (by omega), hn.1, if_pos (by rw [jw_of (x := A 2) (by omega) (by omega), jw_of (x := (b : Int)) (by omega) (by omega)]; omega)]
    | succ d ih =>
      intro b q M1 hb hq hF hW
      obtain ⟨q, rfl⟩ : ∃ z, q = z + 1 := ⟨q - 1, by omega⟩
      have b8 : b < 8 := by omega
      obtain ⟨p1, p2, p3⟩ := hP.2.2.2.2.2.2 b b8 (by omega)
      have e11 : M1 (40 + 11) b = A (62 + 10 * b) := by rw [hF (40 + 11) (by omega)]; exact p3.1
      have hP1 : RP (blk M1 40 12) A := by
        rw [blk_congr (by decide) (M := M) (M' := M1) (a := 40) (z := 12) (fun j hj => hF _ (by omega))]; exact hP
      obtain ⟨fo, f1, f2, f3⟩ := c_weighF (n := n) (r9 := f_X5_weigh_L9 n 40 q) hP1 b8 (v3 := ((2 ^ b : Nat) : Int)) (A 2).toNat 0 n (A (62 + 10 * b)) (by omega) (by omega) p3.2.1
      obtain ⟨M2, g1, g2, g3, g4⟩ := c_weighR (n := n) (r9 := f_X5_weigh_L9 n 40 q) (A := A) b8 f2 (M0 := M1) ⟨by rw [hF (40 + 9) (by omega)]; exact p1.1, p1.2⟩ (2 ^ b) 0 n M1 (by omega) (by have : 2 ^ b ≤ 128 := Nat.pow_le_pow_right (n := 2) (by decide) (show b ≤ 7 by omega); omega) (fun _ _ => rfl) (fun _ _ => rfl) (fun r hr => by omega)
      obtain ⟨M3, k1, k2, k3⟩ := ih (b + 1) q M2 (by omega) (by omega) (fun c hc => by rw [g2 c hc, hF c hc]) (hW.step b8 p1.2 p3.2.2.1 f2 (fun t ht => by
        rw [f3 t (by omega)]
        constructor
        · rintro (q | q)
          · exact Or.inl q
          · exact Or.inr q.2.2
        · rintro (q | q)
          · exact Or.inl q
          · exact Or.inr ⟨by omega, by omega, q⟩) g3 g4)
      refine ⟨M3, ?_, k2, k3⟩
      rw [f_X5_weigh_L9, hF 40 (by omega), hn.1, if_neg (by rw [jw_of (x := A 2) (by omega) (by omega), jw_of (x := (b : Int)) (by omega) (by omega)]; omega)]
      simp only [letv_ap]
      rw [chk_pos (jin_of (by omega) (by omega) (by omega)), show (jw (b : Int)).toNat = b from jwb (by omega), e11, (jsh_pow (nb := (b : Int)) ⟨by omega, by omega⟩).1, Int.toNat_natCast, show f_X5_weigh_L32 n 40 (f_X5_weigh_L9 n 40 q) n (b : Int) ((2 ^ b : Nat) : Int) (A (62 + 10 * b)) 0 M1 = _ from f1]
      unfold f_X5_weigh_L70
      simp only [letv_ap]
      rw [show f_X5_weigh_L73 n 40 (f_X5_weigh_L9 n 40 q) n (b : Int) ((2 ^ b : Nat) : Int) fo 0 M1 = _ from g1]
      unfold f_X5_weigh_L134
      simp only [letv_ap]
      exact k1
  have W0 : WS A 0 (jup M 80 0 0 80) := fun x hx => by
    have : x = 0 := by rw [show (2 : Nat) ^ 0 = 1 from rfl] at hx; omega
    subst this
    rw [jup_if, if_pos rfl]
    exact ⟨by omega, Or.inl ⟨(fun a b _ _ ha _ => by rw [Nat.zero_testBit] at ha; cases ha), rfl⟩⟩
  obtain ⟨M', r1, r2, r3⟩ := key (A 2).toNat 0 n (jup M 80 0 0) (by omega) (by omega) (fun c hc => jup_cell hc) W0
  refine ⟨M', ?_, r2, r3⟩
  unfold f_X5_weigh
  rw [chk_pos (by decide), show (jw 0).toNat = 0 by decide]
  simp only [letv_ap, letm_ap]
  exact r1
end PWEIGH

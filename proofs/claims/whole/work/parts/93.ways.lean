section PWAYS
variable {n : Nat} {M : JMem}
/-! ways: the soonest hour at each place, told by what it must hold -/
def EA (A : Nat → Int) (g : Nat → Prop) (p0 : Nat) (h : Int) (V : Nat → Int) : Prop :=
  V p0 = h ∧ (∀ p : Nat, p < 6 → h ≤ V p ∧ V p ≤ 65) ∧
  (∀ t : Nat, t < 8 → (t : Int) < A 1 → g t → V (A (8 + 6 * t)).toNat ≤ A (10 + 6 * t) → A (10 + 6 * t) + A (11 + 6 * t) ≤ 64 → V (A (9 + 6 * t)).toNat ≤ A (10 + 6 * t) + A (11 + 6 * t)) ∧
  (∀ p : Nat, p < 6 → p ≠ p0 → V p ≤ 64 → ∃ t : Nat, t < 8 ∧ (t : Int) < A 1 ∧ g t ∧ V (A (8 + 6 * t)).toNat ≤ A (10 + 6 * t) ∧ A (10 + 6 * t) + A (11 + 6 * t) ≤ 64 ∧ (A (9 + 6 * t)).toNat = p ∧ V p = A (10 + 6 * t) + A (11 + 6 * t))
/-- who can be at one place soon enough can be wherever one gets from there -/
theorem EA.le {A : Nat → Int} {g : Nat → Prop} {p0 q0 : Nat} {h k : Int} {V W : Nat → Int} (hA : SA A) (hV : EA A g p0 h V) (hW : EA A g q0 k W) (hq : V q0 ≤ k) : ∀ (d p : Nat), p < 6 → W p ≤ d → V p ≤ W p := by
  obtain ⟨v1, v2, v3, v4⟩ := hV
  obtain ⟨w1, w2, w3, w4⟩ := hW
  have a0 := hA.1
  intro d
  induction d with
  | zero =>
    intro p p6 hd
    by_cases c : p = q0
    · rw [c, w1]; exact hq
    · obtain ⟨t, t8, tl, tg, t1, t2, t3, t4⟩ := w4 p p6 c (by omega)
      obtain ⟨s1, s2, s3, s4, s5, s6⟩ := hA.2.2.2.2.2.1 t t8 tl
      omega
  | succ d ih =>
    intro p p6 hd
    by_cases c : p = q0
    · rw [c, w1]; exact hq
    · by_cases c2 : W p ≤ 64
      · obtain ⟨t, t8, tl, tg, t1, t2, t3, t4⟩ := w4 p p6 c c2
        obtain ⟨s1, s2, s3, s4, s5, s6⟩ := hA.2.2.2.2.2.1 t t8 tl
        have r := ih (A (8 + 6 * t)).toNat (by omega) (by omega)
        have r2 := v3 t t8 tl tg (by omega) t2
        rw [t3] at r2
        omega
      · have := v2 p p6
        have := w2 p p6
        omega
theorem EA.uniq {A : Nat → Int} {g : Nat → Prop} {p0 : Nat} {h : Int} {V W : Nat → Int} (hA : SA A) (hV : EA A g p0 h V) (hW : EA A g p0 h W) {p : Nat} (p6 : p < 6) : V p = W p := by
  have a := EA.le hA hV hW (by rw [hV.1]; exact Int.le_refl _) 65 p p6 (hW.2.1 p p6).2
  have b := EA.le hA hW hV (by rw [hW.1]; exact Int.le_refl _) 65 p p6 (hV.2.1 p p6).2
  omega
theorem EA.congr {A : Nat → Int} {g g' : Nat → Prop} {p0 : Nat} {h : Int} {V : Nat → Int} (hV : EA A g p0 h V) (hg : ∀ t : Nat, t < 8 → (t : Int) < A 1 → (g' t ↔ g t)) : EA A g' p0 h V := by
  obtain ⟨v1, v2, v3, v4⟩ := hV
  refine ⟨v1, v2, fun t t8 tl tg => v3 t t8 tl ((hg t t8 tl).1 tg), fun p p6 hp hv => ?_⟩
  obtain ⟨t, t8, tl, tg, q⟩ := v4 p p6 hp hv
  exact ⟨t, t8, tl, (hg t t8 tl).2 tg, q⟩
/-! the class: trains by hours -/
def OrdK (A : Nat → Int) (k : Nat) (B : Nat → Int) : Prop := (∀ i : Nat, i < k → ∃ t : Nat, t < k ∧ B i = t) ∧ (∀ t : Nat, t < k → ∃ i : Nat, i < k ∧ B i = t) ∧ ∀ i j : Nat, i < j → j < k → A (10 + 6 * (B i).toNat) ≤ A (10 + 6 * (B j).toNat)
theorem OrdK.ins {A : Nat → Int} {k q : Nat} {B B' : Nat → Int} (h : OrdK A k B) (hq : q ≤ k) (h1 : ∀ j : Nat, j < q → B' j = B j) (h2 : B' q = k) (h3 : ∀ j : Nat, q ≤ j → j < k → B' (j + 1) = B j ∧ A (10 + 6 * k) < A (10 + 6 * (B j).toNat)) (h4 : 0 < q → A (10 + 6 * (B (q - 1)).toNat) ≤ A (10 + 6 * k)) : OrdK A (k + 1) B' := by
  obtain ⟨o1, o2, o3⟩ := h
  have hk : (B' q).toNat = k := by rw [h2]; exact Int.toNat_natCast k
  have w : ∀ j : Nat, j < k + 1 → (j < q ∧ B' j = B j) ∨ j = q ∨ (q < j ∧ B' j = B (j - 1) ∧ A (10 + 6 * k) < A (10 + 6 * (B (j - 1)).toNat)) := fun j hj => by
    by_cases c : j < q
    · exact Or.inl ⟨c, h1 j c⟩
    · by_cases c2 : j = q
      · exact Or.inr (Or.inl c2)
      · have r := h3 (j - 1) (by omega) (by omega)
        rw [show j - 1 + 1 = j by omega] at r
        exact Or.inr (Or.inr ⟨by omega, r⟩)
  have pre : ∀ j : Nat, j < q → A (10 + 6 * (B j).toNat) ≤ A (10 + 6 * k) := fun j hj => by
    have z := h4 (by omega)
    by_cases c : j = q - 1
    · rw [c]; exact z
    · have := o3 j (q - 1) (by omega) (by omega); omega
  refine ⟨fun i hi => ?_, fun t ht => ?_, fun i j hij hj => ?_⟩
  · rcases w i hi with ⟨a, b⟩ | a | ⟨a, b, c⟩
    · obtain ⟨t, t1, t2⟩ := o1 i (by omega)
      exact ⟨t, by omega, by rw [b, t2]⟩
    · exact ⟨k, by omega, by rw [a, h2]⟩
    · obtain ⟨t, t1, t2⟩ := o1 (i - 1) (by omega)
      exact ⟨t, by omega, by rw [b, t2]⟩
  · by_cases c : t = k
    · exact ⟨q, by omega, by rw [c]; exact h2⟩
    · obtain ⟨i, i1, i2⟩ := o2 t (by omega)
      by_cases c2 : i < q
      · exact ⟨i, by omega, by rw [h1 i c2, i2]⟩
      · exact ⟨i + 1, by omega, by rw [(h3 i (by omega) i1).1, i2]⟩
  · rcases w i (by omega) with ⟨a, b⟩ | a | ⟨a, b, c⟩
    · rcases w j hj with ⟨a', b'⟩ | a' | ⟨a', b', c'⟩
      · rw [b, b']; exact o3 i j hij (by omega)
      · rw [b, a', hk]; exact pre i a
      · rw [b, b']; have := pre i a; omega
    · rcases w j hj with ⟨a', b'⟩ | a' | ⟨a', b', c'⟩
      · omega
      · omega
      · rw [a, hk, b']; omega
    · rcases w j hj with ⟨a', b'⟩ | a' | ⟨a', b', c'⟩
      · omega
      · omega
      · rw [b, b']; exact o3 (i - 1) (j - 1) (by omega) (by omega)
theorem c_order_I {r2 : Int → JMem → Option (Int × JMem)} {A : Nat → Int} {k : Nat} (k8 : k < 8) {M0 : JMem} (hP : RP (blk M0 40 12) A) (hk : (k : Int) < A 1) (hO : OrdK A k (M0 78)) : ∀ (i q : Nat) (M : JMem), i ≤ k → i < q → (∀ c : Nat, c ≠ 78 → M c = M0 c) → (∀ j : Nat, j < i → M 78 j = M0 78 j) → (∀ j : Nat, i ≤ j → j < k → M 78 (j + 1) = M0 78 j ∧ A (10 + 6 * k) < A (10 + 6 * (M0 78 j).toNat)) →
    ∃ M', f_X8_order_L12 n 40 r2 q (k : Int) (i : Int) M = r2 ((k + 1 : Nat) : Int) M' ∧ (∀ c : Nat, c ≠ 78 → M' c = M0 c) ∧ OrdK A (k + 1) (M' 78) := by
  have tr := hP.2.2.2.2.2.1
  have n1 : 0 ≤ A 1 ∧ A 1 ≤ 8 := hP.2.1.2
  have eat : ∀ X : JMem, (∀ c : Nat, c ≠ 78 → X c = M0 c) → ∀ t : Nat, t ≤ k → X (40 + 6) t = A (10 + 6 * t) ∧ 0 ≤ A (10 + 6 * t) ∧ A (10 + 6 * t) ≤ 63 := fun X hX t ht => by
    have := (tr t (by omega) (by omega)).2.2.1
    rw [hX (40 + 6) (by omega)]; exact this
  have fin : ∀ (i : Nat) (M : JMem), i ≤ k → (∀ c : Nat, c ≠ 78 → M c = M0 c) → (∀ j : Nat, j < i → M 78 j = M0 78 j) → (∀ j : Nat, i ≤ j → j < k → M 78 (j + 1) = M0 78 j ∧ A (10 + 6 * k) < A (10 + 6 * (M0 78 j).toNat)) → (0 < i → A (10 + 6 * (M0 78 (i - 1)).toNat) ≤ A (10 + 6 * k)) → ∃ M', f_X8_order_L58 n 40 r2 (k : Int) (i : Int) M = r2 ((k + 1 : Nat) : Int) M' ∧ (∀ c : Nat, c ≠ 78 → M' c = M0 c) ∧ OrdK A (k + 1) (M' 78) := fun i M hi hF h1 h2 h3 => by
    refine ⟨jup M 78 i (k : Int), ?_, fun c hc => by rw [jup_cell hc, hF c hc], ?_⟩
    · unfold f_X8_order_L58
      simp only [letv_ap, letm_ap]
      rw [chk_pos (jin_of (by omega) (by omega) (by omega)), show (jw (i : Int)).toNat = i from jwb (by omega), show (k : Int) + 1 = ((k + 1 : Nat) : Int) by omega]
    · exact hO.ins (q := i) hi (fun j hj => by rw [jup_if, if_neg (by omega)]; exact h1 j hj) (by rw [jup_if, if_pos rfl]) (fun j j1 j2 => by rw [jup_if, if_neg (by omega)]; exact h2 j j1 j2) h3
  intro i
  induction i with
  | zero =>
    intro q M hi hq hF h1 h2
    obtain ⟨q, rfl⟩ : ∃ z, q = z + 1 := ⟨q - 1, by omega⟩
    rw [f_X8_order_L12, if_pos (by decide)]
    exact fin 0 M hi hF h1 h2 (fun q => by omega)
  | succ i ih =>
    intro q M hi hq hF h1 h2
    obtain ⟨q, rfl⟩ : ∃ z, q = z + 1 := ⟨q - 1, by omega⟩
    obtain ⟨t, t1, t2⟩ := hO.1 i (by omega)
    have e78 : M 78 i = (t : Int) := by rw [h1 i (by omega)]; exact t2
    have tt : (M0 78 i).toNat = t := by rw [t2]; exact Int.toNat_natCast t
    obtain ⟨a1, a2, a3⟩ := eat M hF t (by omega)
    obtain ⟨b1, b2, b3⟩ := eat M hF k (by omega)
    rw [f_X8_order_L12, if_neg (by rw [jw_of (x := ((i + 1 : Nat) : Int)) (by omega) (by omega)]; omega), show ((i + 1 : Nat) : Int) - 1 = (i : Int) by omega, chk_pos (jin_of (by omega) (by omega) (by omega)), show (jw (i : Int)).toNat = i from jwb (by omega), e78, chk_pos (jin_of (by omega) (by omega) (by omega)), chk_pos (jin_of (by omega) (by omega) (by omega)), show (jw (t : Int)).toNat = t from jwb (by omega), show (jw (k : Int)).toNat = k from jwb (by omega), a1, b1, jw_of (x := A (10 + 6 * t)) (by omega) (by omega), jw_of (x := A (10 + 6 * k)) (by omega) (by omega)]
    by_cases c : A (10 + 6 * t) ≤ A (10 + 6 * k)
    · rw [if_pos c]
      exact fin (i + 1) M hi hF h1 h2 (fun _ => by rw [show i + 1 - 1 = i by omega, tt]; exact c)
    · rw [if_neg c, chk_pos (jin_of (by omega) (by omega) (by omega)), chk_pos (jin_of (by omega) (by omega) (by omega)), show (jw ((i + 1 : Nat) : Int)).toNat = i + 1 from jwb (by omega)]
      simp only [letv_ap, letm_ap]
      rw [show ((i + 1 : Nat) : Int) + (-1) = (i : Int) by omega]
      refine ih q _ (by omega) (by omega) (fun c hc => by rw [jup_cell hc, hF c hc]) (fun j hj => by rw [jup_if, if_neg (by omega)]; exact h1 j (by omega)) (fun j j1 j2 => ?_)
      rw [jup_if]
      by_cases cj : j = i
      · subst cj
        rw [if_pos rfl, tt]
        exact ⟨t2.symm, by omega⟩
      · rw [if_neg (by omega)]
        exact h2 j (by omega) j2
theorem c_order_L (hf : 100 ≤ n) {A : Nat → Int} {M0 : JMem} (hP : RP (blk M0 40 12) A) : ∀ (d k q : Nat) (M : JMem), k + d = (A 1).toNat → d < q → (∀ c : Nat, c ≠ 78 → M c = M0 c) → OrdK A k (M 78) → ∃ M', f_X8_order_L2 n 40 q (k : Int) M = some (0, M') ∧ (∀ c : Nat, c ≠ 78 → M' c = M0 c) ∧ OrdK A (A 1).toNat (M' 78) := by
  have n1 : 0 ≤ A 1 ∧ A 1 ≤ 8 := hP.2.1.2
  intro d
  induction d with
  | zero =>
    intro k q M hk hq hF hO
    obtain ⟨q, rfl⟩ : ∃ z, q = z + 1 := ⟨q - 1, by omega⟩
    have e1 : M 40 1 = A 1 := by rw [hF 40 (by omega)]; exact hP.2.1.1
    refine ⟨M, ?_, hF, by rw [show (A 1).toNat = k by omega]; exact hO⟩
    rw [f_X8_order_L2, e1, if_pos (by rw [jw_of (x := A 1) (by omega) (by omega), jw_of (x := (k : Int)) (by omega) (by omega)]; omega)]
  | succ d ih =>
    intro k q M hk hq hF hO
    obtain ⟨q, rfl⟩ : ∃ z, q = z + 1 := ⟨q - 1, by omega⟩
    have e1 : M 40 1 = A 1 := by rw [hF 40 (by omega)]; exact hP.2.1.1
    have hP' : RP (blk M 40 12) A := by
      rw [blk_congr (by decide) (M := M0) (M' := M) (a := 40) (z := 12) (fun j hj => hF _ (by omega))]; exact hP
    obtain ⟨M', r1, r2, r3⟩ := c_order_I (n := n) (r2 := f_X8_order_L2 n 40 q) (k := k) (by omega) hP' (by omega) hO k n M (Nat.le_refl k) (by omega) (fun _ _ => rfl) (fun _ _ => rfl) (fun j j1 j2 => by omega)
    obtain ⟨M2, g1, g2, g3⟩ := ih (k + 1) q M' (by omega) (by omega) (fun c hc => by rw [r2 c hc, hF c hc]) r3
    refine ⟨M2, ?_, g2, g3⟩
    rw [f_X8_order_L2, e1, if_neg (by rw [jw_of (x := A 1) (by omega) (by omega), jw_of (x := (k : Int)) (by omega) (by omega)]; omega)]
    simp only [letv_ap]
    rw [r1]
    exact g1
theorem c_order (hf : 100 ≤ n) {A : Nat → Int} (hP : RP (blk M 40 12) A) : ∃ M', f_X8_order n 40 M = some (0, M') ∧ (∀ c : Nat, c ≠ 78 → M' c = M c) ∧ OrdK A (A 1).toNat (M' 78) :=
  c_order_L (n := n) hf hP (A 1).toNat 0 n M (by omega) (by have : A 1 ≤ 8 := hP.2.1.2.2; omega) (fun _ _ => rfl) ⟨fun i hi => by omega, fun t ht => by omega, fun i j _ hj => by omega⟩
/-! the class: one pass over the trains by hours -/
theorem c_setI {x2 x3 x4 : Int} : ∀ (d i k : Nat) (M : JMem), i + d = 6 → d < k → ∃ M', f_X8_setOut_L3 n 40 k x2 x3 x4 (i : Int) M = f_X8_setOut_L25 n 40 x2 x3 x4 M' ∧ (∀ c : Nat, c ≠ 77 → M' c = M c) ∧ ∀ p : Nat, M' 77 p = if i ≤ p ∧ p < 6 then 65 else M 77 p := by
  intro d
  induction d with
  | zero =>
    intro i k M hi hk
    obtain ⟨k, rfl⟩ : ∃ q, k = q + 1 := ⟨k - 1, by omega⟩
    refine ⟨M, ?_, fun _ _ => rfl, fun p => by rw [if_neg (by omega)]⟩
    rw [f_X8_setOut_L3, if_pos (by rw [show jw 6 = 6 by decide, jw_of (x := (i : Int)) (by omega) (by omega)]; omega)]
  | succ d ih =>
    intro i k M hi hk
    obtain ⟨k, rfl⟩ : ∃ q, k = q + 1 := ⟨k - 1, by omega⟩
    obtain ⟨M', r1, r2, r3⟩ := ih (i + 1) k (jup M 77 i 65) (by omega) (by omega)
    refine ⟨M', ?_, fun c hc => by rw [r2 c hc, jup_cell hc], fun p => ?_⟩
    · rw [f_X8_setOut_L3, if_neg (by rw [show jw 6 = 6 by decide, jw_of (x := (i : Int)) (by omega) (by omega)]; omega), chk_pos (jin_of (by omega) (by omega) (by omega)), show (jw (i : Int)).toNat = i from jwb (by omega)]
      simp only [letv_ap, letm_ap]
      exact r1
    · rw [r3 p, jup_if]
      by_cases e : p = i
      · rw [if_neg (by omega), if_pos e, if_pos (by omega)]
      · by_cases c : i + 1 ≤ p ∧ p < 6
        · rw [if_pos c, if_pos (by omega)]
        · rw [if_neg c, if_neg e, if_neg (by omega)]
theorem c_setOut_L {A : Nat → Int} (hA : SA A) {x2 h : Int} (hx : S8 x2) {p0 : Nat} (hp0 : p0 < 6) (hh : 0 ≤ h ∧ h ≤ 64) {M0 : JMem} (hP : RP (blk M0 40 12) A) (hO : OrdK A (A 1).toNat (M0 78)) :
    ∀ (d i k : Nat) (M : JMem), i + d = (A 1).toNat → d < k → (∀ c : Nat, c ≠ 77 → M c = M0 c) → M 77 p0 = h → (∀ p : Nat, p < 6 → h ≤ M 77 p ∧ M 77 p ≤ 65) →
    (∀ j : Nat, j < i → ∀ t : Nat, M0 78 j = t → ¬ bit x2 t = true → M 77 (A (8 + 6 * t)).toNat ≤ A (10 + 6 * t) → A (10 + 6 * t) + A (11 + 6 * t) ≤ 64 → M 77 (A (9 + 6 * t)).toNat ≤ A (10 + 6 * t) + A (11 + 6 * t)) →
    (∀ p : Nat, p < 6 → p ≠ p0 → M 77 p ≤ 64 → ∃ t : Nat, t < 8 ∧ (t : Int) < A 1 ∧ ¬ bit x2 t = true ∧ M 77 (A (8 + 6 * t)).toNat ≤ A (10 + 6 * t) ∧ A (10 + 6 * t) + A (11 + 6 * t) ≤ 64 ∧ (A (9 + 6 * t)).toNat = p ∧ M 77 p = A (10 + 6 * t) + A (11 + 6 * t)) →
    ∃ M', f_X8_setOut_L36 n 40 k x2 (i : Int) M = some (0, M') ∧ (∀ c : Nat, c ≠ 77 → M' c = M0 c) ∧ EA A (fun t => ¬ bit x2 t = true) p0 h (M' 77) := by
  have n1 := hA.2.1
  have n0 := hA.1
  intro d
  induction d with
  | zero =>
    intro i k M hi hk hF h1 h2 h3 h4
    obtain ⟨k, rfl⟩ : ∃ q, k = q + 1 := ⟨k - 1, by omega⟩
    have e1 : M 40 1 = A 1 := by rw [hF 40 (by omega)]; exact hP.2.1.1
    refine ⟨M, ?_, hF, h1, h2, fun t t8 tl tg => ?_, h4⟩
    · rw [f_X8_setOut_L36, e1, if_pos (by rw [jw_of (x := A 1) (by omega) (by omega), jw_of (x := (i : Int)) (by omega) (by omega)]; omega)]
    · obtain ⟨j, j1, j2⟩ := hO.2.1 t (by omega)
      exact h3 j (by omega) t j2 tg
  | succ d ih =>
    intro i k M hi hk hF h1 h2 h3 h4
    obtain ⟨k, rfl⟩ : ∃ q, k = q + 1 := ⟨k - 1, by omega⟩
    have e1 : M 40 1 = A 1 := by rw [hF 40 (by omega)]; exact hP.2.1.1
    obtain ⟨t, t1, t2⟩ := hO.1 i (by omega)
    have t8 : t < 8 := by omega
    have tl : (t : Int) < A 1 := by omega
    have e78 : M 78 i = (t : Int) := by rw [hF 78 (by omega)]; exact t2
    obtain ⟨p1, p2, p3, p4, p5⟩ := hP.2.2.2.2.2.1 t t8 tl
    have e4 : M (40 + 4) t = A (8 + 6 * t) := by rw [hF (40 + 4) (by omega)]; exact p1.1
    have e5 : M (40 + 5) t = A (9 + 6 * t) := by rw [hF (40 + 5) (by omega)]; exact p2.1
    have e6 : M (40 + 6) t = A (10 + 6 * t) := by rw [hF (40 + 6) (by omega)]; exact p3.1
    have e7 : M (40 + 7) t = A (11 + 6 * t) := by rw [hF (40 + 7) (by omega)]; exact p4.1
    obtain ⟨f, f6, ef⟩ := natOf (x := A (8 + 6 * t)) (k := 6) (by omega) (by omega)
    obtain ⟨o, o6, eo⟩ := natOf (x := A (9 + 6 * t)) (k := 6) (by omega) (by omega)
    have hf2 := h2 f f6
    have ho2 := h2 o o6
    have skip : (¬ bit x2 t = true → M 77 f ≤ A (10 + 6 * t) → A (10 + 6 * t) + A (11 + 6 * t) ≤ 64 → M 77 o ≤ A (10 + 6 * t) + A (11 + 6 * t)) → ∃ M', f_X8_setOut_L140 n 40 (f_X8_setOut_L36 n 40 k) x2 (i : Int) M = some (0, M') ∧ (∀ c : Nat, c ≠ 77 → M' c = M0 c) ∧ EA A (fun t => ¬ bit x2 t = true) p0 h (M' 77) := fun hc => by
      unfold f_X8_setOut_L140
      simp only [letv_ap]
      refine ih (i + 1) k M (by omega) (by omega) hF h1 h2 (fun j hj u hu => ?_) h4
      by_cases e : j = i
      · rw [e, t2] at hu
        obtain rfl : t = u := by omega
        rw [ef, eo, Int.toNat_natCast, Int.toNat_natCast]
        exact hc
      · exact h3 j (by omega) u hu
    rw [f_X8_setOut_L36, e1, if_neg (by rw [jw_of (x := A 1) (by omega) (by omega), jw_of (x := (i : Int)) (by omega) (by omega)]; omega), chk_pos (jin_of (by omega) (by omega) (by omega)), show (jw (i : Int)).toNat = i from jwb (by omega), e78]
    simp only [letv_ap]
    rw [chk_pos (jin_of (by omega) (by omega) (by omega)), chk_pos (jin_of (by omega) (by omega) (by omega)), show (jw (t : Int)).toNat = t from jwb (by omega), e6, e7, q_isIn hx t8, bnd_some]
    by_cases c1 : bit x2 t = true
    · rw [if_pos c1, if_neg (by decide)]
      exact skip (fun q => absurd c1 q)
    · rw [if_neg c1, if_pos (by decide), chk_pos (jin_of (by omega) (by omega) (by omega)), e4, ef, chk_pos (jin_of (by omega) (by omega) (by omega)), chk_pos (jin_of (by omega) (by omega) (by omega)), show (jw (f : Int)).toNat = f from jwb (by omega), e6, jw_of (x := A (10 + 6 * t)) (by omega) (by omega), jw_of (x := M 77 f) (by omega) (by omega)]
      by_cases c2 : A (10 + 6 * t) < M 77 f
      · rw [if_pos c2]
        exact skip (fun _ q => by omega)
      · rw [if_neg c2, jw_of (x := A (10 + 6 * t) + A (11 + 6 * t)) (by omega) (by omega), show jw 64 = 64 by decide]
        by_cases c3 : 64 < A (10 + 6 * t) + A (11 + 6 * t)
        · rw [if_pos c3]
          exact skip (fun _ _ q => by omega)
        · rw [if_neg c3, chk_pos (jin_of (by omega) (by omega) (by omega)), e5, eo, chk_pos (jin_of (by omega) (by omega) (by omega)), show (jw (o : Int)).toNat = o from jwb (by omega), jw_of (x := M 77 o) (by omega) (by omega)]
          by_cases c4 : M 77 o ≤ A (10 + 6 * t) + A (11 + 6 * t)
          · rw [if_pos c4]
            exact skip (fun _ _ _ => c4)
          · rw [if_neg c4, chk_pos (jin_of (by omega) (by omega) (by omega)), chk_pos (jin_of (by omega) (by omega) (by omega))]
            simp only [letm_ap]
            unfold f_X8_setOut_L140
            simp only [letv_ap]
            have po : o ≠ p0 := fun e => by rw [e, h1] at c4; omega
            have dec : ∀ p : Nat, jup M 77 o (A (10 + 6 * t) + A (11 + 6 * t)) 77 p ≤ M 77 p := fun p => by
              rw [jup_if]
              by_cases e : p = o
              · rw [if_pos e, e]; omega
              · rw [if_neg e]; exact Int.le_refl _
            refine ih (i + 1) k _ (by omega) (by omega) (fun c hc => by rw [jup_cell hc, hF c hc]) (by rw [jup_if, if_neg (fun q => po q.symm)]; exact h1) (fun p p6 => ?_) (fun j hj u hu ug u1 u2 => ?_) (fun p p6 hp hv => ?_)
            · rw [jup_if]
              by_cases e : p = o
              · rw [if_pos e]; omega
              · rw [if_neg e]; exact h2 p p6
            · -- what was gone through ahead stays closed
              by_cases e : j = i
              · rw [e, t2] at hu
                obtain rfl : t = u := by omega
                rw [eo, Int.toNat_natCast, jup_if, if_pos rfl]
                exact Int.le_refl _
              · obtain ⟨u', u1', u2'⟩ := hO.1 j (by omega)
                obtain rfl : u' = u := by omega
                have srt := hO.2.2 j i (by omega) (by omega)
                rw [hu, t2, Int.toNat_natCast, Int.toNat_natCast] at srt
                have old : M 77 (A (8 + 6 * u')).toNat ≤ A (10 + 6 * u') := by
                  rw [jup_if] at u1
                  by_cases e2 : (A (8 + 6 * u')).toNat = o
                  · rw [if_pos e2] at u1; omega
                  · rw [if_neg e2] at u1; exact u1
                have := h3 j (by omega) u' hu ug old u2
                have := dec (A (9 + 6 * u')).toNat
                omega
            · rw [jup_if] at hv
              by_cases e : p = o
              · refine ⟨t, t8, tl, c1, ?_, by omega, by rw [eo, Int.toNat_natCast]; exact e.symm, ?_⟩
                · have := dec (A (8 + 6 * t)).toNat
                  rw [ef, Int.toNat_natCast] at this ⊢
                  omega
                · rw [jup_if, if_pos e]
              · rw [if_neg e] at hv
                obtain ⟨u, u8, ul, ug, u1, u2, u3, u4⟩ := h4 p p6 hp hv
                refine ⟨u, u8, ul, ug, ?_, u2, u3, ?_⟩
                · have := dec (A (8 + 6 * u)).toNat
                  omega
                · rw [jup_if, if_neg e]; exact u4
theorem c_setOut (hf : 100 ≤ n) {A : Nat → Int} (hA : SA A) {x2 h : Int} (hx : S8 x2) {p0 : Nat} (hp0 : p0 < 6) (hh : 0 ≤ h ∧ h ≤ 64) (hP : RP (blk M 40 12) A) (hO : OrdK A (A 1).toNat (M 78)) : ∃ M', f_X8_setOut n 40 x2 (p0 : Int) h M = some (0, M') ∧ (∀ c : Nat, c ≠ 77 → M' c = M c) ∧ EA A (fun t => ¬ bit x2 t = true) p0 h (M' 77) := by
  have n1 := hA.2.1
  obtain ⟨M1, a1, a2, a3⟩ := c_setI (n := n) (x2 := x2) (x3 := (p0 : Int)) (x4 := h) 6 0 n M (by omega) (by omega)
  have hv : ∀ p : Nat, p < 6 → jup M1 77 p0 h 77 p = if p = p0 then h else 65 := fun p p6 => by
    rw [jup_if]
    by_cases e : p = p0
    · rw [if_pos e, if_pos e]
    · rw [if_neg e, if_neg e, a3 p, if_pos (by omega)]
  obtain ⟨M2, b1, b2, b3⟩ := c_setOut_L (n := n) hA hx hp0 hh (M0 := M) hP hO (A 1).toNat 0 n (jup M1 77 p0 h) (by omega) (by omega) (fun c hc => by rw [jup_cell hc, a2 c hc]) (by rw [hv p0 hp0, if_pos rfl]) (fun p p6 => by
    rw [hv p p6]
    by_cases e : p = p0
    · rw [if_pos e]; omega
    · rw [if_neg e]; omega) (fun j hj => by omega) (fun p p6 hp hv2 => by
    rw [hv p p6, if_neg hp] at hv2
    omega)
  refine ⟨M2, ?_, b2, b3⟩
  unfold f_X8_setOut
  simp only [letv_ap]
  rw [show f_X8_setOut_L3 n 40 n x2 (p0 : Int) h 0 M = _ from a1]
  unfold f_X8_setOut_L25
  simp only [letv_ap, letm_ap]
  rw [chk_pos (jin_of (by omega) (by omega) (by omega)), show (jw (p0 : Int)).toNat = p0 from jwb (by omega)]
  exact b1
end PWAYS

section PEATEN
variable {n : Nat} {M : JMem}
abbrev eC (A : Nat → Int) (b o : Nat) : Prop := (o : Int) < A 2 ∧ o ≠ b ∧ 0 < wh A o ∧ wh A o = wh A b ∧ bit (A (62 + 10 * o)) b = true
def etF (A : Nat → Int) (b : Nat) : Nat → Nat → Int
  | 0, _ => -1
  | d + 1, i => if eC A b i then (i : Int) else etF A b d (i + 1)
/-- who eats a beast where it is; none -/
def etr (A : Nat → Int) (b : Nat) : Int := etF A b (A 2).toNat 0
theorem etF_spec {A : Nat → Int} {b : Nat} : ∀ d i : Nat, (etF A b d i = -1 ∧ ∀ o : Nat, i ≤ o → o < i + d → ¬ eC A b o) ∨ (∃ o : Nat, etF A b d i = o ∧ i ≤ o ∧ o < i + d ∧ eC A b o ∧ ∀ u : Nat, i ≤ u → u < o → ¬ eC A b u) := by
  intro d
  induction d with
  | zero => intro i; exact Or.inl ⟨rfl, fun o h1 h2 => by omega⟩
  | succ d ih =>
    intro i
    by_cases c : eC A b i
    · refine Or.inr ⟨i, ?_, Nat.le_refl i, by omega, c, fun u h1 h2 => by omega⟩
      rw [etF, if_pos c]
    · rcases ih (i + 1) with ⟨h1, h2⟩ | ⟨o, h1, h2, h3, h4, h5⟩
      · refine Or.inl ⟨by rw [etF, if_neg c]; exact h1, fun o o1 o2 => ?_⟩
        by_cases e : o = i
        · rw [e]; exact c
        · exact h2 o (by omega) (by omega)
      · refine Or.inr ⟨o, by rw [etF, if_neg c]; exact h1, by omega, by omega, h4, fun u u1 u2 => ?_⟩
        by_cases e : u = i
        · rw [e]; exact c
        · exact h5 u (by omega) u2
theorem SA.whK {A : Nat → Int} (h : SA A) {b : Nat} (b8 : b < 8) (hb : (b : Int) < A 2) : -1 ≤ wh A b ∧ wh A b < 18 := by
  obtain ⟨b1, b2, b3, b4, b5⟩ := h.2.2.2.2.2.2 b b8 hb
  have h0 := h.1
  have h1 := h.2.1
  unfold wh
  by_cases he : A (59 + 10 * b) = 1
  · rw [if_pos he]; decide
  · rw [if_neg he]
    have := b5 he
    omega
theorem q_whS {b : Nat} (h : SA (M 168)) (b8 : b < 8) (hb : (b : Int) < M 168 2) : f_X12_whereOf n (b : Int) M = some (wh (M 168) b, M) := by
  rw [q_whereOf b8 (h.2.2.2.2.2.2 b b8 hb).2.1]
  rfl
theorem q_areTog {a b : Nat} (h : SA (M 168)) (a8 : a < 8) (ha : (a : Int) < M 168 2) (b8 : b < 8) (hb : (b : Int) < M 168 2) : f_X12_areTogether n (a : Int) (b : Int) M = some (if 0 < wh (M 168) a ∧ wh (M 168) a = wh (M 168) b then 1 else 0, M) := by
  have w1 := h.whK a8 ha
  have w2 := h.whK b8 hb
  unfold f_X12_areTogether
  rw [q_whS h a8 ha, bnd_some, jw_of (x := wh (M 168) a) (by omega) (by omega)]
  by_cases c : wh (M 168) a ≤ 0
  · rw [if_pos c, if_neg (by omega)]
  · rw [if_neg c, q_whS h a8 ha, bnd_some, q_whS h b8 hb, bnd_some, jw_of (x := wh (M 168) b) (by omega) (by omega), jw_of (x := wh (M 168) a) (by omega) (by omega)]
    by_cases c2 : wh (M 168) a = wh (M 168) b
    · rw [if_pos c2, if_pos ⟨by omega, c2⟩]
    · rw [if_neg c2, if_neg (fun q => c2 q.2)]
theorem q_eaterOf_L {b : Nat} (h : SA (M 168)) (b8 : b < 8) (hb : (b : Int) < M 168 2) : ∀ (d i k : Nat), i + d = (M 168 2).toNat → d < k → f_X12_eaterOf_L2 n k (b : Int) (i : Int) M = some (etF (M 168) b d i, M) := by
  have h2 := h.2.2.1
  intro d
  induction d with
  | zero =>
    intro i k hi hk
    obtain ⟨k, rfl⟩ : ∃ q, k = q + 1 := ⟨k - 1, by omega⟩
    rw [f_X12_eaterOf_L2, chk_pos (by decide), show (jw 2).toNat = 2 by decide, jw_of (by omega) (by omega), jw_of (by omega) (by omega), if_pos (by omega)]
    rfl
  | succ d ih =>
    intro i k hi hk
    obtain ⟨k, rfl⟩ : ∃ q, k = q + 1 := ⟨k - 1, by omega⟩
    have i8 : i < 8 := by omega
    have il : (i : Int) < M 168 2 := by omega
    obtain ⟨b1, b2, b3, b4, b5⟩ := h.2.2.2.2.2.2 i i8 il
    have hno : ¬ eC (M 168) b i → f_X12_eaterOf_L43 n (f_X12_eaterOf_L2 n k) (b : Int) (i : Int) M = some (etF (M 168) b (d + 1) i, M) := fun c => by
      rw [etF, if_neg c]
      exact ih (i + 1) k (by omega) (by omega)
    rw [f_X12_eaterOf_L2, chk_pos (by decide), show (jw 2).toNat = 2 by decide, jw_of (x := M 168 2) (by omega) (by omega), jw_of (x := (i : Int)) (by omega) (by omega), jw_of (x := (b : Int)) (by omega) (by omega), if_neg (by omega)]
    by_cases c1 : i = b
    · rw [if_pos (by omega)]
      exact hno (fun q => q.2.1 c1)
    · rw [if_neg (by omega), q_areTog h i8 il b8 hb, bnd_some]
      by_cases c2 : 0 < wh (M 168) i ∧ wh (M 168) i = wh (M 168) b
      · rw [if_pos c2, if_neg (by decide), q_bo6 i8, bnd_some, q_isInM b4 b8, bnd_some]
        by_cases c3 : bit (M 168 (62 + 10 * i)) b = true
        · rw [if_pos c3, if_neg (by decide), etF, if_pos ⟨il, c1, c2.1, c2.2, c3⟩]
        · rw [if_neg c3, if_pos (by decide)]
          exact hno (fun q => c3 q.2.2.2.2)
      · rw [if_neg c2, if_pos (by decide)]
        exact hno (fun q => c2 ⟨q.2.2.1, q.2.2.2.1⟩)
theorem q_eaterOf {b : Nat} (hf : 100 ≤ n) (h : SA (M 168)) (b8 : b < 8) (hb : (b : Int) < M 168 2) : f_X12_eaterOf n (b : Int) M = some (etr (M 168) b, M) :=
  q_eaterOf_L h b8 hb (M 168 2).toNat 0 n (by omega) (by have := h.2.2.1; omega)
def eaN (A : Nat → Int) : Nat → Nat → Int
  | 0 => A
  | k + 1 => if (k : Int) < A 2 ∧ ¬ eaN A k (59 + 10 * k) = 1 ∧ ¬ etr (eaN A k) k = -1 then upA (upA (eaN A k) (59 + 10 * k) 1) (65 + 10 * k) (etr (eaN A k) k) else eaN A k
theorem eaN_yes {A : Nat → Int} {k : Nat} (h : (k : Int) < A 2 ∧ ¬ eaN A k (59 + 10 * k) = 1 ∧ ¬ etr (eaN A k) k = -1) : eaN A (k + 1) = upA (upA (eaN A k) (59 + 10 * k) 1) (65 + 10 * k) (etr (eaN A k) k) := by rw [eaN, if_pos h]
theorem eaN_no {A : Nat → Int} {k : Nat} (h : ¬ ((k : Int) < A 2 ∧ ¬ eaN A k (59 + 10 * k) = 1 ∧ ¬ etr (eaN A k) k = -1)) : eaN A (k + 1) = eaN A k := by rw [eaN, if_neg h]
theorem eaN_ne {A : Nat → Int} {i : Nat} : ∀ k : Nat, (∀ b : Nat, b < k → i ≠ 59 + 10 * b ∧ i ≠ 65 + 10 * b) → eaN A k i = A i := by
  intro k
  induction k with
  | zero => intro _; rfl
  | succ k ih =>
    intro h
    have ih := ih (fun b hb => h b (by omega))
    by_cases c : (k : Int) < A 2 ∧ ¬ eaN A k (59 + 10 * k) = 1 ∧ ¬ etr (eaN A k) k = -1
    · have := h k (by omega)
      rw [eaN_yes c, upA_ne (by omega), upA_ne (by omega), ih]
    · rw [eaN_no c, ih]
theorem SA.eaK {A : Nat → Int} (h : SA A) : ∀ k : Nat, k ≤ 8 → SA (eaN A k) := by
  intro k
  induction k with
  | zero => intro _; exact h
  | succ k ih =>
    intro hk
    have ih := ih (by omega)
    by_cases c : (k : Int) < A 2 ∧ ¬ eaN A k (59 + 10 * k) = 1 ∧ ¬ etr (eaN A k) k = -1
    · rw [eaN_yes c]
      have ih' := ih
      obtain ⟨s0, s1, s2, s4, s5, st, sb⟩ := ih'
      have e : ∀ i : Nat, i ≠ 59 + 10 * k → i ≠ 65 + 10 * k → upA (upA (eaN A k) (59 + 10 * k) 1) (65 + 10 * k) (etr (eaN A k) k) i = eaN A k i := fun i h1 h2 => by rw [upA_ne h2, upA_ne h1]
      refine ih.mk2 (fun i i4 i5 hi => e i (hi k (by omega)).2.1 (hi k (by omega)).2.2.2.2.2) (by rw [e 4 (by omega) (by omega)]; exact s4) (by rw [e 5 (by omega) (by omega)]; exact s5) fun b b8 hb => ?_
      obtain ⟨b1, b2, b3, b4, b5⟩ := sb b b8 hb
      rw [e (58 + 10 * b) (by omega) (by omega), e (63 + 10 * b) (by omega) (by omega), e (64 + 10 * b) (by omega) (by omega)]
      by_cases ek : b = k
      · subst ek
        rw [upA_ne (by omega), upA_same]
        exact ⟨b1, Or.inr rfl, fun q => absurd rfl q⟩
      · rw [e (59 + 10 * b) (by omega) (by omega)]
        exact ⟨b1, b2, b5⟩
    · rw [eaN_no c]; exact ih
/-- an hour goes by -/
def hourA (A : Nat → Int) : Nat → Int := upA (eaN (lvN (offs A (A 2).toNat) (A 1).toNat) (A 2).toNat) 5 (A 5 + 1)
theorem q_eats {A : Nat → Int} (hf : 100 ≤ n) (hA : SA A) : ∀ (d i k : Nat) (v : Int) (M : JMem), i + d = (A 2).toNat → d < k → M 168 = eaN A i → S8 v → (∀ j : Nat, j < 8 → (bit v j = true ↔ eaN A i (59 + 10 * j) = 1 ∧ ¬ A (59 + 10 * j) = 1)) →
    ∃ r, f_X12_hourGoes_L50 n k v (i : Int) M = some (r, jrow M 168 (upA (eaN A (A 2).toNat) 5 (A 5 + 1))) ∧ S8 r ∧ ∀ j : Nat, j < 8 → (bit r j = true ↔ eaN A (A 2).toNat (59 + 10 * j) = 1 ∧ ¬ A (59 + 10 * j) = 1) := by
  have h2 := hA.2.2.1
  intro d
  induction d with
  | zero =>
    intro i k v M hi hk hM hv hb
    obtain ⟨k, rfl⟩ : ∃ q, k = q + 1 := ⟨k - 1, by omega⟩
    have e2 : M 168 2 = A 2 := by rw [hM]; exact eaN_ne _ (by omega)
    have e5 : M 168 5 = A 5 := by rw [hM]; exact eaN_ne _ (by omega)
    refine ⟨v, ?_, hv, fun j hj => by rw [show (A 2).toNat = i by omega]; exact hb j hj⟩
    rw [f_X12_hourGoes_L50, chk_pos (by decide), show (jw 2).toNat = 2 by decide, e2, jw_of (by omega) (by omega), jw_of (by omega) (by omega), if_pos (by omega)]
    unfold f_X12_hourGoes_L123
    simp only [letv_ap, letm_ap]
    rw [chk_pos (by decide), chk_pos (by decide), show (jw 5).toNat = 5 by decide, jup_jrow, show (A 2).toNat = i by omega, ← hM, e5]
  | succ d ih =>
    intro i k v M hi hk hM hv hb
    obtain ⟨k, rfl⟩ : ∃ q, k = q + 1 := ⟨k - 1, by omega⟩
    have i8 : i < 8 := by omega
    have e2 : M 168 2 = A 2 := by rw [hM]; exact eaN_ne _ (by omega)
    have hS : SA (M 168) := by rw [hM]; exact hA.eaK i (by omega)
    have il : (i : Int) < M 168 2 := by omega
    obtain ⟨b1, b2, b3, b4, b5⟩ := hS.2.2.2.2.2.2 i i8 il
    have eE : eaN A i (59 + 10 * i) = M 168 (59 + 10 * i) := by rw [hM]
    have eA : eaN A i (59 + 10 * i) = A (59 + 10 * i) := eaN_ne i (by omega)
    have hno : ¬ ((i : Int) < A 2 ∧ ¬ eaN A i (59 + 10 * i) = 1 ∧ ¬ etr (eaN A i) i = -1) → ∃ r, f_X12_hourGoes_L117 n (f_X12_hourGoes_L50 n k) v (i : Int) M = some (r, jrow M 168 (upA (eaN A (A 2).toNat) 5 (A 5 + 1))) ∧ S8 r ∧ ∀ j : Nat, j < 8 → (bit r j = true ↔ eaN A (A 2).toNat (59 + 10 * j) = 1 ∧ ¬ A (59 + 10 * j) = 1) := fun c => by
      have e := eaN_no c
      exact ih (i + 1) k v M (by omega) (by omega) (by rw [e]; exact hM) hv (by rw [e]; exact hb)
    rw [f_X12_hourGoes_L50, chk_pos (by decide), show (jw 2).toNat = 2 by decide, e2, jw_of (x := A 2) (by omega) (by omega), jw_of (x := (i : Int)) (by omega) (by omega), if_neg (by omega), q_isEatenM i8 b2, bnd_some]
    by_cases he : M 168 (59 + 10 * i) = 1
    · rw [if_pos he, if_neg (by decide)]
      unfold f_X12_hourGoes_L77
      simp only [letv_ap, letm_ap]
      rw [if_pos trivial]
      exact hno (fun q => q.2.1 (by rw [eE]; exact he))
    · rw [if_neg he, if_pos (by decide), q_eaterOf hf hS i8 il, bnd_some]
      unfold f_X12_hourGoes_L77
      simp only [letv_ap, letm_ap]
      have er : etr (M 168) i = -1 ∨ ∃ o : Nat, o < 8 ∧ etr (M 168) i = o := by
        rcases etF_spec (A := M 168) (b := i) (M 168 2).toNat 0 with q | ⟨o, q1, q2, q3, q4⟩
        · exact Or.inl q.1
        · exact Or.inr ⟨o, by omega, q1⟩
      by_cases c : etr (M 168) i = -1
      · rw [c, if_pos rfl]
        exact hno (fun q => q.2.2 (by rw [← hM]; exact c))
      · obtain ⟨o, o8, eo⟩ : ∃ o : Nat, o < 8 ∧ etr (M 168) i = o := er.resolve_left c
        have e := eaN_yes (A := A) (k := i) ⟨by omega, by rw [eE]; exact he, by rw [← hM]; exact c⟩
        rw [← hM] at e
        rw [if_neg (by rw [eo, jw_of (by omega) (by omega), show jw (-1) = -1 by decide]; omega), q_beastRow, bnd_some, chk_pos (ixj3 i8), ixb3 i8]
        rw [q_beastRow, bnd_some, chk_pos (ixj9 i8), ixb9 i8, jup2, ← e]
        have hs := jset hv i8
        obtain ⟨r, r1, r2, r3⟩ := ih (i + 1) k (jor v (jshl 1 (i : Int))) (jrow M 168 (eaN A (i + 1))) (by omega) (by omega) (jrow_same _ _) hs.1 (fun j hj => by
          rw [hs.2 j hj, e, hM, upA_ne (by omega), Bool.or_eq_true, decide_eq_true_eq, hb j hj]
          by_cases ej : j = i
          · subst ej
            rw [upA_same]
            exact ⟨fun _ => ⟨rfl, by rw [← eA, eE]; exact he⟩, fun _ => Or.inr rfl⟩
          · rw [upA_ne (by omega)]
            exact ⟨fun q => q.resolve_right ej, Or.inl⟩)
        refine ⟨r, ?_, r2, r3⟩
        rw [jrow_jrow] at r1
        exact r1
theorem q_hourGoes (hf : 100 ≤ n) (h : SA (M 168)) (h5 : M 168 5 ≤ 63) : ∃ r, f_X12_hourGoes n M = some (r, jrow M 168 (hourA (M 168))) ∧ S8 r ∧ ∀ j : Nat, j < 8 → (bit r j = true ↔ hourA (M 168) (59 + 10 * j) = 1 ∧ ¬ M 168 (59 + 10 * j) = 1) := by
  have h1 := h.2.1
  have h2 := h.2.2.1
  have a1 : SA (offs (M 168) (M 168 2).toNat) := h.offsK (by omega)
  have o5 : offs (M 168) (M 168 2).toNat 5 = M 168 5 := offs_ne (by omega)
  have o1 : offs (M 168) (M 168 2).toNat 1 = M 168 1 := offs_ne (by omega)
  have o2 : offs (M 168) (M 168 2).toNat 2 = M 168 2 := offs_ne (by omega)
  have a2 : SA (lvN (offs (M 168) (M 168 2).toNat) (M 168 1).toNat) := a1.lvK (by omega) _ (by omega)
  have l2 : lvN (offs (M 168) (M 168 2).toNat) (M 168 1).toNat 2 = M 168 2 := by rw [lvN_ne (by omega) _ _ (by omega), o2]
  have l5 : lvN (offs (M 168) (M 168 2).toNat) (M 168 1).toNat 5 = M 168 5 := by rw [lvN_ne (by omega) _ _ (by omega), o5]
  have l9 : ∀ j : Nat, lvN (offs (M 168) (M 168 2).toNat) (M 168 1).toNat (59 + 10 * j) = M 168 (59 + 10 * j) := fun j => by rw [lvN_ne (by omega) _ _ (by omega), offs_ne (by omega)]
  unfold f_X12_hourGoes
  simp only [letv_ap, letm_ap]
  have e := q_getsOffs (n := n) h (M 168 2).toNat 0 n M (by omega) (by omega) (upB_0 _ _ _).symm
  rw [show ((0 : Nat) : Int) = 0 from rfl] at e
  rw [e]
  unfold f_X12_hourGoes_L23
  simp only [letv_ap, letm_ap]
  have e := q_leavess (n := n) (A := offs (M 168) (M 168 2).toNat) hf a1 (by omega) (M 168 1).toNat 0 n (jrow M 168 (offs (M 168) (M 168 2).toNat)) (by rw [o1]; omega) (by omega) (jrow_same _ _)
  rw [show ((0 : Nat) : Int) = 0 from rfl, o1, jrow_jrow] at e
  rw [e]
  unfold f_X12_hourGoes_L46
  simp only [letv_ap, letm_ap]
  obtain ⟨r, r1, r2, r3⟩ := q_eats (n := n) hf a2 (M 168 2).toNat 0 n 0 (jrow M 168 (lvN (offs (M 168) (M 168 2).toNat) (M 168 1).toNat)) (by rw [l2]; omega) (by omega) (jrow_same _ _) S8_0 (fun j hj => by rw [bit0]; exact ⟨fun q => absurd q (by decide), fun q => absurd q.1 q.2⟩)
  rw [show ((0 : Nat) : Int) = 0 from rfl, l2, l5, jrow_jrow] at r1
  refine ⟨r, r1, r2, fun j hj => ?_⟩
  rw [r3 j hj, l2, l9]
  unfold hourA
  rw [upA_ne (by omega)]
end PEATEN

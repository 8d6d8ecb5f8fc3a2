section PLAYS
variable {n : Nat} {M : JMem}
/-! how many of the first k places come sooner than v -/
def rkN (V : Nat → Int) (v : Int) : Nat → Nat
  | 0 => 0
  | k + 1 => rkN V v k + if V k < v then 1 else 0
theorem rkN_le (V : Nat → Int) (v w : Int) (h : v ≤ w) : ∀ k : Nat, rkN V v k ≤ rkN V w k := by
  intro k
  induction k with
  | zero => exact Nat.le_refl _
  | succ k ih =>
    unfold rkN
    by_cases c : V k < v
    · rw [if_pos c, if_pos (by omega)]; omega
    · rw [if_neg c]; omega
theorem rkN_lt (V : Nat → Int) (v w : Int) (h : v ≤ w) : ∀ k f : Nat, f < k → v ≤ V f → V f < w → rkN V v k + 1 ≤ rkN V w k := by
  intro k
  induction k with
  | zero => intro f h1; omega
  | succ k ih =>
    intro f h1 h2 h3
    unfold rkN
    by_cases e : f = k
    · subst e
      rw [if_neg (by omega), if_pos h3]
      have := rkN_le V v w h f
      omega
    · have := ih f (by omega) h2 h3
      by_cases c : V k < v
      · rw [if_pos c, if_pos (by omega)]; omega
      · rw [if_neg c]; omega
theorem rkN_top (V : Nat → Int) (v : Int) : ∀ k f : Nat, f < k → v ≤ V f → rkN V v k + 1 ≤ k := by
  intro k
  induction k with
  | zero => intro f h1; omega
  | succ k ih =>
    intro f h1 h2
    have le : ∀ j : Nat, rkN V v j ≤ j := fun j => by
      induction j with
      | zero => exact Nat.le_refl _
      | succ j ihj =>
        unfold rkN
        by_cases c : V j < v
        · rw [if_pos c]; omega
        · rw [if_neg c]; omega
    unfold rkN
    by_cases e : f = k
    · subst e
      rw [if_neg (by omega)]
      have := le f
      omega
    · have := ih f (by omega) h2
      by_cases c : V k < v
      · rw [if_pos c]; omega
      · rw [if_neg c]; omega
/-- the reference's numbers at any time of its laying out -/
def SW (V W : Nat → Int) : Prop := ∀ p : Nat, p < 6 → V p ≤ W p ∧ (W p ≤ 64 ∨ W p = 1000000) ∧ 0 ≤ W p
theorem q_laysT {A V : Nat → Int} (hA : SA A) {x : Int} (hx : S8 x) {p0 : Nat} {h : Int} (hh : 0 ≤ h ∧ h ≤ 64) (hV : EA A (fun t => bit x t = true) p0 h V) {r39 : Int → Int → JMem → Option (Int × JMem)} {v4 : Int} {M0 : JMem} (h168 : M0 168 = A) (hW0 : SW V (M0 179)) :
    ∀ (d i k : Nat) (M : JMem), i + d = (A 1).toNat → d < k → (∀ c : Nat, c ≠ 179 → M c = M0 c) → SW V (M 179) → (∀ p : Nat, p < 6 → M 179 p ≤ M0 179 p) →
    (∀ t : Nat, t < i → bit x t = true → M0 179 (A (8 + 6 * t)).toNat ≤ A (10 + 6 * t) → A (10 + 6 * t) + A (11 + 6 * t) ≤ 64 → M 179 (A (9 + 6 * t)).toNat ≤ A (10 + 6 * t) + A (11 + 6 * t)) →
    ∃ M', f_X12_laysSoon_L49 n r39 k x v4 (i : Int) M = f_X12_laysSoon_L154 n r39 x v4 M' ∧ (∀ c : Nat, c ≠ 179 → M' c = M0 c) ∧ SW V (M' 179) ∧ (∀ p : Nat, p < 6 → M' 179 p ≤ M0 179 p) ∧
      ∀ t : Nat, t < 8 → (t : Int) < A 1 → bit x t = true → M0 179 (A (8 + 6 * t)).toNat ≤ A (10 + 6 * t) → A (10 + 6 * t) + A (11 + 6 * t) ≤ 64 → M' 179 (A (9 + 6 * t)).toNat ≤ A (10 + 6 * t) + A (11 + 6 * t) := by
  have n1 := hA.2.1
  have n0 := hA.1
  intro d
  induction d with
  | zero =>
    intro i k M hi hk hF hW hL hT
    obtain ⟨k, rfl⟩ : ∃ q, k = q + 1 := ⟨k - 1, by omega⟩
    have e1 : M 168 = A := by rw [hF 168 (by omega)]; exact h168
    refine ⟨M, ?_, hF, hW, hL, fun t t8 tl => hT t (by omega)⟩
    rw [f_X12_laysSoon_L49, chk_pos (by decide), show (jw 1).toNat = 1 by decide, e1, if_pos (by rw [jw_of (x := A 1) (by omega) (by omega), jw_of (x := (i : Int)) (by omega) (by omega)]; omega)]
  | succ d ih =>
    intro i k M hi hk hF hW hL hT
    obtain ⟨k, rfl⟩ : ∃ q, k = q + 1 := ⟨k - 1, by omega⟩
    have e1 : M 168 = A := by rw [hF 168 (by omega)]; exact h168
    have i8 : i < 8 := by omega
    have il : (i : Int) < A 1 := by omega
    obtain ⟨s1, s2, s3, s4, s5, s6⟩ := hA.2.2.2.2.2.1 i i8 il
    obtain ⟨f, f6, ef⟩ := natOf (x := A (8 + 6 * i)) (k := 6) (by omega) (by omega)
    obtain ⟨o, o6, eo⟩ := natOf (x := A (9 + 6 * i)) (k := 6) (by omega) (by omega)
    have wf := hW f f6
    have wo := hW o o6
    have skip : (bit x i = true → M0 179 f ≤ A (10 + 6 * i) → A (10 + 6 * i) + A (11 + 6 * i) ≤ 64 → M 179 o ≤ A (10 + 6 * i) + A (11 + 6 * i)) → ∃ M', f_X12_laysSoon_L148 n r39 (f_X12_laysSoon_L49 n r39 k) x v4 (i : Int) M = f_X12_laysSoon_L154 n r39 x v4 M' ∧ (∀ c : Nat, c ≠ 179 → M' c = M0 c) ∧ SW V (M' 179) ∧ (∀ p : Nat, p < 6 → M' 179 p ≤ M0 179 p) ∧
      ∀ t : Nat, t < 8 → (t : Int) < A 1 → bit x t = true → M0 179 (A (8 + 6 * t)).toNat ≤ A (10 + 6 * t) → A (10 + 6 * t) + A (11 + 6 * t) ≤ 64 → M' 179 (A (9 + 6 * t)).toNat ≤ A (10 + 6 * t) + A (11 + 6 * t) := fun hc => by
      unfold f_X12_laysSoon_L148
      simp only [letv_ap]
      refine ih (i + 1) k M (by omega) (by omega) hF hW hL (fun t ht => ?_)
      by_cases e : t = i
      · rw [e, ef, eo, Int.toNat_natCast, Int.toNat_natCast]
        exact hc
      · exact hT t (by omega)
    rw [f_X12_laysSoon_L49, chk_pos (by decide), show (jw 1).toNat = 1 by decide, show M 168 1 = A 1 by rw [e1], if_neg (by rw [jw_of (x := A 1) (by omega) (by omega), jw_of (x := (i : Int)) (by omega) (by omega)]; omega), q_to2 i8, bnd_some, q_to3 i8, bnd_some]
    simp only [letv_ap]
    rw [q_isInM hx i8, bnd_some, e1]
    by_cases c1 : bit x i = true
    · rw [if_pos c1, if_neg (by decide), q_to0 i8, bnd_some, e1, ef, chk_pos (jin_of (by omega) (by omega) (by omega)), q_to2 i8, bnd_some, e1, show (jw (f : Int)).toNat = f from jwb (by omega), jw_of (x := A (10 + 6 * i)) (by omega) (by omega), jw_of (x := M 179 f) (by omega) (by omega)]
      by_cases c2 : A (10 + 6 * i) < M 179 f
      · rw [if_pos c2]
        have := hL f f6
        exact skip (fun _ q => by omega)
      · rw [if_neg c2, jw_of (x := A (10 + 6 * i) + A (11 + 6 * i)) (by omega) (by omega), show jw 64 = 64 by decide]
        by_cases c3 : A (10 + 6 * i) + A (11 + 6 * i) ≤ 64
        · rw [if_pos c3, q_to1 i8, bnd_some, q_to1 i8, bnd_some, e1, eo, chk_pos (jin_of (by omega) (by omega) (by omega)), chk_pos (jin_of (by omega) (by omega) (by omega)), show (jw (o : Int)).toNat = o from jwb (by omega)]
          simp only [letm_ap]
          have em : jmin (M 179 o) (A (10 + 6 * i) + A (11 + 6 * i)) = if A (10 + 6 * i) + A (11 + 6 * i) < M 179 o then A (10 + 6 * i) + A (11 + 6 * i) else M 179 o := by
            unfold jmin
            rw [jw_of (x := A (10 + 6 * i) + A (11 + 6 * i)) (by omega) (by omega), jw_of (x := M 179 o) (by omega) (by omega)]
          have vo := hV.2.2.1 i i8 il c1 (by rw [ef, Int.toNat_natCast]; omega) c3
          rw [eo, Int.toNat_natCast] at vo
          unfold f_X12_laysSoon_L148
          simp only [letv_ap]
          have dec : ∀ p : Nat, p < 6 → jup M 179 o (jmin (M 179 o) (A (10 + 6 * i) + A (11 + 6 * i))) 179 p ≤ M 179 p := fun p p6 => by
            rw [jup_if]
            by_cases e : p = o
            · rw [if_pos e, e, em]
              by_cases q : A (10 + 6 * i) + A (11 + 6 * i) < M 179 o
              · rw [if_pos q]; omega
              · rw [if_neg q]; exact Int.le_refl _
            · rw [if_neg e]; exact Int.le_refl _
          refine ih (i + 1) k _ (by omega) (by omega) (fun c hc => by rw [jup_cell hc, hF c hc]) (fun p p6 => ?_) (fun p p6 => Int.le_trans (dec p p6) (hL p p6)) (fun t ht tg t1 t2 => ?_)
          · rw [jup_if]
            by_cases e : p = o
            · rw [if_pos e, em, e]
              by_cases q : A (10 + 6 * i) + A (11 + 6 * i) < M 179 o
              · rw [if_pos q]; omega
              · rw [if_neg q]; exact wo
            · rw [if_neg e]; exact hW p p6
          · by_cases e : t = i
            · rw [e, eo, Int.toNat_natCast, jup_if, if_pos rfl, em]
              by_cases q : A (10 + 6 * i) + A (11 + 6 * i) < M 179 o
              · rw [if_pos q]; exact Int.le_refl _
              · rw [if_neg q]; omega
            · have u := hT t (by omega) tg t1 t2
              obtain ⟨z1, z2, z3, z4, z5, z6⟩ := hA.2.2.2.2.2.1 t (by omega) (by omega)
              exact Int.le_trans (dec _ (by omega)) u
        · rw [if_neg c3]
          exact skip (fun _ _ q => absurd q c3)
    · rw [if_neg c1, if_pos (by decide)]
      exact skip (fun q => absurd q c1)
theorem q_laysN {A V : Nat → Int} (hA : SA A) {x : Int} (hx : S8 x) {p0 : Nat} {h : Int} (hh : 0 ≤ h ∧ h ≤ 64) (hV : EA A (fun t => bit x t = true) p0 h V) (hf : 100 ≤ n) {M0 : JMem} (h168 : M0 168 = A) :
    ∀ (d i k : Nat) (M : JMem), i + d = 6 → d < k → (∀ c : Nat, c ≠ 179 → M c = M0 c) → SW V (M 179) → (∀ p : Nat, p < 6 → V p ≤ 64 → rkN V (V p) 6 ≤ i → M 179 p ≤ V p) →
    ∃ M', f_X12_laysSoon_L39 n k x (i : Int) M = some (0, M') ∧ (∀ c : Nat, c ≠ 179 → M' c = M0 c) ∧ ∀ p : Nat, p < 6 → M' 179 p = if V p ≤ 64 then V p else 1000000 := by
  have n1 := hA.2.1
  have n0 := hA.1
  intro d
  induction d with
  | zero =>
    intro i k M hi hk hF hW hR
    obtain ⟨k, rfl⟩ : ∃ q, k = q + 1 := ⟨k - 1, by omega⟩
    refine ⟨M, ?_, hF, fun p p6 => ?_⟩
    · rw [f_X12_laysSoon_L39, if_pos (by rw [show jw 6 = 6 by decide, jw_of (x := (i : Int)) (by omega) (by omega)]; omega)]
    · have w := hW p p6
      by_cases c : V p ≤ 64
      · have r := rkN_top V (V p) 6 p p6 (Int.le_refl _)
        have := hR p p6 c (by omega)
        rw [if_pos c]; omega
      · rw [if_neg c]; omega
  | succ d ih =>
    intro i k M hi hk hF hW hR
    obtain ⟨k, rfl⟩ : ∃ q, k = q + 1 := ⟨k - 1, by omega⟩
    obtain ⟨M1, a1, a2, a3, a4, a5⟩ := q_laysT (n := n) hA hx hh hV (r39 := f_X12_laysSoon_L39 n k) (v4 := (i : Int)) (M0 := M) (by rw [hF 168 (by omega)]; exact h168) hW (A 1).toNat 0 n M (by omega) (by omega) (fun _ _ => rfl) hW (fun _ _ => Int.le_refl _) (fun t ht => by omega)
    obtain ⟨M2, b1, b2, b3⟩ := ih (i + 1) k M1 (by omega) (by omega) (fun c hc => by rw [a2 c hc, hF c hc]) a3 (fun p p6 pv pr => by
      by_cases c : rkN V (V p) 6 ≤ i
      · exact Int.le_trans (a4 p p6) (hR p p6 pv c)
      · by_cases e : p = p0
        · exfalso
          apply c
          have z : ∀ k : Nat, k ≤ 6 → rkN V (V p) k = 0 := fun k => by
            induction k with
            | zero => intro _; rfl
            | succ k ihk =>
              intro hk
              have := hV.2.1 k (by omega)
              have e0 : V p = h := by rw [e]; exact hV.1
              unfold rkN
              rw [ihk (by omega), if_neg (by omega)]
          rw [z 6 (by omega)]; omega
        · obtain ⟨t, t8, tl, tg, t1, t2, t3, t4⟩ := hV.2.2.2 p p6 e pv
          obtain ⟨s1, s2, s3, s4, s5, s6⟩ := hA.2.2.2.2.2.1 t t8 tl
          have r := rkN_lt V (V (A (8 + 6 * t)).toNat) (V p) (by omega) 6 (A (8 + 6 * t)).toNat (by omega) (Int.le_refl _) (by omega)
          have u := hR (A (8 + 6 * t)).toNat (by omega) (by omega) (by omega)
          have := a5 t t8 tl tg (by omega) t2
          rw [t3] at this
          omega)
    refine ⟨M2, ?_, b2, b3⟩
    rw [f_X12_laysSoon_L39, if_neg (by rw [show jw 6 = 6 by decide, jw_of (x := (i : Int)) (by omega) (by omega)]; omega)]
    simp only [letv_ap]
    rw [show f_X12_laysSoon_L49 n (f_X12_laysSoon_L39 n k) n x (i : Int) 0 M = _ from a1]
    unfold f_X12_laysSoon_L154
    simp only [letv_ap]
    exact b1
theorem q_laysZ {p0 : Nat} (hp0 : p0 < 6) {h x : Int} : ∀ (d i k : Nat) (M : JMem), i + d = 6 → d < k → ∃ M', f_X12_laysSoon_L3 n k (p0 : Int) h x (i : Int) M = f_X12_laysSoon_L36 n x M' ∧ (∀ c : Nat, c ≠ 179 → M' c = M c) ∧ ∀ p : Nat, M' 179 p = if i ≤ p ∧ p < 6 then (if p = p0 then h else 1000000) else M 179 p := by
  intro d
  induction d with
  | zero =>
    intro i k M hi hk
    obtain ⟨k, rfl⟩ : ∃ q, k = q + 1 := ⟨k - 1, by omega⟩
    refine ⟨M, ?_, fun _ _ => rfl, fun p => by rw [if_neg (by omega)]⟩
    rw [f_X12_laysSoon_L3, if_pos (by rw [show jw 6 = 6 by decide, jw_of (x := (i : Int)) (by omega) (by omega)]; omega)]
  | succ d ih =>
    intro i k M hi hk
    obtain ⟨k, rfl⟩ : ∃ q, k = q + 1 := ⟨k - 1, by omega⟩
    have step : ∀ v : Int, (v = if i = p0 then h else 1000000) → ∃ M', f_X12_laysSoon_L29 n (f_X12_laysSoon_L3 n k) (p0 : Int) h x (i : Int) (i : Int) v M = f_X12_laysSoon_L36 n x M' ∧ (∀ c : Nat, c ≠ 179 → M' c = M c) ∧ ∀ p : Nat, M' 179 p = if i ≤ p ∧ p < 6 then (if p = p0 then h else 1000000) else M 179 p := fun v hv => by
      obtain ⟨M', r1, r2, r3⟩ := ih (i + 1) k (jup M 179 i v) (by omega) (by omega)
      refine ⟨M', ?_, fun c hc => by rw [r2 c hc, jup_cell hc], fun p => ?_⟩
      · unfold f_X12_laysSoon_L29
        simp only [letv_ap, letm_ap]
        rw [chk_pos (jin_of (by omega) (by omega) (by omega)), show (jw (i : Int)).toNat = i from jwb (by omega)]
        exact r1
      · rw [r3 p, jup_if]
        by_cases e : p = i
        · rw [if_neg (by omega), if_pos e, if_pos (by omega), e]; exact hv
        · by_cases c : i + 1 ≤ p ∧ p < 6
          · rw [if_pos c]; exact (if_pos (by omega)).symm
          · rw [if_neg c, if_neg e]; exact (if_neg (by omega)).symm
    rw [f_X12_laysSoon_L3, if_neg (by rw [show jw 6 = 6 by decide, jw_of (x := (i : Int)) (by omega) (by omega)]; omega)]
    by_cases c : jw (i : Int) = jw (p0 : Int)
    · rw [if_pos c]
      refine step h ?_
      have : i = p0 := by
        rw [jw_of (x := (i : Int)) (by omega) (by omega)] at c
        rw [jw_of (x := (p0 : Int)) (by omega) (by omega)] at c
        omega
      rw [if_pos this]
    · rw [if_neg c]
      refine step 1000000 ?_
      rw [if_neg (fun e => c (by rw [e]))]
theorem q_laysSoon {A V : Nat → Int} (hA : SA A) {x : Int} (hx : S8 x) {p0 : Nat} (hp0 : p0 < 6) {h : Int} (hh : 0 ≤ h ∧ h ≤ 64) (hV : EA A (fun t => bit x t = true) p0 h V) (hf : 100 ≤ n) (h168 : M 168 = A) :
    ∃ M', f_X12_laysSoon n (p0 : Int) h x M = some (0, M') ∧ (∀ c : Nat, c ≠ 179 → M' c = M c) ∧ ∀ p : Nat, p < 6 → M' 179 p = if V p ≤ 64 then V p else 1000000 := by
  obtain ⟨M1, a1, a2, a3⟩ := q_laysZ (n := n) (p0 := p0) hp0 (h := h) (x := x) 6 0 n M (by omega) (by omega)
  have hv : ∀ p : Nat, p < 6 → M1 179 p = if p = p0 then h else 1000000 := fun p p6 => by rw [a3 p, if_pos (by omega)]
  obtain ⟨M2, b1, b2, b3⟩ := q_laysN (n := n) hA hx hh hV hf (M0 := M1) (by rw [a2 168 (by omega)]; exact h168) 6 0 n M1 (by omega) (by omega) (fun _ _ => rfl) (fun p p6 => by
    have := hV.2.1 p p6
    rw [hv p p6]
    by_cases e : p = p0
    · rw [if_pos e, e, hV.1]; omega
    · rw [if_neg e]; omega) (fun p p6 pv pr => by
    rw [hv p p6]
    by_cases e : p = p0
    · rw [if_pos e, e, hV.1]; exact Int.le_refl _
    · exfalso
      obtain ⟨t, t8, tl, tg, t1, t2, t3, t4⟩ := hV.2.2.2 p p6 e pv
      obtain ⟨s1, s2, s3, s4, s5, s6⟩ := hA.2.2.2.2.2.1 t t8 tl
      have n0 := hA.1
      have r := rkN_lt V (V (A (8 + 6 * t)).toNat) (V p) (by omega) 6 (A (8 + 6 * t)).toNat (by omega) (Int.le_refl _) (by omega)
      omega)
  refine ⟨M2, ?_, fun c hc => by rw [b2 c hc, a2 c hc], b3⟩
  unfold f_X12_laysSoon
  simp only [letv_ap]
  rw [show f_X12_laysSoon_L3 n n (p0 : Int) h x 0 M = _ from a1]
  unfold f_X12_laysSoon_L36
  simp only [letv_ap]
  exact b1
/-- the trains that go -/
theorem q_going {N : JV} (hf : 100 ≤ n) (hR : RN N (M 168)) (h1 : 0 ≤ M 168 1 ∧ M 168 1 ≤ 8) : ∃ g, f_X12_going n M = some (g, M) ∧ S8 g ∧ ∀ t : Nat, t < 8 → (bit g t = true ↔ (t : Int) < M 168 1 ∧ ¬ bit (N 0 4) t = true) := by
  have l := jlow h1
  have hd := hR.heads.2.2.2.2.1
  have r := jandn l.1 hd.1
  refine ⟨_, ?_, r.1, fun t t8 => by rw [r.2 t t8, l.2 t t8]⟩
  unfold f_X12_going
  rw [chk_pos (by decide), show (jw 1).toNat = 1 by decide, q_halted hf hR h1, bnd_some]
end PLAYS

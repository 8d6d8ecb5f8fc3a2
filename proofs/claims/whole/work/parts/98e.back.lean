section PBACK
variable {n : Nat} {M : JMem}
theorem sumT_split (f : Nat → Int) (a : Nat) : ∀ b : Nat, sumT f (a + b) = sumT f a + sumT (fun j => f (a + j)) b := by
  intro b
  induction b with
  | zero => show sumT f a = sumT f a + 0; omega
  | succ b ih =>
    show sumT f (a + b) + f (a + b) = sumT f a + (sumT (fun j => f (a + j)) b + f (a + b))
    rw [ih]; omega
theorem sumT_mul (f : Nat → Int) (c : Int) : ∀ k : Nat, sumT (fun j => f j * c) k = sumT f k * c := by
  intro k
  induction k with
  | zero => show (0 : Int) = 0 * c; rw [Int.zero_mul]
  | succ k ih =>
    show sumT (fun j => f j * c) k + f k * c = (sumT f k + f k) * c
    rw [ih, Int.add_mul]
theorem sumT_in (x : Int) (c k : Nat) : ∀ m : Nat, sumT (fun j => if c = k + j then x else 0) m = if k ≤ c ∧ c < k + m then x else 0 := by
  intro m
  induction m with
  | zero => rw [if_neg (by omega)]; rfl
  | succ m ih =>
    show sumT (fun j => if c = k + j then x else 0) m + (if c = k + m then x else 0) = _
    rw [ih]
    by_cases e : c = k + m
    · rw [if_pos e, if_neg (by omega), if_pos (by omega)]; omega
    · rw [if_neg e]
      by_cases d : k ≤ c ∧ c < k + m
      · rw [if_pos d, if_pos (by omega)]; omega
      · rw [if_neg d, if_neg (by omega)]; rfl
/-- the chances of one set to be home, among the first i -/
def uF (tr : Nat → Int) (S : Int) (i : Nat) (h : Bool) : Int := if bit S i = true then (if h = true then tr i else 16 - tr i) else if h = true then 0 else 1
theorem uF_1 {tr : Nat → Int} {S : Int} {i : Nat} (c : bit S i = true) : uF tr S i false = 16 - tr i ∧ uF tr S i true = tr i := by
  unfold uF
  rw [if_pos c, if_pos c]
  exact ⟨rfl, rfl⟩
theorem uF_0 {tr : Nat → Int} {S : Int} {i : Nat} (c : ¬ bit S i = true) : uF tr S i false = 1 ∧ uF tr S i true = 0 := by
  unfold uF
  rw [if_neg c, if_neg c]
  exact ⟨rfl, rfl⟩
def uN (tr : Nat → Int) (S h : Int) : Nat → Int
  | 0 => 1
  | i + 1 => uN tr S h i * uF tr S i (bit h i)
theorem uN_congr {tr : Nat → Int} {S h h' : Int} : ∀ i : Nat, (∀ t : Nat, t < i → bit h t = bit h' t) → uN tr S h i = uN tr S h' i := by
  intro i
  induction i with
  | zero => intro _; rfl
  | succ i ih =>
    intro e
    show uN tr S h i * uF tr S i (bit h i) = uN tr S h' i * uF tr S i (bit h' i)
    rw [ih (fun t ht => e t (by omega)), e i (by omega)]
theorem cntN_congr {h h' : Int} : ∀ i : Nat, (∀ t : Nat, t < i → bit h t = bit h' t) → cntN h i = cntN h' i := by
  intro i
  induction i with
  | zero => intro _; rfl
  | succ i ih =>
    intro e
    show cntN h i + (if bit h i = true then 1 else 0) = cntN h' i + (if bit h' i = true then 1 else 0)
    rw [ih (fun t ht => e t (by omega)), e i (by omega)]
theorem uN_zero {tr : Nat → Int} {S h : Int} {t : Nat} (h1 : bit h t = true) (h2 : ¬ bit S t = true) : ∀ i : Nat, t < i → uN tr S h i = 0 := by
  intro i
  induction i with
  | zero => intro q; omega
  | succ i ih =>
    intro q
    show uN tr S h i * uF tr S i (bit h i) = 0
    by_cases e : t = i
    · rw [← e, h1]
      unfold uF
      rw [if_neg h2, if_pos rfl, Int.mul_zero]
    · rw [ih (by omega), Int.zero_mul]
theorem uN_le {tr : Nat → Int} {S h : Int} : ∀ i : Nat, (∀ t : Nat, t < i → 0 ≤ tr t ∧ tr t ≤ 16) → 0 ≤ uN tr S h i ∧ uN tr S h i ≤ ((16 ^ i : Nat) : Int) := by
  intro i
  induction i with
  | zero =>
    intro _
    show (0 : Int) ≤ 1 ∧ (1 : Int) ≤ ((16 ^ 0 : Nat) : Int)
    decide
  | succ i ih =>
    intro e
    have a := ih (fun t ht => e t (by omega))
    have c := e i (by omega)
    have b : 0 ≤ uF tr S i (bit h i) ∧ uF tr S i (bit h i) ≤ 16 := by
      unfold uF
      by_cases c1 : bit S i = true
      · rw [if_pos c1]
        by_cases c2 : bit h i = true
        · rw [if_pos c2]; exact c
        · rw [if_neg c2]; omega
      · rw [if_neg c1]
        by_cases c2 : bit h i = true
        · rw [if_pos c2]; omega
        · rw [if_neg c2]; omega
    rw [Nat.pow_succ, Int.natCast_mul]
    exact ⟨Int.mul_nonneg a.1 b.1, Int.mul_le_mul a.2 b.2 b.1 (by omega)⟩
def dS (tr : Nat → Int) (S : Int) (i nn : Nat) : Int := sumT (fun h => if cntN (h : Int) i = nn then uN tr S (h : Int) i else 0) (2 ^ i)
theorem dS_0 (tr : Nat → Int) (S : Int) (nn : Nat) : dS tr S 0 nn = if nn = 0 then 1 else 0 := by
  show (0 : Int) + (if 0 = nn then 1 else 0) = _
  by_cases e : nn = 0
  · rw [if_pos e, if_pos e.symm]; rfl
  · rw [if_neg e, if_neg (fun q => e q.symm)]; rfl
theorem dS_succ (tr : Nat → Int) (S : Int) (i nn : Nat) : dS tr S (i + 1) nn = dS tr S i nn * uF tr S i false + if nn = 0 then 0 else dS tr S i (nn - 1) * uF tr S i true := by
  unfold dS
  rw [show (2 : Nat) ^ (i + 1) = 2 ^ i + 2 ^ i by rw [Nat.pow_succ]; omega, sumT_split, ← sumT_mul]
  have a : sumT (fun h => if cntN (h : Int) (i + 1) = nn then uN tr S (h : Int) (i + 1) else 0) (2 ^ i) = sumT (fun j => (if cntN (j : Int) i = nn then uN tr S (j : Int) i else 0) * uF tr S i false) (2 ^ i) := sumT_congr _ (fun h hh => by
    have b : bit (h : Int) i = false := by rw [bit_nat]; exact Nat.testBit_lt_two_pow hh
    rw [show cntN (h : Int) (i + 1) = cntN (h : Int) i from by rw [cntN, b]; rfl, show uN tr S (h : Int) (i + 1) = uN tr S (h : Int) i * uF tr S i (bit (h : Int) i) from rfl, b]
    by_cases c : cntN (h : Int) i = nn
    · rw [if_pos c, if_pos c]
    · rw [if_neg c, if_neg c, Int.zero_mul])
  have hb : ∀ h : Nat, h < 2 ^ i → bit ((2 ^ i + h : Nat) : Int) i = true ∧ ∀ t : Nat, t < i → bit ((2 ^ i + h : Nat) : Int) t = bit (h : Int) t := fun h hh => by
    refine ⟨?_, fun t ht => ?_⟩
    · rw [bit_nat, Nat.testBit_two_pow_add_eq, Nat.testBit_lt_two_pow hh]; rfl
    · rw [bit_nat, bit_nat, Nat.testBit_two_pow_add_gt ht]
  have e2 : sumT (fun j => if cntN ((2 ^ i + j : Nat) : Int) (i + 1) = nn then uN tr S ((2 ^ i + j : Nat) : Int) (i + 1) else 0) (2 ^ i) = if nn = 0 then 0 else sumT (fun h => if cntN (h : Int) i = nn - 1 then uN tr S (h : Int) i else 0) (2 ^ i) * uF tr S i true := by
    have c1 : ∀ h : Nat, h < 2 ^ i → cntN ((2 ^ i + h : Nat) : Int) (i + 1) = cntN (h : Int) i + 1 := fun h hh => by
      rw [cntN, (hb h hh).1, cntN_congr i (hb h hh).2, if_pos rfl]
    have c2 : ∀ h : Nat, h < 2 ^ i → uN tr S ((2 ^ i + h : Nat) : Int) (i + 1) = uN tr S (h : Int) i * uF tr S i true := fun h hh => by
      rw [uN, (hb h hh).1, uN_congr i (hb h hh).2]
    by_cases c : nn = 0
    · rw [if_pos c]
      rw [show sumT (fun j => if cntN ((2 ^ i + j : Nat) : Int) (i + 1) = nn then uN tr S ((2 ^ i + j : Nat) : Int) (i + 1) else 0) (2 ^ i) = sumT (fun _ => 0) (2 ^ i) from sumT_congr _ (fun h hh => by rw [c1 h hh, if_neg (by omega)])]
      exact sumT_zero _
    · rw [if_neg c, ← sumT_mul]
      refine sumT_congr _ (fun h hh => ?_)
      rw [c1 h hh, c2 h hh]
      by_cases d : cntN (h : Int) i = nn - 1
      · rw [if_pos d, if_pos (by omega)]
      · rw [if_neg d, if_neg (by omega), Int.zero_mul]
  rw [a, e2]
/-! the reference -/
theorem q_backI {v1 v2 v3 : Int} : ∀ (d i q : Nat) (M : JMem), i + d = 9 → d < q → ∃ M', f_X12_back_L31 n q v1 v2 v3 (i : Int) M = f_X12_back_L61 n v1 v2 v3 M' ∧ (∀ c : Nat, c ≠ 180 → M' c = M c) ∧ ∀ p : Nat, M' 180 p = if i ≤ p ∧ p < 9 then (if p = 0 then 1 else 0) else M 180 p := by
  intro d
  induction d with
  | zero =>
    intro i q M hi hq
    obtain ⟨q, rfl⟩ : ∃ z, q = z + 1 := ⟨q - 1, by omega⟩
    refine ⟨M, ?_, fun _ _ => rfl, fun p => by rw [if_neg (by omega)]⟩
    rw [f_X12_back_L31, if_pos (by rw [show jw 9 = 9 by decide, jw_of (x := (i : Int)) (by omega) (by omega)]; omega)]
  | succ d ih =>
    intro i q M hi hq
    obtain ⟨q, rfl⟩ : ∃ z, q = z + 1 := ⟨q - 1, by omega⟩
    have step : ∀ v : Int, (v = if i = 0 then 1 else 0) → ∃ M', f_X12_back_L54 n (f_X12_back_L31 n q) v1 v2 v3 (i : Int) (i : Int) v M = f_X12_back_L61 n v1 v2 v3 M' ∧ (∀ c : Nat, c ≠ 180 → M' c = M c) ∧ ∀ p : Nat, M' 180 p = if i ≤ p ∧ p < 9 then (if p = 0 then 1 else 0) else M 180 p := fun v hv => by
      obtain ⟨M', r1, r2, r3⟩ := ih (i + 1) q (jup M 180 i v) (by omega) (by omega)
      refine ⟨M', ?_, fun c hc => by rw [r2 c hc, jup_cell hc], fun p => ?_⟩
      · unfold f_X12_back_L54
        simp only [letv_ap, letm_ap]
        rw [chk_pos (jin_of (by omega) (by omega) (by omega)), show (jw (i : Int)).toNat = i from jwb (by omega)]
        exact r1
      · rw [r3 p, jup_if]
        by_cases e : p = i
        · rw [if_neg (by omega), if_pos e, if_pos (by omega), e]; exact hv
        · by_cases c : i + 1 ≤ p ∧ p < 9
          · rw [if_pos c]; exact (if_pos (by omega)).symm
          · rw [if_neg c, if_neg e]; exact (if_neg (by omega)).symm
    rw [f_X12_back_L31, if_neg (by rw [show jw 9 = 9 by decide, jw_of (x := (i : Int)) (by omega) (by omega)]; omega), jw_of (x := (i : Int)) (by omega) (by omega)]
    by_cases c : (i : Int) = 0
    · rw [if_pos c]
      exact step 1 (by rw [if_pos (by omega)])
    · rw [if_neg c]
      exact step 0 (by rw [if_neg (by omega)])
theorem q_backN {r64 : Int → Int → Int → Int → JMem → Option (Int × JMem)} {v1 v2 v3 v5 w : Int} (hw : 0 ≤ w ∧ w ≤ 16) {M0 : JMem} : ∀ (d q : Nat) (v : Int) (M : JMem), v = (d : Int) - 1 → d ≤ 9 → d < q → (∀ c : Nat, c ≠ 180 → M c = M0 c) → (∀ p : Nat, p < d → M 180 p = M0 180 p) → (∀ p : Nat, d ≤ p → p < 9 → M 180 p = M0 180 p * (16 - w) + if p = 0 then 0 else M0 180 (p - 1) * w) →
    ∃ M', f_X12_back_L101 n r64 q v1 v2 v3 v5 w v M = f_X12_back_L156 n r64 v1 v2 v3 v5 M' ∧ (∀ c : Nat, c ≠ 180 → M' c = M0 c) ∧ ∀ p : Nat, p < 9 → M' 180 p = M0 180 p * (16 - w) + if p = 0 then 0 else M0 180 (p - 1) * w := by
  intro d
  induction d with
  | zero =>
    intro q v M hv hd hq hF h1 h2
    obtain ⟨q, rfl⟩ : ∃ z, q = z + 1 := ⟨q - 1, by omega⟩
    refine ⟨M, ?_, hF, fun p p9 => h2 p (by omega) p9⟩
    rw [f_X12_back_L101, if_pos (by rw [jw_of (x := v) (by omega) (by omega)]; omega)]
  | succ d ih =>
    intro q v M hv hd hq hF h1 h2
    obtain ⟨q, rfl⟩ : ∃ z, q = z + 1 := ⟨q - 1, by omega⟩
    obtain rfl : v = (d : Int) := by omega
    have step : ∀ y : Int, M 180 d * (16 - w) + y = M0 180 d * (16 - w) + (if d = 0 then 0 else M0 180 (d - 1) * w) → ∃ M', f_X12_back_L148 n r64 (f_X12_back_L101 n r64 q) v1 v2 v3 v5 w (d : Int) (d : Int) (M 180 d * (16 - w)) y M = f_X12_back_L156 n r64 v1 v2 v3 v5 M' ∧ (∀ c : Nat, c ≠ 180 → M' c = M0 c) ∧ ∀ p : Nat, p < 9 → M' 180 p = M0 180 p * (16 - w) + if p = 0 then 0 else M0 180 (p - 1) * w := fun y hy => by
      unfold f_X12_back_L148
      simp only [letv_ap, letm_ap]
      rw [chk_pos (jin_of (by omega) (by omega) (by omega)), show (jw (d : Int)).toNat = d from jwb (by omega)]
      refine ih q ((d : Int) + -1) _ (by omega) (by omega) (by omega) (fun c hc => by rw [jup_cell hc, hF c hc]) (fun p hp => by rw [jup_if, if_neg (by omega)]; exact h1 p (by omega)) (fun p hp p9 => ?_)
      rw [jup_if]
      by_cases e : p = d
      · rw [if_pos e, e]; exact hy
      · rw [if_neg e]; exact h2 p (by omega) p9
    rw [f_X12_back_L101, if_neg (by rw [jw_of (x := (d : Int)) (by omega) (by omega)]; omega), chk_pos (jin_of (by omega) (by omega) (by omega)), show (jw (d : Int)).toNat = d from jwb (by omega), jw_of (x := (d : Int)) (by omega) (by omega), jw_of (x := 16 - w) (by omega) (by omega), jw_of (x := w) (by omega) (by omega)]
    by_cases c : (d : Int) = 0
    · rw [if_pos c]
      exact step 0 (by rw [if_pos (by omega), h1 d (by omega)])
    · obtain ⟨e, rfl⟩ : ∃ e, d = e + 1 := ⟨d - 1, by omega⟩
      rw [if_neg c, chk_pos (jin_of (by omega) (by omega) (by omega)), show ((e + 1 : Nat) : Int) - 1 = (e : Int) by omega, show (jw (e : Int)).toNat = e from jwb (by omega)]
      exact step _ (by rw [if_neg (by omega), h1 (e + 1) (by omega), h1 e (by omega), show e + 1 - 1 = e by omega])
theorem q_backB {S k : Int} (hS : S8 S) {A : Nat → Int} (hn : 0 ≤ A 2 ∧ A 2 ≤ 8) (htr : ∀ b : Nat, b < 8 → (b : Int) < A 2 → 0 ≤ A (57 + 10 * b) ∧ A (57 + 10 * b) ≤ 16) (hf : 1000 ≤ n) {M0 : JMem} (h168 : M0 168 = A) :
    ∀ (d i q : Nat) (M : JMem), i + d = (A 2).toNat → d < q → (∀ c : Nat, c ≠ 180 → M c = M0 c) → (∀ p : Nat, p < 9 → M 180 p = dS (fun b => A (57 + 10 * b)) S i p) →
    ∃ M', f_X12_back_L64 n q S k (16 ^ (cntN S i)) (i : Int) M = f_X12_back_L168 n k (16 ^ (cntN S (A 2).toNat)) M' ∧ (∀ c : Nat, c ≠ 180 → M' c = M0 c) ∧ ∀ p : Nat, p < 9 → M' 180 p = dS (fun b => A (57 + 10 * b)) S (A 2).toNat p := by
  intro d
  induction d with
  | zero =>
    intro i q M hi hq hF hD
    obtain ⟨q, rfl⟩ : ∃ z, q = z + 1 := ⟨q - 1, by omega⟩
    have e1 : M 168 = A := by rw [hF 168 (by omega)]; exact h168
    refine ⟨M, ?_, hF, by rw [show (A 2).toNat = i by omega]; exact hD⟩
    rw [f_X12_back_L64, chk_pos (by decide), show (jw 2).toNat = 2 by decide, e1, if_pos (by rw [jw_of (x := A 2) (by omega) (by omega), jw_of (x := (i : Int)) (by omega) (by omega)]; omega), show (A 2).toNat = i by omega]
  | succ d ih =>
    intro i q M hi hq hF hD
    obtain ⟨q, rfl⟩ : ∃ z, q = z + 1 := ⟨q - 1, by omega⟩
    have e1 : M 168 = A := by rw [hF 168 (by omega)]; exact h168
    have i8 : i < 8 := by omega
    have t := htr i i8 (by omega)
    rw [f_X12_back_L64, chk_pos (by decide), show (jw 2).toNat = 2 by decide, show M 168 2 = A 2 by rw [e1], if_neg (by rw [jw_of (x := A 2) (by omega) (by omega), jw_of (x := (i : Int)) (by omega) (by omega)]; omega), q_isInM hS i8, bnd_some]
    by_cases c : bit S i = true
    · rw [if_pos c, if_neg (by decide), q_bo1 i8, bnd_some, e1]
      simp only [letv_ap]
      obtain ⟨M2, a1, a2, a3⟩ := q_backN (n := n) (r64 := f_X12_back_L64 n q) (v1 := S) (v2 := k) (v3 := 16 ^ (cntN S i)) (v5 := (i : Int)) (w := A (57 + 10 * i)) t (M0 := M) 9 n 8 M (by omega) (by omega) (by omega) (fun _ _ => rfl) (fun _ _ => rfl) (fun p h1 h2 => by omega)
      rw [a1]
      unfold f_X12_back_L156 f_X12_back_L162
      simp only [letv_ap]
      obtain ⟨M3, b1, b2, b3⟩ := ih (i + 1) q M2 (by omega) (by omega) (fun c hc => by rw [a2 c hc, hF c hc]) (fun p p9 => by
        rw [a3 p p9, dS_succ, hD p p9, (uF_1 c).1, (uF_1 c).2]
        by_cases e : p = 0
        · rw [if_pos e, if_pos e]
        · rw [if_neg e, if_neg e, hD (p - 1) (by omega)])
      refine ⟨M3, ?_, b2, b3⟩
      rw [← Int.pow_succ, show (cntN S i).succ = cntN S (i + 1) from by rw [cntN, if_pos c]]
      exact b1
    · rw [if_neg c, if_pos (by decide)]
      unfold f_X12_back_L162
      simp only [letv_ap]
      obtain ⟨M3, b1, b2, b3⟩ := ih (i + 1) q M (by omega) (by omega) hF (fun p p9 => by
        rw [dS_succ, hD p p9, (uF_0 c).1, (uF_0 c).2, Int.mul_one]
        by_cases e : p = 0
        · rw [if_pos e]; omega
        · rw [if_neg e, Int.mul_zero]; omega)
      refine ⟨M3, ?_, b2, b3⟩
      rw [show cntN S i = cntN S (i + 1) from by rw [cntN, if_neg c]; rfl]
      exact b1
theorem q_backS {all : Int} {D : Nat → Int} (hD : ∀ p : Nat, p < 9 → M 180 p = D p) {k : Nat} (k8 : k ≤ 9) : ∀ (d i q : Nat), k + i + d = 9 → d < q → f_X12_back_L174 n q all (sumT (fun j => D (k + j)) i) ((k + i : Nat) : Int) M = f_X12_back_L199 n all (sumT (fun j => D (k + j)) (9 - k)) M := by
  intro d
  induction d with
  | zero =>
    intro i q hi hq
    obtain ⟨q, rfl⟩ : ∃ z, q = z + 1 := ⟨q - 1, by omega⟩
    rw [f_X12_back_L174, if_pos (by rw [show jw 9 = 9 by decide, jw_of (x := ((k + i : Nat) : Int)) (by omega) (by omega)]; omega), show i = 9 - k by omega]
  | succ d ih =>
    intro i q hi hq
    obtain ⟨q, rfl⟩ : ∃ z, q = z + 1 := ⟨q - 1, by omega⟩
    rw [f_X12_back_L174, if_neg (by rw [show jw 9 = 9 by decide, jw_of (x := ((k + i : Nat) : Int)) (by omega) (by omega)]; omega), chk_pos (jin_of (by omega) (by omega) (by omega)), show (jw ((k + i : Nat) : Int)).toNat = k + i from jwb (by omega), hD (k + i) (by omega)]
    simp only [letv_ap]
    rw [show ((k + i : Nat) : Int) + 1 = ((k + (i + 1) : Nat) : Int) by omega]
    exact ih (i + 1) q (by omega) (by omega)
end PBACK

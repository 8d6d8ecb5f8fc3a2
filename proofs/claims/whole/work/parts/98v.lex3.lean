section PLEX3
variable {n : Nat} {M X : JMem}
/-! the reference's reader -/
def bt (T : Nat → Int) (N q : Nat) : Int := if q < N then (if 0 ≤ T q then T q else T q + 256) else -1
theorem jand255 : ∀ m : Nat, m < 256 → jand ((m : Int) - 128) 255 = if 128 ≤ m then (m : Int) - 128 else (m : Int) + 128 := by decide +kernel
theorem bt_in {T : Nat → Int} {N q : Nat} (hT : TT T N) : -1 ≤ bt T N q ∧ bt T N q < 256 := by
  unfold bt
  by_cases c : q < N
  · have := hT.2 q c
    rw [if_pos c]
    by_cases c2 : 0 ≤ T q
    · rw [if_pos c2]; omega
    · rw [if_neg c2]; omega
  · rw [if_neg c]; omega
theorem bt_lo {T : Nat → Int} {N q : Nat} (hT : TT T N) {x : Int} (hx : 0 ≤ x ∧ x < 128) : bt T N q = x ↔ q < N ∧ T q = x := by
  unfold bt
  by_cases c : q < N
  · have := hT.2 q c
    rw [if_pos c]
    by_cases c2 : 0 ≤ T q
    · rw [if_pos c2]; exact ⟨fun z => ⟨c, z⟩, fun z => z.2⟩
    · rw [if_neg c2]; exact ⟨fun z => by omega, fun z => by omega⟩
  · rw [if_neg c]; exact ⟨fun z => by omega, fun z => absurd z.1 c⟩
theorem bt_rg {T : Nat → Int} {N q : Nat} (hT : TT T N) {lo hi : Int} (h0 : 0 ≤ lo) (h1 : hi < 128) : (lo ≤ bt T N q ∧ bt T N q ≤ hi) ↔ q < N ∧ lo ≤ T q ∧ T q ≤ hi := by
  unfold bt
  by_cases c : q < N
  · have := hT.2 q c
    rw [if_pos c]
    by_cases c2 : 0 ≤ T q
    · rw [if_pos c2]; exact ⟨fun z => ⟨c, z⟩, fun z => z.2⟩
    · rw [if_neg c2]; exact ⟨fun z => by omega, fun z => by omega⟩
  · rw [if_neg c]; exact ⟨fun z => by omega, fun z => absurd z.1 c⟩
theorem bt_L {T : Nat → Int} {N q : Nat} (hT : TT T N) : isL (bt T N q) ↔ q < N ∧ isL (T q) := bt_rg hT (lo := 97) (hi := 122) (by omega) (by omega)
theorem bt_D {T : Nat → Int} {N q : Nat} (hT : TT T N) : isD (bt T N q) ↔ q < N ∧ isD (T q) := bt_rg hT (lo := 48) (hi := 57) (by omega) (by omega)
theorem q_byte {T : Nat → Int} {N q : Nat} (hT : TT T N) (hX : ∀ k : Nat, k < N → X 174 k = T k) {g : Nat → Int} (h11 : g 11 = (N : Int)) (hq : q ≤ 900) : f_X12_byteAt n (q : Int) (jrow X 167 g) = some (bt T N q, jrow X 167 g) := by
  have h900 := hT.1
  unfold f_X12_byteAt bt
  rw [r67, h11, r674]
  by_cases c : q < N
  · have hr := hT.2 q c
    rw [if_neg (by rw [jwN (by omega), jwN (by omega)]; omega), chk_pos (jinN (by omega) (by omega)), jwT (by omega), hX q c, if_pos c]
    obtain ⟨m, hm, em⟩ : ∃ m : Nat, m < 256 ∧ T q = (m : Int) - 128 := ⟨(T q + 128).toNat, by omega, by omega⟩
    rw [em, jand255 m hm]
    by_cases c2 : 128 ≤ m
    · rw [if_pos c2, if_pos (by omega)]
    · rw [if_neg c2, if_neg (by omega), show (m : Int) - 128 + 256 = (m : Int) + 128 by omega]
  · rw [if_pos (by rw [jwN (by omega), jwN (by omega)]; omega), if_neg c]
theorem q_isS {x : Int} (h : -1 ≤ x ∧ x < 256) : f_X12_isSmall n x M = some (if isL x then 1 else 0, M) := by
  unfold f_X12_isSmall
  rw [show jw 97 = 97 by decide, show jw 122 = 122 by decide, jw_of (x := x) (by omega) (by omega)]
  by_cases c : x < 97
  · rw [if_pos c, if_neg (fun q => by have := q.1; omega)]
  · by_cases c2 : 122 < x
    · rw [if_neg c, if_pos c2, if_neg (fun q => by have := q.2; omega)]
    · rw [if_neg c, if_neg c2, if_pos ⟨by omega, by omega⟩]
theorem q_isDg {x : Int} (h : -1 ≤ x ∧ x < 256) : f_X12_isDigit n x M = some (if isD x then 1 else 0, M) := by
  unfold f_X12_isDigit
  rw [show jw 48 = 48 by decide, show jw 57 = 57 by decide, jw_of (x := x) (by omega) (by omega)]
  by_cases c : x < 48
  · rw [if_pos c, if_neg (fun q => by have := q.1; omega)]
  · by_cases c2 : 57 < x
    · rw [if_neg c, if_pos c2, if_neg (fun q => by have := q.2; omega)]
    · rw [if_neg c, if_neg c2, if_pos ⟨by omega, by omega⟩]
theorem up14 (g : Nat → Int) (a b : Int) : upA (upA g 14 a) 14 b = upA g 14 b := by
  funext j
  rw [upA_at, upA_at, upA_at]
  by_cases e : j = 14
  · rw [if_pos e, if_pos e]
  · rw [if_neg e, if_neg e, if_neg e]
theorem q_blank {T : Nat → Int} {N s q0 : Nat} (hT : TT T N) (hX : ∀ k : Nat, k < N → X 174 k = T k) (hsN : s ≤ N) (hb : ∀ i : Nat, q0 ≤ i → i < s → T i = 10 ∨ T i = 32) (hs : s < N → ¬ (T s = 10 ∨ T s = 32)) : ∀ (d q k : Nat) (g : Nat → Int), q0 ≤ q → q + d = s → d < k → g 11 = (N : Int) → g 14 = (q : Int) → f_X12_ahead_L0 n k (jrow X 167 g) = f_X12_ahead_L39 n (jrow X 167 (upA g 14 s)) := by
  have h900 := hT.1
  have j32 : ∀ q : Nat, (jw (bt T N q) = jw 32) ↔ (q < N ∧ T q = 32) := fun q => by
    have := bt_in (q := q) hT
    rw [show jw 32 = 32 by decide, jw_of (x := bt T N q) (by omega) (by omega)]
    exact bt_lo hT (by omega)
  have j10 : ∀ q : Nat, (jw (bt T N q) = jw 10) ↔ (q < N ∧ T q = 10) := fun q => by
    have := bt_in (q := q) hT
    rw [show jw 10 = 10 by decide, jw_of (x := bt T N q) (by omega) (by omega)]
    exact bt_lo hT (by omega)
  intro d
  induction d with
  | zero =>
    intro q k g hq hi hk h11 h14
    obtain ⟨k, rfl⟩ : ∃ z, k = z + 1 := ⟨k - 1, by omega⟩
    obtain rfl : q = s := by omega
    rw [f_X12_ahead_L0, r67, h14, q_byte hT hX h11 (by omega), bnd_some, upA_id h14.symm, if_neg (fun z => by
      have := (j32 q).1 z
      exact hs this.1 (Or.inr this.2)), r67, h14, q_byte hT hX h11 (by omega), bnd_some, if_neg (fun z => by
      have := (j10 q).1 z
      exact hs this.1 (Or.inl this.2))]
  | succ d ih =>
    intro q k g hq hi hk h11 h14
    obtain ⟨k, rfl⟩ : ∃ z, k = z + 1 := ⟨k - 1, by omega⟩
    have next : f_X12_ahead_L26 n (f_X12_ahead_L0 n k) (jrow X 167 g) = f_X12_ahead_L39 n (jrow X 167 (upA g 14 s)) := by
      unfold f_X12_ahead_L26
      rw [letm_ap, r67, h14, u67, ih (q + 1) k _ (by omega) (by omega) (by omega) (by rw [upA_ne (by omega)]; exact h11) (by rw [upA_same]; omega), up14]
    rw [f_X12_ahead_L0, r67, h14, q_byte hT hX h11 (by omega), bnd_some]
    by_cases c : T q = 32
    · rw [if_pos ((j32 q).2 ⟨by omega, c⟩), next]
    · rw [if_neg (fun z => c ((j32 q).1 z).2), r67, h14, q_byte hT hX h11 (by omega), bnd_some, if_pos ((j10 q).2 ⟨by omega, (hb q hq (by omega)).resolve_right c⟩), next]
theorem q_word {T : Nat → Int} {N s e : Nat} (hT : TT T N) (hX : ∀ k : Nat, k < N → X 174 k = T k) (heN : e ≤ N) (hb : ∀ i : Nat, s ≤ i → i < e → isL (T i)) (he : e < N → ¬ isL (T e)) : ∀ (d q k : Nat) (g : Nat → Int), s ≤ q → q + d = e → d < k → g 11 = (N : Int) → g 14 = (q : Int) → f_X12_ahead_L81 n k (jrow X 167 g) = f_X12_ahead_L108 n (jrow X 167 (upA g 14 e)) := by
  have h900 := hT.1
  intro d
  induction d with
  | zero =>
    intro q k g hq hi hk h11 h14
    obtain ⟨k, rfl⟩ : ∃ z, k = z + 1 := ⟨k - 1, by omega⟩
    obtain rfl : q = e := by omega
    rw [f_X12_ahead_L81, r67, h14, q_byte hT hX h11 (by omega), bnd_some, q_isS (bt_in hT), bnd_some, if_neg (show ¬ isL (bt T N q) from fun z => by
      have := (bt_L hT).1 z
      exact he this.1 this.2), if_pos (by decide), upA_id h14.symm]
  | succ d ih =>
    intro q k g hq hi hk h11 h14
    obtain ⟨k, rfl⟩ : ∃ z, k = z + 1 := ⟨k - 1, by omega⟩
    rw [f_X12_ahead_L81, r67, h14, q_byte hT hX h11 (by omega), bnd_some, q_isS (bt_in hT), bnd_some, if_pos ((bt_L hT).2 ⟨by omega, hb q hq (by omega)⟩), if_neg (by decide), letm_ap, r67, h14, u67, ih (q + 1) k _ (by omega) (by omega) (by omega) (by rw [upA_ne (by omega)]; exact h11) (by rw [upA_same]; omega), up14]
theorem q_num {T : Nat → Int} {N s e : Nat} (hT : TT T N) (hX : ∀ k : Nat, k < N → X 174 k = T k) (heN : e ≤ N) (hb : ∀ i : Nat, s ≤ i → i < e → isD (T i)) (he : e < N → ¬ isD (T e)) : ∀ (d q k : Nat) (g : Nat → Int), s ≤ q → q + d = e → d < k → g 11 = (N : Int) → g 14 = (q : Int) → (q - s ≤ 4 → g 15 = nm T s (q - s)) →
    ∃ v' : Int, f_X12_ahead_L128 n k (jrow X 167 g) = f_X12_ahead_L183 n (jrow X 167 (upA (upA g 15 v') 14 e)) ∧ (e - s ≤ 4 → v' = nm T s (e - s)) := by
  have h900 := hT.1
  intro d
  induction d with
  | zero =>
    intro q k g hq hi hk h11 h14 hv
    obtain ⟨k, rfl⟩ : ∃ z, k = z + 1 := ⟨k - 1, by omega⟩
    obtain rfl : q = e := by omega
    refine ⟨g 15, ?_, hv⟩
    rw [f_X12_ahead_L128, r67, h14, q_byte hT hX h11 (by omega), bnd_some, q_isDg (bt_in hT), bnd_some, if_neg (show ¬ isD (bt T N q) from fun z => by
      have := (bt_D hT).1 z
      exact he this.1 this.2), if_pos (by decide), upA_id (A := g) rfl, upA_id h14.symm]
  | succ d ih =>
    intro q k g hq hi hk h11 h14 hv
    obtain ⟨k, rfl⟩ : ∃ z, k = z + 1 := ⟨k - 1, by omega⟩
    have hl := hb q hq (by omega)
    have eb : bt T N q = T q := by
      unfold bt
      rw [if_pos (by omega), if_pos (by have := hl.1; omega)]
    have e1 : q + 1 - s = (q - s) + 1 := by omega
    have e2 : s + (q - s) = q := by omega
    obtain ⟨v', r1, r2⟩ := ih (q + 1) k (upA (upA g 15 (jmin 100000 (10 * g 15 + T q - 48))) 14 ((q + 1 : Nat) : Int)) (by omega) (by omega) (by omega) (by rw [upA_ne (by omega), upA_ne (by omega)]; exact h11) (by rw [upA_same]) (fun z => by
      rw [upA_ne (by omega), upA_same, hv (by omega), e1, nm, e2]
      have hn := nm_lt (T := T) (s := s) (q - s) (fun i hi => hb _ (by omega) (by omega))
      have hp : (10 : Int) ^ (q - s) ≤ 10 ^ 3 := by
        have : (10 : Nat) ^ (q - s) ≤ 10 ^ 3 := Nat.pow_le_pow_right (by omega) (by omega)
        exact_mod_cast this
      have := hl.1
      have := hl.2
      unfold jmin
      rw [show jw 100000 = 100000 by decide, if_pos (by rw [jw_of (by omega) (by omega)]; omega)]
      omega)
    refine ⟨v', ?_, r2⟩
    rw [f_X12_ahead_L128, r67, h14, q_byte hT hX h11 (by omega), bnd_some, q_isDg (bt_in hT), bnd_some, if_pos ((bt_D hT).2 ⟨by omega, hl⟩), if_neg (by decide), r67, h14, q_byte hT hX h11 (by omega), bnd_some, letm_ap, letm_ap, eb, u67, r67, u67, upA_ne (show (14 : Nat) ≠ 15 by omega), h14, show (q : Int) + 1 = ((q + 1 : Nat) : Int) by omega, r1]
    congr 2
    funext j
    simp only [upA_at]
    by_cases z : j = 14
    · rw [if_pos z, if_pos z]
    · by_cases z2 : j = 15
      · rw [if_neg z, if_pos z2, if_neg z, if_pos z2]
      · rw [if_neg z, if_neg z2, if_neg z, if_neg z2, if_neg z, if_neg z2]
theorem run_ex (P : Nat → Prop) (N : Nat) : ∀ d p : Nat, p + d = N → ∃ s : Nat, p ≤ s ∧ s ≤ N ∧ (∀ i : Nat, p ≤ i → i < s → P i) ∧ (s < N → ¬ P s) := by
  intro d
  induction d with
  | zero => intro p hp; exact ⟨p, Nat.le_refl _, by omega, fun i _ _ => by omega, fun _ => by omega⟩
  | succ d ih =>
    intro p hp
    by_cases c : P p
    · obtain ⟨s, s1, s2, s3, s4⟩ := ih (p + 1) (by omega)
      refine ⟨s, by omega, s2, fun i i1 i2 => ?_, s4⟩
      by_cases e : i = p
      · rw [e]; exact c
      · exact s3 i (by omega) i2
    · exact ⟨p, Nat.le_refl _, by omega, fun i _ _ => by omega, fun _ => c⟩
end PLEX3

section PLEX2
variable {n : Nat} {M X : JMem}
/-! the class's reader, its cell a row of numbers -/
theorem r9 (f : Nat → Int) : jrow M 9 f 9 = f := jrow_same 9 f
theorem r910 (f : Nat → Int) : jrow M 9 f 10 = M 10 := jrow_ne f (by omega)
theorem r911 (f : Nat → Int) : jrow M 9 f 11 = M 11 := jrow_ne f (by omega)
theorem u9 (f : Nat → Int) (k : Nat) (v : Int) : jup (jrow M 9 f) 9 k v = jrow M 9 (upA f k v) := jup_row_up 9 k f v
theorem r67 (f : Nat → Int) : jrow X 167 f 167 = f := jrow_same 167 f
theorem r674 (f : Nat → Int) : jrow X 167 f 174 = X 174 := jrow_ne f (by omega)
theorem u67 (f : Nat → Int) (k : Nat) (v : Int) : jup (jrow X 167 f) 167 k v = jrow X 167 (upA f k v) := jup_row_up 167 k f v
theorem jwN {a : Nat} (h : a < 100000) : jw (a : Int) = a := jw_of (by omega) (by omega)
theorem jwS {a b : Nat} (h : a < 100000) (hb : b ≤ a) : jw ((a : Int) - (b : Int)) = ((a - b : Nat) : Int) := by rw [jw_of (by omega) (by omega)]; omega
theorem jinN {a b : Nat} (h : a < b) (hb : b < 100000) : jin (a : Int) b := jin_of (by omega) (by omega) (by omega)
theorem jwT {a : Nat} (h : a < 100000) : (jw (a : Int)).toNat = a := jwb (by omega)
/-- a text of bytes -/
def TT (T : Nat → Int) (N : Nat) : Prop := N ≤ 900 ∧ ∀ k : Nat, k < N → -128 ≤ T k ∧ T k < 128
theorem c_isB {x : Int} (h : -128 ≤ x ∧ x < 128) : f_X6_isBlank n x M = some (if x = 10 ∨ x = 32 then 1 else 0, M) := by
  unfold f_X6_isBlank
  rw [show jw 10 = 10 by decide, show jw 32 = 32 by decide, jw_of (x := x) (by omega) (by omega)]
  by_cases c : x = 10
  · rw [if_pos c, if_pos (Or.inl c)]
  · by_cases c2 : x = 32
    · rw [if_neg c, if_pos c2, if_pos (Or.inr c2)]
    · rw [if_neg c, if_neg c2, if_neg (by omega)]
theorem c_isL {x : Int} (h : -128 ≤ x ∧ x < 128) : f_X6_isLetter n x M = some (if isL x then 1 else 0, M) := by
  unfold f_X6_isLetter
  rw [show jw 97 = 97 by decide, show jw 122 = 122 by decide, jw_of (x := x) (by omega) (by omega)]
  by_cases c : x < 97
  · rw [if_pos c, if_neg (fun q => by have := q.1; omega)]
  · by_cases c2 : 122 < x
    · rw [if_neg c, if_pos c2, if_neg (fun q => by have := q.2; omega)]
    · rw [if_neg c, if_neg c2, if_pos ⟨by omega, by omega⟩]
theorem c_isD {x : Int} (h : -128 ≤ x ∧ x < 128) : f_X6_isDigit n x M = some (if isD x then 1 else 0, M) := by
  unfold f_X6_isDigit
  rw [show jw 48 = 48 by decide, show jw 57 = 57 by decide, jw_of (x := x) (by omega) (by omega)]
  by_cases c : x < 48
  · rw [if_pos c, if_neg (fun q => by have := q.1; omega)]
  · by_cases c2 : 57 < x
    · rw [if_neg c, if_pos c2, if_neg (fun q => by have := q.2; omega)]
    · rw [if_neg c, if_neg c2, if_pos ⟨by omega, by omega⟩]
theorem c_blank {T : Nat → Int} {N s q0 : Nat} (hT : TT T N) (hM : ∀ k : Nat, k < N → M 10 k = T k) (hsN : s ≤ N) (hb : ∀ i : Nat, q0 ≤ i → i < s → T i = 10 ∨ T i = 32) (hs : s < N → ¬ (T s = 10 ∨ T s = 32)) : ∀ (d q k : Nat) (f : Nat → Int), q0 ≤ q → q + d = s → d < k → f 8 = (N : Int) → f 9 = (q : Int) → f_X6_advance_L8 n k (jrow M 9 f) = f_X6_advance_L47 n (jrow M 9 (upA f 9 s)) := by
  obtain ⟨h900, hr⟩ := hT
  intro d
  induction d with
  | zero =>
    intro q k f hq hi hk h8 h9
    obtain ⟨k, rfl⟩ : ∃ z, k = z + 1 := ⟨k - 1, by omega⟩
    obtain rfl : q = s := by omega
    rw [f_X6_advance_L8, r9, h8, h9, r910, upA_id h9.symm]
    by_cases c : N ≤ q
    · rw [if_pos (by rw [jwN (by omega), jwN (by omega)]; omega)]
    · rw [if_neg (by rw [jwN (by omega), jwN (by omega)]; omega), chk_pos (jinN (by omega) (by omega)), jwT (by omega), hM q (by omega), c_isB (hr q (by omega)), bnd_some, if_neg (hs (by omega)), if_pos (by decide)]
  | succ d ih =>
    intro q k f hq hi hk h8 h9
    obtain ⟨k, rfl⟩ : ∃ z, k = z + 1 := ⟨k - 1, by omega⟩
    rw [f_X6_advance_L8, r9, h8, h9, r910, if_neg (by rw [jwN (by omega), jwN (by omega)]; omega), chk_pos (jinN (by omega) (by omega)), jwT (by omega), hM q (by omega), c_isB (hr q (by omega)), bnd_some, if_pos (hb q hq (by omega)), if_neg (by decide), letm_ap, r9, h9, u9, ih (q + 1) k _ (by omega) (by omega) (by omega) (by rw [upA_ne (by omega)]; exact h8) (by rw [upA_same]; omega)]
    congr 2
    funext j
    rw [upA_at, upA_at, upA_at]
    by_cases e : j = 9
    · rw [if_pos e, if_pos e]
    · rw [if_neg e, if_neg e, if_neg e]
/-! words -/
theorem c_word {T : Nat → Int} {N s e : Nat} (hT : TT T N) (hM : ∀ k : Nat, k < N → M 10 k = T k) (heN : e ≤ N) (hse : s ≤ e) (hb : ∀ i : Nat, s ≤ i → i < e → isL (T i)) (he : e < N → ¬ isL (T e)) : ∀ (d q k : Nat) (v : Int) (f : Nat → Int), s ≤ q → q + d = e → d < k → f 8 = (N : Int) → f 9 = (q : Int) → f 5 = (s : Int) → (q - s ≤ 8 → v = ((wd5 (wl T s (q - s)) : Nat) : Int)) →
    ∃ v' : Int, f_X6_lookAtWord_L2 n k v (jrow M 9 f) = f_X6_lookAtWord_L69 n v' (jrow M 9 (upA f 9 e)) ∧ (e - s ≤ 8 → v' = ((wd5 (wl T s (e - s)) : Nat) : Int)) := by
  obtain ⟨h900, hr⟩ := hT
  intro d
  induction d with
  | zero =>
    intro q k v f hq hi hk h8 h9 h5 hv
    obtain ⟨k, rfl⟩ : ∃ z, k = z + 1 := ⟨k - 1, by omega⟩
    obtain rfl : q = e := by omega
    refine ⟨v, ?_, hv⟩
    rw [f_X6_lookAtWord_L2, r9, h8, h9, r910, upA_id h9.symm]
    by_cases c : N ≤ q
    · rw [if_pos (by rw [jwN (by omega), jwN (by omega)]; omega)]
    · rw [if_neg (by rw [jwN (by omega), jwN (by omega)]; omega), chk_pos (jinN (by omega) (by omega)), jwT (by omega), hM q (by omega), c_isL (hr q (by omega)), bnd_some, if_neg (he (by omega)), if_pos (by decide)]
  | succ d ih =>
    intro q k v f hq hi hk h8 h9 h5 hv
    obtain ⟨k, rfl⟩ : ∃ z, k = z + 1 := ⟨k - 1, by omega⟩
    have hl := hb q hq (by omega)
    have step : ∀ v : Int, f_X6_lookAtWord_L56 n (f_X6_lookAtWord_L2 n k) v (jrow M 9 f) = f_X6_lookAtWord_L2 n k v (jrow M 9 (upA f 9 ((q + 1 : Nat) : Int))) := fun v => by
      unfold f_X6_lookAtWord_L56
      rw [letm_ap, r9, h9, u9, show (q : Int) + 1 = ((q + 1 : Nat) : Int) by omega]
    have up2 : upA (upA f 9 ((q + 1 : Nat) : Int)) 9 (e : Int) = upA f 9 (e : Int) := by
      funext j
      rw [upA_at, upA_at, upA_at]
      by_cases c : j = 9
      · rw [if_pos c, if_pos c]
      · rw [if_neg c, if_neg c, if_neg c]
    by_cases c8 : 8 ≤ q - s
    · obtain ⟨v', r1, r2⟩ := ih (q + 1) k v (upA f 9 ((q + 1 : Nat) : Int)) (by omega) (by omega) (by omega) (by rw [upA_ne (by omega)]; exact h8) (by rw [upA_same]) (by rw [upA_ne (by omega)]; exact h5) (fun z => by omega)
      refine ⟨v', ?_, r2⟩
      rw [f_X6_lookAtWord_L2, r9, h8, h9, r910, if_neg (by rw [jwN (by omega), jwN (by omega)]; omega), chk_pos (jinN (by omega) (by omega)), jwT (by omega), hM q (by omega), c_isL (hr q (by omega)), bnd_some, if_pos hl, if_neg (by decide), r9, h9, h5, if_pos (by rw [jwS (by omega) (by omega), show jw 8 = 8 by decide]; omega), step, r1, up2]
    · have h32 := wd5_lt (T := T) (s := s) (q - s) (fun i hi => hb _ (by omega) (by omega))
      have hp : 32 ^ (q - s) ≤ 32 ^ 7 := Nat.pow_le_pow_right (by omega) (by omega)
      have e1 : q + 1 - s = (q - s) + 1 := by omega
      have e2 : s + (q - s) = q := by omega
      have ev : jlor (jlshl ((wd5 (wl T s (q - s)) : Nat) : Int) 5) (jw (T q - 97 + 1)) = ((wd5 (wl T s (q + 1 - s)) : Nat) : Int) := by
        rw [e1, wl_succ, wd5_c, e2, jw_of (x := T q - 97 + 1) (by have := hl.1; omega) (by have := hl.2; omega), show T q - 97 + 1 = (((T q - 96).toNat : Nat) : Int) by have := hl.1; omega]
        exact code5 (by omega) (by have := hl.2; omega)
      obtain ⟨v', r1, r2⟩ := ih (q + 1) k ((wd5 (wl T s (q + 1 - s)) : Nat) : Int) (upA f 9 ((q + 1 : Nat) : Int)) (by omega) (by omega) (by omega) (by rw [upA_ne (by omega)]; exact h8) (by rw [upA_same]) (by rw [upA_ne (by omega)]; exact h5) (fun _ => rfl)
      refine ⟨v', ?_, r2⟩
      rw [f_X6_lookAtWord_L2, r9, h8, h9, r910, if_neg (by rw [jwN (by omega), jwN (by omega)]; omega), chk_pos (jinN (by omega) (by omega)), jwT (by omega), hM q (by omega), c_isL (hr q (by omega)), bnd_some, if_pos hl, if_neg (by decide), r9, h9, h5, if_neg (by rw [jwS (by omega) (by omega), show jw 8 = 8 by decide]; omega), chk_pos (jinN (by omega) (by omega)), r910, jwT (by omega), hM q (by omega)]
      unfold f_X6_withLetter
      rw [bnd_some, letv_ap, hv (by omega), ev, step, r1, up2]
/-- the keywords -/
theorem c_keys (hK : ∀ k : Nat, k < 27 → M 11 k = jM0 11 k) {w : List Nat} (hw : ∀ c ∈ w, 1 ≤ c ∧ c ≤ 26) (hw5 : wd5 w < 2 ^ 40) : ∀ (d i k : Nat) (f : Nat → Int), i + d = 27 → d < k → ∃ f' : Nat → Int, f_X6_lookAtWord_L101 n k ((wd5 w : Nat) : Int) (i : Int) (jrow M 9 f) = some (0, jrow M 9 f') ∧ (((∀ c : Nat, i ≤ c → c < 27 → w ≠ kw c) ∧ f' = f) ∨ ∃ c : Nat, i ≤ c ∧ c < 27 ∧ w = kw c ∧ f' = upA (upA f 4 1) 6 (c : Int)) := by
  intro d
  induction d with
  | zero =>
    intro i k f hi hk
    obtain ⟨k, rfl⟩ : ∃ z, k = z + 1 := ⟨k - 1, by omega⟩
    obtain rfl : i = 27 := by omega
    exact ⟨f, by rw [f_X6_lookAtWord_L101, if_pos (by decide)], Or.inl ⟨fun c c1 c2 => by omega, rfl⟩⟩
  | succ d ih =>
    intro i k f hi hk
    obtain ⟨k, rfl⟩ : ∃ z, k = z + 1 := ⟨k - 1, by omega⟩
    have i27 : i < 27 := by omega
    have kd := k_wd i i27
    have hc : (jw (jcmp (M 11 i) ((wd5 w : Nat) : Int)) = 0) ↔ w = kw i := by
      rw [jcmp_sign.2.2, hK i i27, k_tab i i27]
      have l1 : wd5 (kw i) < 2 ^ 40 := by
        have : ∀ c : Nat, c < 27 → wd5 (kw c) < 2 ^ 40 := by decide +kernel
        exact this i i27
      rw [jwl_of (by omega) (by omega), jwl_of (by omega) (by omega)]
      constructor
      · intro z
        exact (wd5_inj kd.2.2 hw (by omega)).symm
      · intro z
        rw [z]
    have e1 : (i : Int) + 1 = ((i + 1 : Nat) : Int) := by omega
    rw [f_X6_lookAtWord_L101, if_neg (by rw [jwN (by omega), show jw 27 = 27 by decide]; omega), chk_pos (jinN (by omega) (by omega)), jwT (by omega), r911]
    unfold f_X6_lookAtWord_L128
    by_cases c : w = kw i
    · obtain ⟨f', r1, r2⟩ := ih (i + 1) k (upA (upA f 4 1) 6 (i : Int)) (by omega) (by omega)
      rw [if_pos (hc.2 c), letm_ap, letm_ap, letv_ap, u9, u9, e1]
      rcases r2 with ⟨r2, r3⟩ | ⟨c', r2, r3, r4, r5⟩
      · exact ⟨f', r1, Or.inr ⟨i, Nat.le_refl _, i27, c, r3⟩⟩
      · have := k_inj i i27 c' r3 (c.symm.trans r4)
        omega
    · obtain ⟨f', r1, r2⟩ := ih (i + 1) k f (by omega) (by omega)
      rw [if_neg (fun z => c (hc.1 z)), letv_ap, e1]
      refine ⟨f', r1, ?_⟩
      rcases r2 with ⟨r2, r3⟩ | ⟨c', r2, r3, r4, r5⟩
      · refine Or.inl ⟨fun c' c1 c2 => ?_, r3⟩
        by_cases z : c' = i
        · rw [z]; exact c
        · exact r2 c' (by omega) c2
      · exact Or.inr ⟨c', by omega, r3, r4, r5⟩
/-- a word is looked at -/
theorem c_look {T : Nat → Int} {N s e : Nat} (hn : 2000 ≤ n) (hT : TT T N) (hM : ∀ k : Nat, k < N → M 10 k = T k) (hK : ∀ k : Nat, k < 27 → M 11 k = jM0 11 k) (heN : e ≤ N) (hse : s < e) (hb : ∀ i : Nat, s ≤ i → i < e → isL (T i)) (he : e < N → ¬ isL (T e)) {f : Nat → Int} (h8 : f 8 = (N : Int)) (h9 : f 9 = (s : Int)) (h5 : f 5 = (s : Int)) :
    ∃ f' : Nat → Int, f_X6_lookAtWord n (jrow M 9 f) = some (0, jrow M 9 f') ∧ f' 9 = (e : Int) ∧ (∀ j : Nat, j ≠ 4 → j ≠ 6 → j ≠ 7 → j ≠ 9 → f' j = f j) ∧
      ((f' 4 = 1 ∧ ∃ c : Nat, c < 27 ∧ wl T s (e - s) = kw c ∧ f' 6 = (c : Int)) ∨ (f' 4 = 2 ∧ e - s ≤ 8 ∧ (∀ c : Nat, c < 27 → wl T s (e - s) ≠ kw c) ∧ f' 7 = ((wd5 (wl T s (e - s)) : Nat) : Int)) ∨ (f' 4 = 3 ∧ 8 < e - s ∧ ∀ c : Nat, c < 27 → wl T s (e - s) ≠ kw c)) := by
  have h900 := hT.1
  obtain ⟨v', r1, r2⟩ := c_word (n := n) hT hM heN (by omega) hb he (e - s) s n 0 f (by omega) (by omega) (by omega) h8 h9 h5 (fun _ => by rw [Nat.sub_self]; rfl)
  unfold f_X6_lookAtWord
  rw [letv_ap, r1]
  unfold f_X6_lookAtWord_L69
  rw [r9, upA_same, upA_ne (by omega), h5]
  have hmem := wl_mem (T := T) (s := s) (m := e - s) (fun i hi => hb _ (by omega) (by omega))
  by_cases c : e - s ≤ 8
  · rw [if_pos (by rw [jwS (by omega) (by omega), show jw 8 = 8 by decide]; omega), letm_ap, letm_ap, letv_ap, u9, u9, r2 c]
    have h32 := wd5_lt (T := T) (s := s) (e - s) (fun i hi => hb _ (by omega) (by omega))
    have hp : 32 ^ (e - s) ≤ 32 ^ 8 := Nat.pow_le_pow_right (by omega) c
    obtain ⟨f', q1, q2⟩ := c_keys (n := n) hK hmem (by omega) 27 0 n (upA (upA (upA f 9 (e : Int)) 4 2) 7 ((wd5 (wl T s (e - s)) : Nat) : Int)) (by omega) (by omega)
    refine ⟨f', q1, ?_⟩
    rcases q2 with ⟨q2, rfl⟩ | ⟨c', q2, q3, q4, rfl⟩
    · refine ⟨?_, fun j j1 j2 j3 j4 => ?_, Or.inr (Or.inl ⟨?_, c, fun c hc => q2 c (by omega) hc, ?_⟩)⟩
      · rw [upA_ne (by omega), upA_ne (by omega), upA_same]
      · rw [upA_ne j3, upA_ne j1, upA_ne j4]
      · rw [upA_ne (by omega), upA_same]
      · rw [upA_same]
    · refine ⟨?_, fun j j1 j2 j3 j4 => ?_, Or.inl ⟨?_, c', q3, q4, ?_⟩⟩
      · rw [upA_ne (by omega), upA_ne (by omega), upA_ne (by omega), upA_ne (by omega), upA_same]
      · rw [upA_ne j2, upA_ne j1, upA_ne j3, upA_ne j1, upA_ne j4]
      · rw [upA_ne (by omega), upA_same]
      · rw [upA_same]
  · rw [if_neg (by rw [jwS (by omega) (by omega), show jw 8 = 8 by decide]; omega), letm_ap, u9]
    refine ⟨_, rfl, ?_, fun j j1 j2 j3 j4 => ?_, Or.inr (Or.inr ⟨?_, by omega, fun c hc z => ?_⟩)⟩
    · rw [upA_ne (by omega), upA_same]
    · rw [upA_ne j1, upA_ne j4]
    · rw [upA_same]
    · have := (k_wd c hc).2.1
      rw [← z, wl_len] at this
      omega
/-! numbers -/
def nm (T : Nat → Int) (s : Nat) : Nat → Int
  | 0 => 0
  | m + 1 => nm T s m * 10 + (T (s + m) - 48)
theorem nm_lt {T : Nat → Int} {s : Nat} : ∀ m : Nat, (∀ i : Nat, i < m → isD (T (s + i))) → 0 ≤ nm T s m ∧ nm T s m < 10 ^ m := by
  intro m
  induction m with
  | zero => intro _; exact ⟨Int.le_refl 0, show (0 : Int) < 10 ^ 0 by decide⟩
  | succ m ih =>
    intro h
    have h1 := ih (fun i hi => h i (by omega))
    have h2 := h m (by omega)
    rw [nm, Int.pow_succ]
    have := h2.1
    have := h2.2
    omega
theorem c_num {T : Nat → Int} {N s e : Nat} (hT : TT T N) (hM : ∀ k : Nat, k < N → M 10 k = T k) (heN : e ≤ N) (hse : s ≤ e) (hb : ∀ i : Nat, s ≤ i → i < e → isD (T i)) (he : e < N → ¬ isD (T e)) : ∀ (d q k : Nat) (v : Int) (f : Nat → Int), s ≤ q → q + d = e → d < k → f 8 = (N : Int) → f 9 = (q : Int) → f 5 = (s : Int) → (q - s ≤ 4 → v = nm T s (q - s)) →
    ∃ v' : Int, f_X6_lookAtNumber_L2 n k v (jrow M 9 f) = f_X6_lookAtNumber_L72 n v' (jrow M 9 (upA f 9 e)) ∧ (e - s ≤ 4 → v' = nm T s (e - s)) := by
  obtain ⟨h900, hr⟩ := hT
  intro d
  induction d with
  | zero =>
    intro q k v f hq hi hk h8 h9 h5 hv
    obtain ⟨k, rfl⟩ : ∃ z, k = z + 1 := ⟨k - 1, by omega⟩
    obtain rfl : q = e := by omega
    refine ⟨v, ?_, hv⟩
    rw [f_X6_lookAtNumber_L2, r9, h8, h9, r910, upA_id h9.symm]
    by_cases c : N ≤ q
    · rw [if_pos (by rw [jwN (by omega), jwN (by omega)]; omega)]
    · rw [if_neg (by rw [jwN (by omega), jwN (by omega)]; omega), chk_pos (jinN (by omega) (by omega)), jwT (by omega), hM q (by omega), c_isD (hr q (by omega)), bnd_some, if_neg (he (by omega)), if_pos (by decide)]
  | succ d ih =>
    intro q k v f hq hi hk h8 h9 h5 hv
    obtain ⟨k, rfl⟩ : ∃ z, k = z + 1 := ⟨k - 1, by omega⟩
    have hl := hb q hq (by omega)
    have step : ∀ v : Int, f_X6_lookAtNumber_L59 n (f_X6_lookAtNumber_L2 n k) v (jrow M 9 f) = f_X6_lookAtNumber_L2 n k v (jrow M 9 (upA f 9 ((q + 1 : Nat) : Int))) := fun v => by
      unfold f_X6_lookAtNumber_L59
      rw [letm_ap, r9, h9, u9, show (q : Int) + 1 = ((q + 1 : Nat) : Int) by omega]
    have up2 : upA (upA f 9 ((q + 1 : Nat) : Int)) 9 (e : Int) = upA f 9 (e : Int) := by
      funext j
      rw [upA_at, upA_at, upA_at]
      by_cases c : j = 9
      · rw [if_pos c, if_pos c]
      · rw [if_neg c, if_neg c, if_neg c]
    by_cases c8 : 4 ≤ q - s
    · obtain ⟨v', r1, r2⟩ := ih (q + 1) k v (upA f 9 ((q + 1 : Nat) : Int)) (by omega) (by omega) (by omega) (by rw [upA_ne (by omega)]; exact h8) (by rw [upA_same]) (by rw [upA_ne (by omega)]; exact h5) (fun z => by omega)
      refine ⟨v', ?_, r2⟩
      rw [f_X6_lookAtNumber_L2, r9, h8, h9, r910, if_neg (by rw [jwN (by omega), jwN (by omega)]; omega), chk_pos (jinN (by omega) (by omega)), jwT (by omega), hM q (by omega), c_isD (hr q (by omega)), bnd_some, if_pos hl, if_neg (by decide), r9, h9, h5, if_pos (by rw [jwS (by omega) (by omega), show jw 4 = 4 by decide]; omega), step, r1, up2]
    · have e1 : q + 1 - s = (q - s) + 1 := by omega
      have e2 : s + (q - s) = q := by omega
      obtain ⟨v', r1, r2⟩ := ih (q + 1) k (nm T s (q + 1 - s)) (upA f 9 ((q + 1 : Nat) : Int)) (by omega) (by omega) (by omega) (by rw [upA_ne (by omega)]; exact h8) (by rw [upA_same]) (by rw [upA_ne (by omega)]; exact h5) (fun _ => rfl)
      refine ⟨v', ?_, r2⟩
      rw [f_X6_lookAtNumber_L2, r9, h8, h9, r910, if_neg (by rw [jwN (by omega), jwN (by omega)]; omega), chk_pos (jinN (by omega) (by omega)), jwT (by omega), hM q (by omega), c_isD (hr q (by omega)), bnd_some, if_pos hl, if_neg (by decide), r9, h9, h5, if_neg (by rw [jwS (by omega) (by omega), show jw 4 = 4 by decide]; omega), chk_pos (jinN (by omega) (by omega)), r910, jwT (by omega), hM q (by omega), letv_ap, hv (by omega), step, show nm T s (q - s) * 10 + (T q - 48) = nm T s (q + 1 - s) by rw [e1, nm, e2], r1, up2]
theorem c_lookN {T : Nat → Int} {N s e : Nat} (hn : 2000 ≤ n) (hT : TT T N) (hM : ∀ k : Nat, k < N → M 10 k = T k) (heN : e ≤ N) (hse : s < e) (hb : ∀ i : Nat, s ≤ i → i < e → isD (T i)) (he : e < N → ¬ isD (T e)) {f : Nat → Int} (h8 : f 8 = (N : Int)) (h9 : f 9 = (s : Int)) (h5 : f 5 = (s : Int)) (h2 : f 2 = 0) :
    ∃ f' : Nat → Int, f_X6_lookAtNumber n (jrow M 9 f) = some (0, jrow M 9 f') ∧ (∀ j : Nat, j ≠ 2 → j ≠ 3 → j ≠ 4 → j ≠ 6 → j ≠ 9 → f' j = f j) ∧
      ((e - s ≤ 4 ∧ f' 2 = f 2 ∧ f' 3 = f 3 ∧ f' 9 = (e : Int) ∧ f' 4 = 4 ∧ f' 6 = nm T s (e - s)) ∨ (4 < e - s ∧ f' 2 = 1 ∧ f' 3 = (s : Int) ∧ f' 4 = 6)) := by
  have h900 := hT.1
  obtain ⟨v', r1, r2⟩ := c_num (n := n) hT hM heN (by omega) hb he (e - s) s n 0 f (by omega) (by omega) (by omega) h8 h9 h5 (fun _ => by rw [Nat.sub_self]; rfl)
  unfold f_X6_lookAtNumber
  rw [letv_ap, r1]
  unfold f_X6_lookAtNumber_L72
  rw [r9, upA_same, upA_ne (by omega), h5]
  by_cases c : e - s ≤ 4
  · rw [if_pos (by rw [jwS (by omega) (by omega), show jw 4 = 4 by decide]; omega), letm_ap, letm_ap, u9, u9, r2 c]
    refine ⟨_, rfl, fun j j1 j2 j3 j4 j5 => ?_, Or.inl ⟨c, ?_, ?_, ?_, ?_, ?_⟩⟩
    · rw [upA_ne j4, upA_ne j3, upA_ne j5]
    · rw [upA_ne (by omega), upA_ne (by omega), upA_ne (by omega)]
    · rw [upA_ne (by omega), upA_ne (by omega), upA_ne (by omega)]
    · rw [upA_ne (by omega), upA_ne (by omega), upA_same]
    · rw [upA_ne (by omega), upA_same]
    · rw [upA_same]
  · rw [if_neg (by rw [jwS (by omega) (by omega), show jw 4 = 4 by decide]; omega)]
    unfold f_X6_fail f_X6_fail_L20
    rw [r9, upA_ne (by omega), h2, if_pos (by decide), letm_ap, letm_ap, letm_ap, u9, r9, u9, u9, bnd_some]
    refine ⟨_, rfl, fun j j1 j2 j3 j4 j5 => ?_, Or.inr ⟨by omega, ?_, ?_, ?_⟩⟩
    · rw [upA_ne j3, upA_ne j2, upA_ne j1, upA_ne j5]
    · rw [upA_ne (by omega), upA_ne (by omega), upA_same]
    · rw [upA_ne (by omega), upA_same, upA_ne (by omega), upA_ne (by omega)]; exact h5
    · rw [upA_same]
end PLEX2

section PWP
variable {n : Nat} {M : JMem}
/-! what an answer must show, wherever it comes from -/
def Wp (o : Option (Int × JMem)) (Q : Int → JMem → Prop) : Prop := ∃ r M, o = some (r, M) ∧ Q r M
theorem Wp.ret {r : Int} {M : JMem} {Q : Int → JMem → Prop} (h : Q r M) : Wp (some (r, M)) Q := ⟨r, M, rfl, h⟩
theorem Wp.of {o : Option (Int × JMem)} {r : Int} {M : JMem} {Q : Int → JMem → Prop} (e : o = some (r, M)) (h : Q r M) : Wp o Q := ⟨r, M, e, h⟩
theorem Wp.bd {o : Option (Int × JMem)} {f : Int → JMem → Option (Int × JMem)} {Q R : Int → JMem → Prop} (h : Wp o Q) (h1 : ∀ r M, Q r M → Wp (f r M) R) : Wp (bnd o f) R := by
  obtain ⟨r, M, e, q⟩ := h
  rw [bnd_eq e]; exact h1 r M q
theorem Wp.b1 {o : Option (Int × JMem)} {r : Int} {M : JMem} {f : Int → JMem → Option (Int × JMem)} {R : Int → JMem → Prop} (e : o = some (r, M)) (h : Wp (f r M) R) : Wp (bnd o f) R := by rw [bnd_eq e]; exact h
theorem Wp.ck {P : Prop} [Decidable P] {o : Option (Int × JMem)} {Q : Int → JMem → Prop} (h : P) (h1 : Wp o Q) : Wp (chk P o) Q := by rw [chk_pos h]; exact h1
theorem Wp.jn {i : Int} {N : Nat} {o : Option (Int × JMem)} {Q : Int → JMem → Prop} (h0 : 0 ≤ i) (h1 : i < N) (h2 : i < 2147483648) (h3 : Wp o Q) : Wp (chk (jin i N) o) Q := Wp.ck (jin_of h0 h1 h2) h3
theorem Wp.ite {c : Prop} [Decidable c] {a b : Option (Int × JMem)} {Q : Int → JMem → Prop} (h1 : c → Wp a Q) (h2 : ¬ c → Wp b Q) : Wp (if c then a else b) Q := by
  by_cases h : c
  · rw [if_pos h]; exact h1 h
  · rw [if_neg h]; exact h2 h
theorem Wp.pos {c : Prop} [Decidable c] {a b : Option (Int × JMem)} {Q : Int → JMem → Prop} (h : c) (h1 : Wp a Q) : Wp (if c then a else b) Q := by rw [if_pos h]; exact h1
theorem Wp.neg {c : Prop} [Decidable c] {a b : Option (Int × JMem)} {Q : Int → JMem → Prop} (h : ¬ c) (h1 : Wp b Q) : Wp (if c then a else b) Q := by rw [if_neg h]; exact h1
theorem Wp.mono {o : Option (Int × JMem)} {Q R : Int → JMem → Prop} (h : Wp o Q) (h1 : ∀ r M, Q r M → R r M) : Wp o R := by
  obtain ⟨r, M, e, q⟩ := h
  exact ⟨r, M, e, h1 r M q⟩
theorem Pr.wp {R : JMem → Prop} {f g : JMem → Option (Int × JMem)} {M : JMem} (h : Wp (f M) (fun r M1 => Wp (g M1) (fun s M2 => jw r = jw s ∧ R M2))) : ∃ r M1 s M2, f M = some (r, M1) ∧ g M1 = some (s, M2) ∧ jw r = jw s ∧ R M2 := by
  obtain ⟨r, M1, e1, s, M2, e2, q⟩ := h
  exact ⟨r, M1, s, M2, e1, e2, q⟩
theorem letv_ap {β : Type} (x : Int) (f : Int → β) : letv x f = f x := by
  have h : letv x f = f x := rfl
  exact h
theorem letm_ap {β : Type} (x : JMem) (f : JMem → β) : letm x f = f x := by
  have h : letm x f = f x := rfl
  exact h
theorem jrow_self (a : Nat) : jrow M a (M a) = M := by
  funext b j
  rw [jrow_at]
  by_cases h : b = a
  · rw [if_pos h, h]
  · rw [if_neg h]
theorem jup_jrow (a k : Nat) (v : Int) : jup M a k v = jrow M a (upA (M a) k v) := by
  funext b j
  rw [jrow_at, jup_at]
  unfold upA
  by_cases h : b = a
  · subst h
    by_cases h2 : j = k
    · rw [if_pos ⟨rfl, h2⟩, if_pos rfl, if_pos h2]
    · rw [if_neg (fun q => h2 q.2), if_pos rfl, if_neg h2]
  · rw [if_neg (fun q => h q.1), if_neg h]
theorem jrow_jrow (a : Nat) (f g : Nat → Int) : jrow (jrow M a f) a g = jrow M a g := by
  funext b j
  rw [jrow_at, jrow_at, jrow_at]
  by_cases h : b = a
  · rw [if_pos h, if_pos h]
  · rw [if_neg h, if_neg h, if_neg h]
theorem jrow_same (a : Nat) (f : Nat → Int) : jrow M a f a = f := by
  funext j
  rw [jrow_at, if_pos rfl]
theorem jrow_ne {a b : Nat} (f : Nat → Int) (h : b ≠ a) : jrow M a f b = M b := by
  funext j
  rw [jrow_at, if_neg h]
theorem jup_row_up (a k : Nat) (f : Nat → Int) (v : Int) : jup (jrow M a f) a k v = jrow M a (upA f k v) := by
  rw [jup_jrow, jrow_jrow, jrow_same]
theorem jup2 (a k k2 : Nat) (v v2 : Int) : jup (jup M a k v) a k2 v2 = jrow M a (upA (upA (M a) k v) k2 v2) := by
  rw [jup_jrow a k v, jup_row_up]
theorem upA_at (A : Nat → Int) (q : Nat) (v : Int) (k : Nat) : upA A q v k = if k = q then v else A k := rfl
theorem upA_id {A : Nat → Int} {q : Nat} {v : Int} (h : v = A q) : upA A q v = A := by
  funext k
  rw [upA_at]
  by_cases e : k = q
  · rw [if_pos e, h, e]
  · rw [if_neg e]
/-- a number of the first k beasts anew -/
def upB (A : Nat → Int) (f k : Nat) (v : Nat → Int) : Nat → Int := fun i => if f ≤ i ∧ (i - f) % 10 = 0 ∧ (i - f) / 10 < k then v ((i - f) / 10) else A i
theorem upB_at {A : Nat → Int} {f k : Nat} {v : Nat → Int} {b : Nat} (h : b < k) : upB A f k v (f + 10 * b) = v b := by
  unfold upB
  rw [if_pos (by omega), show (f + 10 * b - f) / 10 = b by omega]
theorem upB_ne {A : Nat → Int} {f k : Nat} {v : Nat → Int} {i : Nat} (h : ∀ b : Nat, b < k → i ≠ f + 10 * b) : upB A f k v i = A i := by
  unfold upB
  rw [if_neg (fun q => h ((i - f) / 10) q.2.2 (by omega))]
theorem upB_0 (A : Nat → Int) (f : Nat) (v : Nat → Int) : upB A f 0 v = A := by
  funext i
  exact upB_ne (by omega)
theorem upB_succ (A : Nat → Int) (f k : Nat) (v : Nat → Int) : upB A f (k + 1) v = upA (upB A f k v) (f + 10 * k) (v k) := by
  funext i
  rw [upA_at]
  by_cases h : i = f + 10 * k
  · rw [if_pos h, h, upB_at (by omega)]
  · rw [if_neg h]
    unfold upB
    by_cases h2 : f ≤ i ∧ (i - f) % 10 = 0 ∧ (i - f) / 10 < k
    · rw [if_pos h2, if_pos (by omega)]
    · rw [if_neg h2, if_neg (by omega)]
theorem q_bo0 {b : Nat} (b8 : b < 8) : f_X12_beastOf n (b : Int) 0 M = some (M 168 (56 + 10 * b), M) := by
  rw [show f_X12_beastOf n (b : Int) 0 M = _ from q_beastOf (k := 0) b8 (by omega), show 56 + 10 * b + 0 = 56 + 10 * b by omega]
theorem q_bo1 {b : Nat} (b8 : b < 8) : f_X12_beastOf n (b : Int) 1 M = some (M 168 (57 + 10 * b), M) := by
  rw [show f_X12_beastOf n (b : Int) 1 M = _ from q_beastOf (k := 1) b8 (by omega), show 56 + 10 * b + 1 = 57 + 10 * b by omega]
theorem q_bo2 {b : Nat} (b8 : b < 8) : f_X12_beastOf n (b : Int) 2 M = some (M 168 (58 + 10 * b), M) := by
  rw [show f_X12_beastOf n (b : Int) 2 M = _ from q_beastOf (k := 2) b8 (by omega), show 56 + 10 * b + 2 = 58 + 10 * b by omega]
theorem q_bo3 {b : Nat} (b8 : b < 8) : f_X12_beastOf n (b : Int) 3 M = some (M 168 (59 + 10 * b), M) := by
  rw [show f_X12_beastOf n (b : Int) 3 M = _ from q_beastOf (k := 3) b8 (by omega), show 56 + 10 * b + 3 = 59 + 10 * b by omega]
theorem q_bo4 {b : Nat} (b8 : b < 8) : f_X12_beastOf n (b : Int) 4 M = some (M 168 (60 + 10 * b), M) := by
  rw [show f_X12_beastOf n (b : Int) 4 M = _ from q_beastOf (k := 4) b8 (by omega), show 56 + 10 * b + 4 = 60 + 10 * b by omega]
theorem q_bo5 {b : Nat} (b8 : b < 8) : f_X12_beastOf n (b : Int) 5 M = some (M 168 (61 + 10 * b), M) := by
  rw [show f_X12_beastOf n (b : Int) 5 M = _ from q_beastOf (k := 5) b8 (by omega), show 56 + 10 * b + 5 = 61 + 10 * b by omega]
theorem q_bo6 {b : Nat} (b8 : b < 8) : f_X12_beastOf n (b : Int) 6 M = some (M 168 (62 + 10 * b), M) := by
  rw [show f_X12_beastOf n (b : Int) 6 M = _ from q_beastOf (k := 6) b8 (by omega), show 56 + 10 * b + 6 = 62 + 10 * b by omega]
theorem q_bo7 {b : Nat} (b8 : b < 8) : f_X12_beastOf n (b : Int) 7 M = some (M 168 (63 + 10 * b), M) := by
  rw [show f_X12_beastOf n (b : Int) 7 M = _ from q_beastOf (k := 7) b8 (by omega), show 56 + 10 * b + 7 = 63 + 10 * b by omega]
theorem q_bo8 {b : Nat} (b8 : b < 8) : f_X12_beastOf n (b : Int) 8 M = some (M 168 (64 + 10 * b), M) := by
  rw [show f_X12_beastOf n (b : Int) 8 M = _ from q_beastOf (k := 8) b8 (by omega), show 56 + 10 * b + 8 = 64 + 10 * b by omega]
theorem q_bo9 {b : Nat} (b8 : b < 8) : f_X12_beastOf n (b : Int) 9 M = some (M 168 (65 + 10 * b), M) := by
  rw [show f_X12_beastOf n (b : Int) 9 M = _ from q_beastOf (k := 9) b8 (by omega), show 56 + 10 * b + 9 = 65 + 10 * b by omega]
theorem q_to0 {b : Nat} (b8 : b < 8) : f_X12_trainOf n (b : Int) 0 M = some (M 168 (8 + 6 * b), M) := by
  rw [show f_X12_trainOf n (b : Int) 0 M = _ from q_trainOf (k := 0) b8 (by omega), show 8 + 6 * b + 0 = 8 + 6 * b by omega]
theorem q_to1 {b : Nat} (b8 : b < 8) : f_X12_trainOf n (b : Int) 1 M = some (M 168 (9 + 6 * b), M) := by
  rw [show f_X12_trainOf n (b : Int) 1 M = _ from q_trainOf (k := 1) b8 (by omega), show 8 + 6 * b + 1 = 9 + 6 * b by omega]
theorem q_to2 {b : Nat} (b8 : b < 8) : f_X12_trainOf n (b : Int) 2 M = some (M 168 (10 + 6 * b), M) := by
  rw [show f_X12_trainOf n (b : Int) 2 M = _ from q_trainOf (k := 2) b8 (by omega), show 8 + 6 * b + 2 = 10 + 6 * b by omega]
theorem q_to3 {b : Nat} (b8 : b < 8) : f_X12_trainOf n (b : Int) 3 M = some (M 168 (11 + 6 * b), M) := by
  rw [show f_X12_trainOf n (b : Int) 3 M = _ from q_trainOf (k := 3) b8 (by omega), show 8 + 6 * b + 3 = 11 + 6 * b by omega]
theorem q_to4 {b : Nat} (b8 : b < 8) : f_X12_trainOf n (b : Int) 4 M = some (M 168 (12 + 6 * b), M) := by
  rw [show f_X12_trainOf n (b : Int) 4 M = _ from q_trainOf (k := 4) b8 (by omega), show 8 + 6 * b + 4 = 12 + 6 * b by omega]
theorem q_to5 {b : Nat} (b8 : b < 8) : f_X12_trainOf n (b : Int) 5 M = some (M 168 (13 + 6 * b), M) := by
  rw [show f_X12_trainOf n (b : Int) 5 M = _ from q_trainOf (k := 5) b8 (by omega), show 8 + 6 * b + 5 = 13 + 6 * b by omega]
/-- a place of a row of beasts -/
theorem ixb0 {b : Nat} (b8 : b < 8) : (jw (56 + 10 * (b : Int) + 0)).toNat = 56 + 10 * b := by
  rw [jw_of (by omega) (by omega)]; omega
theorem ixj0 {b : Nat} (b8 : b < 8) : jin (56 + 10 * (b : Int) + 0) 3160 := jin_of (by omega) (by omega) (by omega)
theorem ixb1 {b : Nat} (b8 : b < 8) : (jw (56 + 10 * (b : Int) + 1)).toNat = 57 + 10 * b := by
  rw [jw_of (by omega) (by omega)]; omega
theorem ixj1 {b : Nat} (b8 : b < 8) : jin (56 + 10 * (b : Int) + 1) 3160 := jin_of (by omega) (by omega) (by omega)
theorem ixb2 {b : Nat} (b8 : b < 8) : (jw (56 + 10 * (b : Int) + 2)).toNat = 58 + 10 * b := by
  rw [jw_of (by omega) (by omega)]; omega
theorem ixj2 {b : Nat} (b8 : b < 8) : jin (56 + 10 * (b : Int) + 2) 3160 := jin_of (by omega) (by omega) (by omega)
theorem ixb3 {b : Nat} (b8 : b < 8) : (jw (56 + 10 * (b : Int) + 3)).toNat = 59 + 10 * b := by
  rw [jw_of (by omega) (by omega)]; omega
theorem ixj3 {b : Nat} (b8 : b < 8) : jin (56 + 10 * (b : Int) + 3) 3160 := jin_of (by omega) (by omega) (by omega)
theorem ixb4 {b : Nat} (b8 : b < 8) : (jw (56 + 10 * (b : Int) + 4)).toNat = 60 + 10 * b := by
  rw [jw_of (by omega) (by omega)]; omega
theorem ixj4 {b : Nat} (b8 : b < 8) : jin (56 + 10 * (b : Int) + 4) 3160 := jin_of (by omega) (by omega) (by omega)
theorem ixb5 {b : Nat} (b8 : b < 8) : (jw (56 + 10 * (b : Int) + 5)).toNat = 61 + 10 * b := by
  rw [jw_of (by omega) (by omega)]; omega
theorem ixj5 {b : Nat} (b8 : b < 8) : jin (56 + 10 * (b : Int) + 5) 3160 := jin_of (by omega) (by omega) (by omega)
theorem ixb6 {b : Nat} (b8 : b < 8) : (jw (56 + 10 * (b : Int) + 6)).toNat = 62 + 10 * b := by
  rw [jw_of (by omega) (by omega)]; omega
theorem ixj6 {b : Nat} (b8 : b < 8) : jin (56 + 10 * (b : Int) + 6) 3160 := jin_of (by omega) (by omega) (by omega)
theorem ixb7 {b : Nat} (b8 : b < 8) : (jw (56 + 10 * (b : Int) + 7)).toNat = 63 + 10 * b := by
  rw [jw_of (by omega) (by omega)]; omega
theorem ixj7 {b : Nat} (b8 : b < 8) : jin (56 + 10 * (b : Int) + 7) 3160 := jin_of (by omega) (by omega) (by omega)
theorem ixb8 {b : Nat} (b8 : b < 8) : (jw (56 + 10 * (b : Int) + 8)).toNat = 64 + 10 * b := by
  rw [jw_of (by omega) (by omega)]; omega
theorem ixj8 {b : Nat} (b8 : b < 8) : jin (56 + 10 * (b : Int) + 8) 3160 := jin_of (by omega) (by omega) (by omega)
theorem ixb9 {b : Nat} (b8 : b < 8) : (jw (56 + 10 * (b : Int) + 9)).toNat = 65 + 10 * b := by
  rw [jw_of (by omega) (by omega)]; omega
theorem ixj9 {b : Nat} (b8 : b < 8) : jin (56 + 10 * (b : Int) + 9) 3160 := jin_of (by omega) (by omega) (by omega)
/-! the reference's numbers of one state, well -/
def SA (A : Nat → Int) : Prop :=
  (0 ≤ A 0 ∧ A 0 ≤ 6) ∧ (0 ≤ A 1 ∧ A 1 ≤ 8) ∧ (0 ≤ A 2 ∧ A 2 ≤ 8) ∧ (0 ≤ A 4 ∧ A 4 ≤ 999) ∧ (0 ≤ A 5 ∧ A 5 ≤ 64) ∧
  (∀ t : Nat, t < 8 → (t : Int) < A 1 → (0 ≤ A (8 + 6 * t) ∧ A (8 + 6 * t) < A 0) ∧ (0 ≤ A (9 + 6 * t) ∧ A (9 + 6 * t) < A 0) ∧ (0 ≤ A (10 + 6 * t) ∧ A (10 + 6 * t) ≤ 63) ∧ (1 ≤ A (11 + 6 * t) ∧ A (11 + 6 * t) ≤ 24) ∧ (1 ≤ A (12 + 6 * t) ∧ A (12 + 6 * t) ≤ 9) ∧ (A (13 + 6 * t) = 0 ∨ A (13 + 6 * t) = 1)) ∧
  (∀ b : Nat, b < 8 → (b : Int) < A 2 → (A (58 + 10 * b) = 0 ∨ A (58 + 10 * b) = 1) ∧ (A (59 + 10 * b) = 0 ∨ A (59 + 10 * b) = 1) ∧ S8 (A (61 + 10 * b)) ∧ S8 (A (62 + 10 * b)) ∧ (¬ A (59 + 10 * b) = 1 → (0 ≤ A (63 + 10 * b) ∧ A (63 + 10 * b) < A 0) ∨ (10 ≤ A (63 + 10 * b) ∧ A (63 + 10 * b) < 10 + A 1 ∧ 0 ≤ A (64 + 10 * b) ∧ A (64 + 10 * b) ≤ 63)))
theorem SA.of {P N : JV} {A : Nat → Int} (h : RP P A) (h2 : RN N A) : SA A := by
  unfold RP at h
  unfold RN at h2
  obtain ⟨p0, p1, p2, p3, p4, p5, p6⟩ := h
  obtain ⟨q0, q1, ⟨a2, q2⟩, q3, ⟨a4, q4⟩, q5, ⟨a6, q6⟩, q7, q8, q9, q10, q11, q12, q13, q14, q15, q16⟩ := h2
  refine ⟨p0.2, p1.2, p2.2, q0.2, q1.2, fun t t8 hl => ?_, fun b b8 hl => ?_⟩
  · obtain ⟨r1, r2, r3, r4, r5⟩ := p5 t t8 hl
    exact ⟨r1.2, r2.2, r3.2, r4.2, r5.2, q7 t t8 hl⟩
  · obtain ⟨r1, r2, r3⟩ := p6 b b8 hl
    refine ⟨q3 b b8 hl, q5 b b8 hl, (q8 b b8 hl).2.1, r3.2.1, fun he => ?_⟩
    refine (q15 b b8 hl he).imp id fun w => ⟨w.1, w.2, ?_⟩
    obtain ⟨t, t8, et⟩ := natOf (x := A (63 + 10 * b) - 10) (k := 8) (by omega) (by omega)
    have r := q16 t t8 b b8 (((q14 t t8).2 b b8).2 ⟨hl, he, by omega⟩)
    exact ⟨r.2.1, r.2.2.1⟩
theorem SA.mk2 {A A' : Nat → Int} (h : SA A) (hA : ∀ i : Nat, i ≠ 4 → i ≠ 5 → (∀ b : Nat, b < 8 → i ≠ 58 + 10 * b ∧ i ≠ 59 + 10 * b ∧ i ≠ 60 + 10 * b ∧ i ≠ 63 + 10 * b ∧ i ≠ 64 + 10 * b ∧ i ≠ 65 + 10 * b) → A' i = A i) (h4 : 0 ≤ A' 4 ∧ A' 4 ≤ 999) (h5 : 0 ≤ A' 5 ∧ A' 5 ≤ 64)
    (hb : ∀ b : Nat, b < 8 → (b : Int) < A 2 → (A' (58 + 10 * b) = 0 ∨ A' (58 + 10 * b) = 1) ∧ (A' (59 + 10 * b) = 0 ∨ A' (59 + 10 * b) = 1) ∧ (¬ A' (59 + 10 * b) = 1 → (0 ≤ A' (63 + 10 * b) ∧ A' (63 + 10 * b) < A 0) ∨ (10 ≤ A' (63 + 10 * b) ∧ A' (63 + 10 * b) < 10 + A 1 ∧ 0 ≤ A' (64 + 10 * b) ∧ A' (64 + 10 * b) ≤ 63))) : SA A' := by
  obtain ⟨s0, s1, s2, s4, s5, st, sb⟩ := h
  unfold SA
  rw [hA 0 (by omega) (by omega) (by omega), hA 1 (by omega) (by omega) (by omega), hA 2 (by omega) (by omega) (by omega)]
  refine ⟨s0, s1, s2, h4, h5, fun t t8 hl => ?_, fun b b8 hl => ?_⟩
  · rw [hA (8 + 6 * t) (by omega) (by omega) (by omega), hA (9 + 6 * t) (by omega) (by omega) (by omega), hA (10 + 6 * t) (by omega) (by omega) (by omega), hA (11 + 6 * t) (by omega) (by omega) (by omega), hA (12 + 6 * t) (by omega) (by omega) (by omega), hA (13 + 6 * t) (by omega) (by omega) (by omega)]
    exact st t t8 hl
  · have r := hb b b8 hl
    rw [hA (61 + 10 * b) (by omega) (by omega) (by omega), hA (62 + 10 * b) (by omega) (by omega) (by omega)]
    exact ⟨r.1, r.2.1, (sb b b8 hl).2.2.1, (sb b b8 hl).2.2.2.1, r.2.2⟩
/-- who arrives: where a beast is behind it -/
def offC (A : Nat → Int) (b : Nat) : Prop := (b : Int) < A 2 ∧ ¬ A (59 + 10 * b) = 1 ∧ 10 ≤ A (63 + 10 * b) ∧ A (64 + 10 * b) + A (11 + 6 * (A (63 + 10 * b) - 10).toNat) = A 5
def offv (A : Nat → Int) (b : Nat) : Int := if (b : Int) < A 2 ∧ ¬ A (59 + 10 * b) = 1 ∧ 10 ≤ A (63 + 10 * b) ∧ A (64 + 10 * b) + A (11 + 6 * (A (63 + 10 * b) - 10).toNat) = A 5 then A (9 + 6 * (A (63 + 10 * b) - 10).toNat) else A (63 + 10 * b)
def offs (A : Nat → Int) (k : Nat) : Nat → Int := upB A 63 k (offv A)
theorem offv_ok {A : Nat → Int} (h : SA A) {b : Nat} (b8 : b < 8) (hb : (b : Int) < A 2) (he : ¬ A (59 + 10 * b) = 1) : (0 ≤ offv A b ∧ offv A b < A 0) ∨ (offv A b = A (63 + 10 * b) ∧ 10 ≤ A (63 + 10 * b) ∧ A (63 + 10 * b) < 10 + A 1 ∧ 0 ≤ A (64 + 10 * b) ∧ A (64 + 10 * b) ≤ 63) := by
  obtain ⟨s0, s1, s2, s4, s5, st, sb⟩ := h
  have r := (sb b b8 hb).2.2.2.2 he
  unfold offv
  by_cases c : (b : Int) < A 2 ∧ ¬ A (59 + 10 * b) = 1 ∧ 10 ≤ A (63 + 10 * b) ∧ A (64 + 10 * b) + A (11 + 6 * (A (63 + 10 * b) - 10).toNat) = A 5
  · rw [if_pos c]
    have := (st (A (63 + 10 * b) - 10).toNat (by omega) (by omega)).2.1
    exact Or.inl this
  · rw [if_neg c]
    exact r.imp id fun w => ⟨rfl, w⟩
theorem offs_at {A : Nat → Int} {k b : Nat} (h : b < k) : offs A k (63 + 10 * b) = offv A b := upB_at h
theorem offs_ne {A : Nat → Int} {k i : Nat} (h : ∀ b : Nat, b < k → i ≠ 63 + 10 * b) : offs A k i = A i := upB_ne h
theorem SA.offsK {A : Nat → Int} (h : SA A) {k : Nat} (k8 : k ≤ 8) : SA (offs A k) := by
  have h' := h
  obtain ⟨s0, s1, s2, s4, s5, st, sb⟩ := h'
  have e : ∀ i : Nat, (∀ b : Nat, b < k → i ≠ 63 + 10 * b) → offs A k i = A i := fun i hi => offs_ne hi
  refine h.mk2 (fun i i4 i5 hi => e i fun b hb => (hi b (by omega)).2.2.2.1) (by rw [e 4 (by omega)]; exact s4) (by rw [e 5 (by omega)]; exact s5) fun b b8 hb => ?_
  obtain ⟨b1, b2, b3, b4, b5⟩ := sb b b8 hb
  rw [e (58 + 10 * b) (by omega), e (59 + 10 * b) (by omega), e (64 + 10 * b) (by omega)]
  refine ⟨b1, b2, fun he => ?_⟩
  by_cases c : b < k
  · rw [offs_at c]
    rcases offv_ok h b8 hb he with w | w
    · exact Or.inl w
    · rw [w.1]; exact Or.inr w.2
  · rw [e (63 + 10 * b) (by omega)]
    exact b5 he
theorem q_getsOff {b : Nat} {A : Nat → Int} (hA : SA A) (b8 : b < 8) (hb : (b : Int) < A 2) (hM : M 168 = offs A b) : f_X12_getsOff n (b : Int) M = some (0, jrow M 168 (offs A (b + 1))) := by
  have h := hA
  obtain ⟨s0, s1, s2, s4, s5, st, sb⟩ := h
  obtain ⟨b1, b2, b3, b4, b5⟩ := sb b b8 hb
  have e : ∀ i : Nat, (∀ c : Nat, c < b → i ≠ 63 + 10 * c) → M 168 i = A i := fun i hi => by rw [hM]; exact offs_ne hi
  have e59 := e (59 + 10 * b) (by omega)
  have e63 := e (63 + 10 * b) (by omega)
  have e64 := e (64 + 10 * b) (by omega)
  have e5 := e 5 (by omega)
  have es : offs A (b + 1) = upA (M 168) (63 + 10 * b) (offv A b) := by rw [hM]; exact upB_succ _ _ _ _
  unfold f_X12_getsOff
  simp only [letv_ap, letm_ap]
  rw [q_bo7 b8, bnd_some, q_isEatenM b8 (by rw [e59]; exact b2), bnd_some, e59, e63]
  by_cases he : A (59 + 10 * b) = 1
  · have ev : offv A b = A (63 + 10 * b) := if_neg (fun q => q.2.1 he)
    rw [if_pos he, if_neg (by decide), es, upA_id (by rw [ev, e63]), jrow_self]
  · rw [if_neg he, if_pos (by decide)]
    rcases b5 he with w | w
    · have ev : offv A b = A (63 + 10 * b) := if_neg (fun q => by omega)
      rw [if_pos (by rw [jw_of (by omega) (by omega)]; omega), es, upA_id (by rw [ev, e63]), jrow_self]
    · obtain ⟨t, t8, et⟩ := natOf (x := A (63 + 10 * b) - 10) (k := 8) (by omega) (by omega)
      have tt : (A (63 + 10 * b) - 10).toNat = t := by omega
      obtain ⟨t1, t2, t3, t4, t5, t6⟩ := st t t8 (by omega)
      have e11 := e (11 + 6 * t) (by omega)
      have e9 := e (9 + 6 * t) (by omega)
      rw [if_neg (by rw [jw_of (by omega) (by omega)]; omega), q_bo8 b8, bnd_some, et, q_to3 t8, bnd_some, chk_pos (by decide), show (jw 5).toNat = 5 by decide, e64, e11, e5]
      by_cases c : A (64 + 10 * b) + A (11 + 6 * t) = A 5
      · have ev : offv A b = A (9 + 6 * t) := by
          unfold offv
          rw [tt, if_pos ⟨hb, he, w.1, c⟩]
        rw [if_pos (by rw [c]), q_beastRow, bnd_some, q_to1 t8, bnd_some, chk_pos (ixj7 b8), ixb7 b8, e9, jup_jrow, es, ev]
      · have ev : offv A b = A (63 + 10 * b) := by
          unfold offv
          rw [tt, if_neg (fun q => c q.2.2.2)]
        rw [if_neg (by rw [jw_of (by omega) (by omega), jw_of (x := A 5) (by omega) (by omega)]; exact c), es, upA_id (by rw [ev, e63]), jrow_self]
theorem q_getsOffs {A : Nat → Int} (hA : SA A) : ∀ (d i k : Nat) (M : JMem), i + d = (A 2).toNat → d < k → M 168 = offs A i → f_X12_hourGoes_L2 n k (i : Int) M = f_X12_hourGoes_L23 n (jrow M 168 (offs A (A 2).toNat)) := by
  have h := hA
  obtain ⟨s0, s1, s2, s4, s5, st, sb⟩ := h
  intro d
  induction d with
  | zero =>
    intro i k M hi hk hM
    obtain ⟨k, rfl⟩ : ∃ q, k = q + 1 := ⟨k - 1, by omega⟩
    have e2 : M 168 2 = A 2 := by rw [hM]; exact offs_ne (by omega)
    rw [f_X12_hourGoes_L2, chk_pos (by decide), show (jw 2).toNat = 2 by decide, e2, jw_of (by omega) (by omega), jw_of (by omega) (by omega), if_pos (by omega), show (A 2).toNat = i by omega, ← hM, jrow_self]
  | succ d ih =>
    intro i k M hi hk hM
    obtain ⟨k, rfl⟩ : ∃ q, k = q + 1 := ⟨k - 1, by omega⟩
    have e2 : M 168 2 = A 2 := by rw [hM]; exact offs_ne (by omega)
    rw [f_X12_hourGoes_L2, chk_pos (by decide), show (jw 2).toNat = 2 by decide, e2, jw_of (by omega) (by omega), jw_of (by omega) (by omega), if_neg (by omega), q_getsOff hA (by omega) (by omega) hM, bnd_some]
    simp only [letv_ap, letm_ap]
    rw [show ((i : Int) + 1) = ((i + 1 : Nat) : Int) by omega, ih (i + 1) k _ (by omega) (by omega) (jrow_same _ _), jrow_jrow]
end PWP

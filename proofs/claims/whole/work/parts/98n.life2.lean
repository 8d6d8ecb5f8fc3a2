section PLIFE2
variable {n : Nat} {M X : JMem}
/-! any: the snow of a draw -/
theorem RN.snow {N N' : JV} {A A' : Nat → Int} (h : RN N A) (hN : ∀ j k : Nat, j < 8 → ¬ (j = 0 ∧ k = 4) → N' j k = N j k) (hA : ∀ i : Nat, (∀ t : Nat, t < 8 → i ≠ 13 + 6 * t) → A' i = A i) (hx : S8 (N' 0 4) ∧ ∀ t : Nat, t < 8 → (bit (N' 0 4) t = true ↔ (t : Int) < A 1 ∧ A' (13 + 6 * t) = 1)) (h01 : ∀ t : Nat, t < 8 → (t : Int) < A 1 → A' (13 + 6 * t) = 0 ∨ A' (13 + 6 * t) = 1) : RN N' A' := by
  have e1 : N' 1 = N 1 := funext fun k => hN 1 k (by omega) (by omega)
  have e2 : N' 2 = N 2 := funext fun k => hN 2 k (by omega) (by omega)
  have e3 : N' 3 = N 3 := funext fun k => hN 3 k (by omega) (by omega)
  have e4 : N' 4 = N 4 := funext fun k => hN 4 k (by omega) (by omega)
  have e5 : N' 5 = N 5 := funext fun k => hN 5 k (by omega) (by omega)
  unfold RN at h ⊢
  obtain ⟨q0, q1, ⟨a2, q2⟩, q3, ⟨a4, q4⟩, q5, ⟨a6, q6⟩, q7, q8, q9, q10, q11, q12, q13, q14, q15, q16⟩ := h
  rw [hN 0 0 (by omega) (by omega), hN 0 1 (by omega) (by omega), hN 0 3 (by omega) (by omega), hN 0 2 (by omega) (by omega), e1, e2, e3, e4, e5, hA 0 (by omega), hA 1 (by omega), hA 2 (by omega), hA 4 (by omega), hA 5 (by omega), hA 6 (by omega)]
  refine ⟨q0, q1, ⟨a2, fun b b8 => ?_⟩, fun b b8 => ?_, ⟨a4, fun b b8 => ?_⟩, fun b b8 => ?_, hx, h01, fun b b8 => ?_, fun b b8 => ?_, q10, q11, q12, fun p p6 => ⟨(q13 p p6).1, fun b b8 => ?_⟩, fun t t8 => ⟨(q14 t t8).1, fun b b8 => ?_⟩, fun b b8 => ?_, fun t t8 b b8 => ?_⟩
  · rw [hA _ (by omega)]; exact q2 b b8
  · rw [hA _ (by omega)]; exact q3 b b8
  · rw [hA _ (by omega)]; exact q4 b b8
  · rw [hA _ (by omega)]; exact q5 b b8
  · rw [hA _ (by omega)]; exact q8 b b8
  · rw [hA _ (by omega)]; exact q9 b b8
  · rw [hA (59 + 10 * b) (by omega), hA (63 + 10 * b) (by omega)]; exact (q13 p p6).2 b b8
  · rw [hA (59 + 10 * b) (by omega), hA (63 + 10 * b) (by omega)]; exact (q14 t t8).2 b b8
  · rw [hA (59 + 10 * b) (by omega), hA (63 + 10 * b) (by omega)]; exact q15 b b8
  · rw [hA (64 + 10 * b) (by omega), hA (11 + 6 * t) (by omega), hA (10 + 6 * t) (by omega)]; exact q16 t t8 b b8
def nextD (d : Int) : Int := jrem (d * 3089 + 11317) 65536
theorem lv_any_L {th nw : Nat} (ht : LT th nw) {nt : Nat} (h8 : nt ≤ 8) {od : Int} (hod : 0 ≤ od ∧ od ≤ 16) : ∀ (d i k k' : Nat) (v : Int) (M X : JMem), i + d = nt → d < k → d < k' → M 40 1 = nt → M 40 3 = od → X 168 1 = nt → X 168 3 = od → M th 2 = X 167 32 → S8 v → (∀ t : Nat, t < 8 → (bit v t = true ↔ t < i ∧ X 168 (13 + 6 * t) = 1)) → (∀ t : Nat, t < i → X 168 (13 + 6 * t) = 0 ∨ X 168 (13 + 6 * t) = 1) →
    ∃ w M' X', f_X0_isSnowDone_L14 n th 40 nw k v (i : Int) M = some (1, jup M' nw 4 w) ∧ f_X12_snowsAny_L2 n k' (i : Int) X = f_X12_snowsAny_L49 n X' ∧ (∀ c : Nat, c ≠ th → M' c = M c) ∧ (∀ j : Nat, j ≠ 2 → M' th j = M th j) ∧ (∀ c : Nat, c ≠ 167 → c ≠ 168 → X' c = X c) ∧ (∀ j : Nat, j ≠ 32 → X' 167 j = X 167 j) ∧ (∀ q : Nat, (∀ t : Nat, t < 8 → q ≠ 13 + 6 * t) → X' 168 q = X 168 q) ∧ M' th 2 = X' 167 32 ∧ S8 w ∧ (∀ t : Nat, t < 8 → (bit w t = true ↔ t < nt ∧ X' 168 (13 + 6 * t) = 1)) ∧ ∀ t : Nat, t < nt → X' 168 (13 + 6 * t) = 0 ∨ X' 168 (13 + 6 * t) = 1 := by
  unfold LT at ht
  intro d
  induction d with
  | zero =>
    intro i k k' v M X hi hk hk' m1 m3 x1 x3 hd hv hb h01
    obtain ⟨k, rfl⟩ : ∃ q, k = q + 1 := ⟨k - 1, by omega⟩
    obtain ⟨k', rfl⟩ : ∃ q, k' = q + 1 := ⟨k' - 1, by omega⟩
    obtain rfl : i = nt := by omega
    refine ⟨v, M, X, ?_, ?_, fun _ _ => rfl, fun _ _ => rfl, fun _ _ _ => rfl, fun _ _ => rfl, fun _ _ => rfl, hd, hv, hb, h01⟩
    · rw [f_X0_isSnowDone_L14, m1, if_pos (Int.le_refl _)]; rfl
    · rw [f_X12_snowsAny_L2, chk_pos (by decide), jn1, x1, if_pos (Int.le_refl _)]
  | succ d ih =>
    intro i k k' v M X hi hk hk' m1 m3 x1 x3 hd hv hb h01
    obtain ⟨k, rfl⟩ : ∃ q, k = q + 1 := ⟨k - 1, by omega⟩
    obtain ⟨k', rfl⟩ : ∃ q, k' = q + 1 := ⟨k' - 1, by omega⟩
    have i8 : i < 8 := by omega
    have jle : ¬ jw (nt : Int) ≤ jw (i : Int) := by rw [jw_of (x := (nt : Int)) (by omega) (by omega), jw_of (x := (i : Int)) (by omega) (by omega)]; omega
    have e32 : jrem (M th 2 * 3089 + 11317) 65536 = nextD (X 167 32) := by rw [hd]; rfl
    have e33 : jrem (X 167 32 * 3089 + 11317) 65536 = nextD (X 167 32) := rfl
    have a40 : ∀ j : Nat, jup M th 2 (nextD (X 167 32)) 40 j = M 40 j := fun j => by rw [jup_cell (by omega)]
    have ath : jup M th 2 (nextD (X 167 32)) th 2 = nextD (X 167 32) := by rw [jup_if, if_pos rfl]
    have a167 : jup X 167 32 (nextD (X 167 32)) 167 32 = nextD (X 167 32) := by rw [jup_if, if_pos rfl]
    have ei : (i : Int) + 1 = ((i + 1 : Nat) : Int) := by omega
    rw [f_X0_isSnowDone_L14, f_X12_snowsAny_L2, m1, if_neg jle, chk_pos (by decide), jn1, x1, if_neg jle, q_trainRow, bnd_some, e32]
    unfold f_X12_draw f_X0_isSnowDone_L66 f_X12_snowsAny_L42
    simp only [letv_ap, letm_ap]
    rw [e33, a40, ath, a167, m3, chk_pos (by decide), bnd_some, chk_pos (by decide), jn3, show jup X 167 32 (nextD (X 167 32)) 168 3 = od by rw [jup_cell (by omega)]; exact x3, chk_pos (ixk5 i8), chk_pos (ixk5 i8), ixt5 i8, ei]
    by_cases c : jw od ≤ jw (jrem (jdiv (nextD (X 167 32)) 8) 16)
    · rw [if_pos c, if_pos c]
      obtain ⟨w, M', X', r1, r2, r3, r4, r5, r6, r7, r8, r9, r10, r11⟩ := ih (i + 1) k k' v (jup M th 2 (nextD (X 167 32))) (jup (jup X 167 32 (nextD (X 167 32))) 168 (13 + 6 * i) 0) (by omega) (by omega) (by omega) (by rw [a40]; exact m1) (by rw [a40]; exact m3) (by rw [jup_if, if_neg (by omega), jup_cell (by omega)]; exact x1) (by rw [jup_if, if_neg (by omega), jup_cell (by omega)]; exact x3) (by rw [ath, jup_cell (by omega), a167]) hv (fun t t8 => by
        rw [jup_if, jup_cell (by omega), hb t t8]
        by_cases e : t = i
        · rw [if_pos (by omega)]; omega
        · rw [if_neg (by omega)]; omega) (fun t t1 => by
        rw [jup_if, jup_cell (by omega)]
        by_cases e : t = i
        · rw [if_pos (by omega)]; exact Or.inl rfl
        · rw [if_neg (by omega)]; exact h01 t (by omega))
      refine ⟨w, M', X', r1, r2, fun c c1 => by rw [r3 c c1, jup_cell c1], fun j hj => by rw [r4 j hj, jup_if, if_neg hj], fun c c1 c2 => by rw [r5 c c1 c2, jup_cell c2, jup_cell c1], fun j hj => by rw [r6 j hj, jup_cell (by omega), jup_if, if_neg hj], fun q hq => by rw [r7 q hq, jup_if, if_neg (hq i i8), jup_cell (by omega)], r8, r9, r10, r11⟩
    · rw [if_neg c, if_neg c]
      have hs := jset hv i8
      obtain ⟨w, M', X', r1, r2, r3, r4, r5, r6, r7, r8, r9, r10, r11⟩ := ih (i + 1) k k' (jor v (jshl 1 (i : Int))) (jup M th 2 (nextD (X 167 32))) (jup (jup X 167 32 (nextD (X 167 32))) 168 (13 + 6 * i) 1) (by omega) (by omega) (by omega) (by rw [a40]; exact m1) (by rw [a40]; exact m3) (by rw [jup_if, if_neg (by omega), jup_cell (by omega)]; exact x1) (by rw [jup_if, if_neg (by omega), jup_cell (by omega)]; exact x3) (by rw [ath, jup_cell (by omega), a167]) hs.1 (fun t t8 => by
        rw [jup_if, jup_cell (by omega), hs.2 t t8, Bool.or_eq_true, decide_eq_true_eq, hb t t8]
        by_cases e : t = i
        · rw [if_pos (by omega)]; omega
        · rw [if_neg (by omega)]; omega) (fun t t1 => by
        rw [jup_if, jup_cell (by omega)]
        by_cases e : t = i
        · rw [if_pos (by omega)]; exact Or.inr rfl
        · rw [if_neg (by omega)]; exact h01 t (by omega))
      refine ⟨w, M', X', r1, r2, fun c c1 => by rw [r3 c c1, jup_cell c1], fun j hj => by rw [r4 j hj, jup_if, if_neg hj], fun c c1 c2 => by rw [r5 c c1 c2, jup_cell c2, jup_cell c1], fun j hj => by rw [r6 j hj, jup_cell (by omega), jup_if, if_neg hj], fun q hq => by rw [r7 q hq, jup_if, if_neg (hq i i8), jup_cell (by omega)], r8, r9, r10, r11⟩
theorem lv_any {th nw : Nat} (hf : 100 ≤ n) (ht : LT th nw) (h : LJ th nw M X) : LVS th nw (f_X0_isSnowDone n th 40 nw) (f_X12_snowsAny n) M X := by
  have ht' := ht
  unfold LT at ht'
  have h' := h
  obtain ⟨hP, hR, hd, hk⟩ := h'
  have hP' := hP
  unfold RP at hP'
  obtain ⟨p0, p1, p2, p3, -⟩ := hP'
  have m1 : M 40 1 = X 168 1 := p1.1
  have m3 : M 40 3 = X 168 3 := p3.1
  obtain ⟨nt, n8, en⟩ := natOf (x := X 168 1) (k := 9) p1.2.1 (by omega)
  obtain ⟨w, M', X', r1, r2, r3, r4, r5, r6, r7, r8, r9, r10, r11⟩ := lv_any_L (n := n) ht (nt := nt) (by omega) (od := X 168 3) p3.2 nt 0 n n 0 M X (by omega) (by omega) (by omega) (by rw [m1, en]) m3 en rfl hd S8_0 (fun t t8 => by rw [bit0]; exact ⟨fun q => absurd q (by decide), fun q => absurd q.1 (by omega)⟩) (fun t t1 => by omega)
  by_cases c : nt = 0
  · subst c
    refine LVS.no h (r := 0) (Or.inl rfl) ?_ ?_
    · unfold f_X0_isSnowDone
      rw [m1, en, if_pos (by decide)]
    · unfold f_X12_snowsAny
      simp only [letv_ap]
      obtain ⟨q, rfl⟩ : ∃ q, n = q + 1 := ⟨n - 1, by omega⟩
      rw [f_X12_snowsAny_L2, chk_pos (by decide), jn1, en, if_pos (by decide)]
      unfold f_X12_snowsAny_L49
      rw [chk_pos (by decide), jn1, en, if_pos (by decide)]
  · have e7 : ∀ i : Nat, (∀ t : Nat, t < 8 → i ≠ 13 + 6 * t) → X' 168 i = X 168 i := r7
    refine ⟨1, jup M' nw 4 w, X', ?_, ?_, Or.inr rfl, ⟨?_, ?_, ?_, fun k k5 => ?_⟩, ⟨fun c c1 c2 c3 => ?_, fun j hj => ?_⟩, ⟨fun c c1 c2 c3 => r5 c c1 c2, fun j hj => r6 j hj, fun i hi => r7 i (by omega), by rw [r5 184 (by omega) (by omega)]⟩⟩
    · unfold f_X0_isSnowDone
      simp only [letv_ap]
      rw [m1, en, if_neg (by rw [jw_of (x := (nt : Int)) (by omega) (by omega)]; omega)]
      exact r1
    · unfold f_X12_snowsAny
      simp only [letv_ap]
      rw [show f_X12_snowsAny_L2 n n 0 X = _ from r2]
      unfold f_X12_snowsAny_L49
      rw [chk_pos (by decide), jn1, r7 1 (by omega), en, if_neg (by rw [jw_of (x := (nt : Int)) (by omega) (by omega)]; omega)]
    · rw [blk_congr (by decide) (M := M) (a := 40) (z := 12) (fun j hj => by rw [jup_cell (by omega), r3 _ (by omega)])]
      exact RP.congr2 hP (fun k hk => r7 k (by omega)) (fun t k ht hk => r7 _ (by omega)) (fun b hb => ⟨r7 _ (by omega), r7 _ (by omega), r7 _ (by omega)⟩)
    · refine hR.snow (fun j k hj hjk => ?_) r7 ?_ (fun t t8 hl => r11 t (by omega))
      · rw [blk_at hj, blk_at hj, jup_at, if_neg (by omega), r3 _ (by omega)]
      · rw [blk_at (by omega), Nat.add_zero, jup_if, if_pos rfl]
        refine ⟨r9, fun t t8 => ?_⟩
        rw [r10 t t8, en]
        omega
    · rw [jup_cell (by omega)]; exact r8
    · rw [jup_cell (by omega), r3 _ (by omega), r5 184 (by omega) (by omega)]; exact hk k k5
    · rw [jup_cell (by omega), r3 c c1]
    · rw [jup_cell (by omega), r4 j hj]
end PLIFE2

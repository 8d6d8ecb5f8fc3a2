section PLIFE
variable {n : Nat} {M X : JMem}
/-! one STEP of WEEKS: the class's memory M and the reference's X side by side -/
def LT (th nw : Nat) : Prop := (th = 86 ∧ nw = 52) ∨ (th = 89 ∧ nw = 68)
def LJ (th nw : Nat) (M X : JMem) : Prop := RP (blk M 40 12) (X 168) ∧ RN (blk M nw 8) (X 168) ∧ M th 2 = X 167 32 ∧ ∀ k : Nat, k < 5 → M (th + 1) k = X 184 k
def LF (th nw : Nat) (M M' : JMem) : Prop := (∀ c : Nat, c ≠ th → c ≠ th + 1 → c < nw ∨ nw + 8 ≤ c → M' c = M c) ∧ ∀ j : Nat, j ≠ 2 → M' th j = M th j
def XF (X X' : JMem) : Prop := (∀ c : Nat, c ≠ 167 → c ≠ 168 → c ≠ 184 → X' c = X c) ∧ (∀ j : Nat, j ≠ 32 → X' 167 j = X 167 j) ∧ (∀ i : Nat, i = 7 ∨ 136 ≤ i → X' 168 i = X 168 i) ∧ X' 184 0 = X 184 0
def LVS (th nw : Nat) (f g : JMem → Option (Int × JMem)) (M X : JMem) : Prop := ∃ r M' X', f M = some (r, M') ∧ g X = some (r, X') ∧ (r = 0 ∨ r = 1) ∧ LJ th nw M' X' ∧ LF th nw M M' ∧ XF X X'
theorem LF.refl (th nw : Nat) : LF th nw M M := ⟨fun _ _ _ _ => rfl, fun _ _ => rfl⟩
theorem XF.refl : XF X X := ⟨fun _ _ _ _ => rfl, fun _ _ => rfl, fun _ _ => rfl, rfl⟩
theorem LVS.no {th nw : Nat} {f g : JMem → Option (Int × JMem)} {r : Int} (h : LJ th nw M X) (hr : r = 0 ∨ r = 1) (e1 : f M = some (r, M)) (e2 : g X = some (r, X)) : LVS th nw f g M X := ⟨r, M, X, e1, e2, hr, h, LF.refl th nw, XF.refl⟩
theorem jw64 : jw 64 = 64 := by decide
theorem jn1 : (jw 1).toNat = 1 := by decide
theorem jn2 : (jw 2).toNat = 2 := by decide
theorem jn3 : (jw 3).toNat = 3 := by decide
theorem jn4 : (jw 4).toNat = 4 := by decide
theorem jn5 : (jw 5).toNat = 5 := by decide
theorem jn7 : (jw 7).toNat = 7 := by decide
theorem jn0 : (jw 0).toNat = 0 := by decide
theorem lv_hours {th nw : Nat} (hf : 100 ≤ n) (ht : LT th nw) (h : LJ th nw M X) {m : Nat} (m1 : 1 ≤ m) (m64 : m ≤ 64) : LVS th nw (f_X0_areHoursDone n th 40 nw (m : Int)) (f_X12_hoursBy n (m : Int)) M X := by
  unfold LT at ht
  have h' := h
  obtain ⟨hP, hR, hd, hk⟩ := h'
  have hA := SA.of hP hR
  have s5 := hA.2.2.2.2.1
  have h2 := hA.2.2.1
  have eh : M nw 1 = X 168 5 := by
    have := hR.heads.2.1.1
    rw [blk_at (by omega)] at this
    exact this
  have ej : jw (X 168 5 + m) = X 168 5 + m := jw_of (by omega) (by omega)
  by_cases c : X 168 5 + m ≤ 64
  · have eM : ∀ q : Nat, q ≠ th + 1 → jup M (th + 1) 1 (M (th + 1) 1 + m) q = M q := fun q hq => jup_cell hq
    obtain ⟨r, M1, r1, r2, r3, r4, r5, r6⟩ := c_pass (n := n) (M := jup M (th + 1) 1 (M (th + 1) 1 + m)) (th := nw) (p := 40) hf (by omega) (A := X 168) (by rw [blk_congr (by decide) (M := M) (a := 40) (z := 12) (fun j hj => eM _ (by omega))]; exact hP) (by rw [blk_congr (by decide) (M := M) (a := nw) (z := 8) (fun j hj => eM _ (by omega))]; exact hR) (m := m) c (x := jup M (th + 1) 1 (M (th + 1) 1 + m) nw 1 + m) (by rw [eM nw (by omega), eh])
    obtain ⟨s, t1, t2, t3⟩ := q_hoursGo (n := n) (M := X) hf hA (m := m) c
    have ers : r = s := S8.ext r5 t2 fun b b8 => by rw [Bool.eq_iff_iff, r6 b b8, t3 b b8]
    have in' : ∀ i : Nat, i ≠ 5 → (∀ b : Nat, b < 8 → i ≠ 59 + 10 * b ∧ i ≠ 63 + 10 * b ∧ i ≠ 64 + 10 * b ∧ i ≠ 65 + 10 * b) → itA (X 168) m i = X 168 i := fun i q1 q2 => itA_ne h2 m i q1 q2
    have eT : M1 (th + 1) = jup M (th + 1) 1 (M (th + 1) 1 + m) (th + 1) := r2 (th + 1) (by omega)
    have e68 : jup (jup (jrow X 168 (itA (X 168) m)) 184 2 (X 184 2 + pcI r)) 184 1 (X 184 1 + m) 168 = itA (X 168) m := by rw [jup_cell (by omega), jup_cell (by omega), jrow_same]
    refine ⟨1, jup M1 (th + 1) 2 (M (th + 1) 2 + pcI r), jup (jup (jrow X 168 (itA (X 168) m)) 184 2 (X 184 2 + pcI r)) 184 1 (X 184 1 + m), ?_, ?_, Or.inr rfl, ⟨?_, ?_, ?_, fun k k5 => ?_⟩, ⟨fun c c1 c2 c3 => ?_, fun j hj => ?_⟩, ⟨fun c c1 c2 c3 => ?_, fun j hj => ?_, fun i hi => ?_, ?_⟩⟩
    · unfold f_X0_areHoursDone
      simp only [letv_ap, letm_ap, jn1, jn2]
      rw [eh, if_pos (by rw [ej, jw64]; exact c), chk_pos (by decide), chk_pos (by decide), chk_pos (by decide), r1, bnd_some, q_bc r5, bnd_some, chk_pos (by decide), jup_if, if_neg (by omega)]
    · unfold f_X12_hoursBy
      simp only [letv_ap, letm_ap, jn1, jn2, jn5]
      rw [chk_pos (by decide), if_pos (by rw [ej, jw64]; exact c), chk_pos (by decide), t1, bnd_some, q_bits hf t2, bnd_some, chk_pos (by decide), chk_pos (by decide), chk_pos (by decide), ← ers, show jup (jrow X 168 (itA (X 168) m)) 184 2 (X 184 2 + pcI r) 184 1 = X 184 1 by rw [jup_if, if_neg (by omega), jrow_ne _ (by omega)]]
    · rw [e68, blk_congr (by decide) (M := M) (a := 40) (z := 12) (fun j hj => by rw [jup_cell (by omega), r2 _ (by omega), eM _ (by omega)])]
      exact hP.same in'
    · rw [e68, blk_congr (by decide) (M := M1) (a := nw) (z := 8) (fun j hj => by rw [jup_cell (by omega)])]
      exact r3
    · rw [jup_cell (by omega), r2 th (by omega), eM _ (by omega), jup_cell (by omega), jup_cell (by omega), jrow_ne _ (by omega)]
      exact hd
    · rw [jup_if, eT, jup_if, jup_if, jup_if, jrow_ne _ (by omega)]
      by_cases k2 : k = 2
      · rw [if_pos k2, if_neg (by omega), if_pos k2, hk 2 (by omega)]
      · by_cases k1 : k = 1
        · rw [if_neg k2, if_pos k1, if_pos k1, hk 1 (by omega)]
        · rw [if_neg k2, if_neg k1, if_neg k1, if_neg k2]
          exact hk k k5
    · rw [jup_cell c2, r2 c c3, eM c c2]
    · rw [jup_cell (by omega), r2 th (by omega), eM _ (by omega)]
    · rw [jup_cell c3, jup_cell c3, jrow_ne _ c2]
    · rw [jup_cell (by omega), jup_cell (by omega), jrow_ne _ (by omega)]
    · rw [e68]; exact in' i (by omega) (by omega)
    · rw [jup_if, if_neg (by omega), jup_if, if_neg (by omega), jrow_ne _ (by omega)]
  · refine LVS.no h (r := 0) (Or.inl rfl) ?_ ?_
    · unfold f_X0_areHoursDone
      rw [eh, if_neg (by rw [ej, jw64]; exact c)]
    · unfold f_X12_hoursBy
      simp only [jn5]
      rw [chk_pos (by decide), if_neg (by rw [ej, jw64]; exact c)]
theorem lv_monday {th nw : Nat} (hf : 100 ≤ n) (ht : LT th nw) (h : LJ th nw M X) : LVS th nw (f_X0_isMondayDone n th 40 nw) (f_X12_mondayBy n) M X := by
  unfold LT at ht
  have h' := h
  obtain ⟨hP, hR, hd, hk⟩ := h'
  have hA := SA.of hP hR
  have s5 := hA.2.2.2.2.1
  have s4 := hA.2.2.2.1
  have h2 := hA.2.2.1
  have eh : M nw 1 = X 168 5 := by
    have := hR.heads.2.1.1
    rw [blk_at (by omega)] at this
    exact this
  have ew : M nw 0 = X 168 4 := by
    have := hR.heads.1.1
    rw [blk_at (by omega)] at this
    exact this
  have c999 : jw 999 = 999 := by decide
  have j5 : jw (X 168 5) = X 168 5 := jw_of (by omega) (by omega)
  have j4 : jw (X 168 4) = X 168 4 := jw_of (by omega) (by omega)
  by_cases h3 : X 168 5 = 64
  · by_cases h1 : X 168 4 < 999
    · obtain ⟨r, M1, r1, r2, r3, r4, r5⟩ := c_fetch (n := n) (M := M) (th := nw) (p := 40) hf (by omega) hP hR
      obtain ⟨s, A', t1, t2, t3, t4⟩ := q_monday (n := n) (M := X) hf hA
      have ers : r = s := S8.ext r3 t2 fun b b8 => by rw [Bool.eq_iff_iff, r4 b b8, t3 b b8]
      rw [← ers] at t1 t4
      have in' := t4.2.2.2.2
      have e68 : jup (jrow X 168 A') 184 3 (X 184 3 + pcI r) 168 = A' := by rw [jup_cell (by omega), jrow_same]
      refine ⟨1, jup M1 (th + 1) 3 (M (th + 1) 3 + pcI r), jup (jrow X 168 A') 184 3 (X 184 3 + pcI r), ?_, ?_, Or.inr rfl, ⟨?_, ?_, ?_, fun k k5 => ?_⟩, ⟨fun c c1 c2 c3 => ?_, fun j hj => ?_⟩, ⟨fun c c1 c2 c3 => ?_, fun j hj => ?_, fun i hi => ?_, ?_⟩⟩
      · unfold f_X0_isMondayDone
        simp only [letv_ap, letm_ap, jn3]
        rw [eh, ew, if_neg (by rw [j5, jw64]; omega), if_pos (by rw [j4, c999]; exact h1), chk_pos (by decide), r1, bnd_some, q_bc r3, bnd_some, chk_pos (by decide)]
      · unfold f_X12_mondayBy f_X12_isMonday
        simp only [letv_ap, letm_ap, jn3]
        rw [chk_pos (by decide), jn5, if_pos (by rw [j5, jw64]; omega), chk_pos (by decide), jn4, if_neg (by rw [j4, c999]; omega), bnd_some, if_neg (by decide), chk_pos (by decide), t1, bnd_some, q_bits hf r3, bnd_some, chk_pos (by decide)]
      · rw [e68, blk_congr (by decide) (M := M) (a := 40) (z := 12) (fun j hj => by rw [jup_cell (by omega), r2 _ (by omega)])]
        exact hP.congr2 (fun k hk => in' k (by omega) (by omega) (by omega) (by omega)) (fun t k ht hk => in' _ (by omega) (by omega) (by omega) (by omega)) (fun b hb => ⟨in' _ (by omega) (by omega) (by omega) (by omega), in' _ (by omega) (by omega) (by omega) (by omega), in' _ (by omega) (by omega) (by omega) (by omega)⟩)
      · rw [e68, blk_congr (by decide) (M := M1) (a := nw) (z := 8) (fun j hj => by rw [jup_cell (by omega)])]
        exact r5 (by omega) A' t4
      · rw [jup_cell (by omega), r2 th (by omega), jup_cell (by omega), jrow_ne _ (by omega)]
        exact hd
      · rw [jup_if, jup_if, r2 (th + 1) (by omega), jrow_ne _ (by omega)]
        by_cases k3 : k = 3
        · rw [if_pos k3, if_pos k3, hk 3 (by omega)]
        · rw [if_neg k3, if_neg k3, hk k k5]
      · rw [jup_cell c2, r2 c c3]
      · rw [jup_cell (by omega), r2 th (by omega)]
      · rw [jup_cell c3, jrow_ne _ c2]
      · rw [jup_cell (by omega), jrow_ne _ (by omega)]
      · rw [e68]; exact in' i (by omega) (by omega) (by omega) (by omega)
      · rw [jup_if, if_neg (by omega), jrow_ne _ (by omega)]
    · refine LVS.no h (r := 0) (Or.inl rfl) ?_ ?_
      · unfold f_X0_isMondayDone
        rw [eh, ew, if_neg (by rw [j5, jw64]; omega), if_neg (by rw [j4, c999]; exact h1)]
      · unfold f_X12_mondayBy f_X12_isMonday
        rw [chk_pos (by decide), jn5, if_pos (by rw [j5, jw64]; omega), chk_pos (by decide), jn4, if_pos (by rw [j4, c999]; omega), bnd_some, if_pos (by decide)]
  · refine LVS.no h (r := 0) (Or.inl rfl) ?_ ?_
    · unfold f_X0_isMondayDone
      rw [eh, if_pos (by rw [j5, jw64]; omega)]
    · unfold f_X12_mondayBy f_X12_isMonday
      rw [chk_pos (by decide), jn5, if_neg (by rw [j5, jw64]; omega), bnd_some, if_pos (by decide)]
/-- BUY, LET, HALT turn a mark round -/
theorem lv_buy {th nw : Nat} (ht : LT th nw) (h : LJ th nw M X) {b o : Nat} (b8 : b < 8) (hb : (b : Int) < X 168 2) (o8 : o < 8) (ho : (o : Int) < X 168 1) :
    LVS th nw (fun M => bnd (f_X1_isEaten n nw (b : Int) M) fun r7 M8 => if jw r7 = 0 then (bnd (f_X1_turnTicket n nw (b : Int) (o : Int) M8) fun _ M10 => some (1, M10)) else (some (0, M8))) (f_X12_turnsBy n (b : Int) 5 (jshl 1 (o : Int))) M X := by
  unfold LT at ht
  have h' := h
  obtain ⟨hP, hR, hd, hk⟩ := h'
  have hA := SA.of hP hR
  have he := (hA.2.2.2.2.2.2 b b8 hb).2.1
  have h6 := hR.heads.2.2.2.2.2 b b8 hb
  rw [blk_at (by omega)] at h6
  have h4 : ∀ t : Nat, t < 8 → X 168 1 ≤ (t : Int) → bit (X 168 (61 + 10 * b)) t = false := by
    have q := hR
    unfold RN at q
    exact (q.2.2.2.2.2.2.2.2.1 b b8 hb).2.2
  by_cases c : X 168 (59 + 10 * b) = 1
  · refine LVS.no h (r := 0) (Or.inl rfl) ?_ ?_
    · show bnd (f_X1_isEaten n nw (b : Int) M) _ = _
      rw [q_isE hR b8 hb, bnd_some, if_pos c, if_neg (by decide)]
    · unfold f_X12_turnsBy
      rw [q_isEatenM b8 he, bnd_some, if_pos c, if_neg (by decide)]
  · have hj := jtog h6.2 o8
    refine ⟨1, jup M (nw + 1) b (jxor (X 168 (61 + 10 * b)) (jshl 1 (o : Int))), jup X 168 (61 + 10 * b) (jxor (X 168 (61 + 10 * b)) (jshl 1 (o : Int))), ?_, ?_, Or.inr rfl, ⟨?_, ?_, ?_, fun k k5 => ?_⟩, ⟨fun c c1 c2 c3 => ?_, fun j hj => ?_⟩, ⟨fun c c1 c2 c3 => ?_, fun j hj => ?_, fun i hi => ?_, ?_⟩⟩
    · show bnd (f_X1_isEaten n nw (b : Int) M) _ = _
      unfold f_X1_turnTicket
      simp only [letv_ap, letm_ap]
      rw [q_isE hR b8 hb, bnd_some, if_neg c, if_pos (by decide), chk_pos (jin_of (by omega) (by omega) (by omega)), chk_pos (jin_of (by omega) (by omega) (by omega)), bnd_some, jwb (by omega), h6.1]
    · unfold f_X12_turnsBy
      simp only [letv_ap, letm_ap]
      rw [q_isEatenM b8 he, bnd_some, if_neg c, if_pos (by decide), q_beastRow, bnd_some, chk_pos (ixj5 b8), chk_pos (ixj5 b8), ixb5 b8]
    · rw [jup_at_row, blk_jup_row (fun j hj => by omega) (by decide)]
      exact RP.congr2 hP (fun k hk => upA_ne (by omega)) (fun t k ht hk => upA_ne (by omega)) (fun b hb => ⟨upA_ne (by omega), upA_ne (by omega), upA_ne (by omega)⟩)
    · rw [jup_at_row]
      refine hR.ticket b8 (fun j k hj hjk => blk_jup hj (fun q => hjk ⟨by omega, q.2⟩)) ?_ ⟨hj.1, fun o' o8' hl => ?_⟩
      · rw [blk_at (by omega), jup_if, if_pos rfl]
      · rw [hj.2 o' o8', h4 o' o8' hl, decide_eq_false (show ¬ o' = o by omega)]; rfl
    · rw [jup_cell (by omega), jup_cell (by omega)]; exact hd
    · rw [jup_cell (by omega), jup_cell (by omega)]; exact hk k k5
    · rw [jup_cell (by omega)]
    · rw [jup_cell (by omega)]
    · rw [jup_cell (by omega)]
    · rw [jup_cell (by omega)]
    · rw [jup_if, if_neg (by omega)]
    · rw [jup_cell (by omega)]
theorem jx01 : jxor 0 1 = 1 ∧ jxor 1 1 = 0 := by decide +kernel
theorem lv_let {th nw : Nat} (ht : LT th nw) (h : LJ th nw M X) {b : Nat} (b8 : b < 8) (hb : (b : Int) < X 168 2) :
    LVS th nw (fun M => bnd (f_X1_isEaten n nw (b : Int) M) fun r11 M12 => if jw r11 = 0 then (bnd (f_X1_turnOut n nw (b : Int) M12) fun _ M14 => some (1, M14)) else (some (0, M12))) (f_X12_turnsBy n (b : Int) 2 1) M X := by
  unfold LT at ht
  have h' := h
  obtain ⟨hP, hR, hd, hk⟩ := h'
  have hA := SA.of hP hR
  have he := (hA.2.2.2.2.2.2 b b8 hb).2.1
  have ho := (hA.2.2.2.2.2.2 b b8 hb).1
  have h6 := hR.heads.2.2.1
  have hj := jtog h6.1 b8
  have hi := h6.2 b b8
  rw [blk_at (by omega), Nat.add_zero] at h6 hj hi
  by_cases c : X 168 (59 + 10 * b) = 1
  · refine LVS.no h (r := 0) (Or.inl rfl) ?_ ?_
    · show bnd (f_X1_isEaten n nw (b : Int) M) _ = _
      rw [q_isE hR b8 hb, bnd_some, if_pos c, if_neg (by decide)]
    · unfold f_X12_turnsBy
      rw [q_isEatenM b8 he, bnd_some, if_pos c, if_neg (by decide)]
  · refine ⟨1, jup M nw 2 (jxor (M nw 2) (jshl 1 (b : Int))), jup X 168 (58 + 10 * b) (jxor (X 168 (58 + 10 * b)) 1), ?_, ?_, Or.inr rfl, ⟨?_, ?_, ?_, fun k k5 => ?_⟩, ⟨fun c c1 c2 c3 => ?_, fun j hj => ?_⟩, ⟨fun c c1 c2 c3 => ?_, fun j hj => ?_, fun i hi => ?_, ?_⟩⟩
    · show bnd (f_X1_isEaten n nw (b : Int) M) _ = _
      unfold f_X1_turnOut
      simp only [letv_ap, letm_ap]
      rw [q_isE hR b8 hb, bnd_some, if_neg c, if_pos (by decide), bnd_some]
    · unfold f_X12_turnsBy
      simp only [letv_ap, letm_ap]
      rw [q_isEatenM b8 he, bnd_some, if_neg c, if_pos (by decide), q_beastRow, bnd_some, chk_pos (ixj2 b8), chk_pos (ixj2 b8), ixb2 b8]
    · rw [jup_at_row, blk_jup_row (fun j hj => by omega) (by decide)]
      exact RP.congr2 hP (fun k hk => upA_ne (by omega)) (fun t k ht hk => upA_ne (by omega)) (fun b hb => ⟨upA_ne (by omega), upA_ne (by omega), upA_ne (by omega)⟩)
    · rw [jup_at_row]
      refine hR.out b8 hb (fun j k hj hjk => blk_jup hj (fun q => hjk ⟨by omega, q.2⟩)) (x := jxor (M nw 2) (jshl 1 (b : Int))) ?_ ?_ ?_
      · rw [blk_at (by omega), Nat.add_zero, jup_if, if_pos rfl]
      · rw [blk_at (by omega), Nat.add_zero]; exact hj
      · rw [blk_at (by omega), Nat.add_zero]
        rcases ho with o | o
        · refine Or.inr ⟨?_, by rw [o]; exact jx01.1⟩
          have := mt hi.1 (fun q => by omega)
          simpa using this
        · exact Or.inl ⟨hi.2 ⟨hb, o⟩, by rw [o]; exact jx01.2⟩
    · rw [jup_cell (by omega), jup_cell (by omega)]; exact hd
    · rw [jup_cell (by omega), jup_cell (by omega)]; exact hk k k5
    · rw [jup_cell (by omega)]
    · rw [jup_cell (by omega)]
    · rw [jup_cell (by omega)]
    · rw [jup_cell (by omega)]
    · rw [jup_if, if_neg (by omega)]
    · rw [jup_cell (by omega)]
theorem ixt5 {t : Nat} (t8 : t < 8) : (jw (8 + 6 * (t : Int) + 5)).toNat = 13 + 6 * t := by
  rw [jw_of (by omega) (by omega)]; omega
theorem ixk5 {t : Nat} (t8 : t < 8) : jin (8 + 6 * (t : Int) + 5) 3160 := jin_of (by omega) (by omega) (by omega)
theorem lv_halt {th nw : Nat} (ht : LT th nw) (h : LJ th nw M X) {t : Nat} (t8 : t < 8) (htt : (t : Int) < X 168 1) :
    LVS th nw (fun M => bnd (f_X1_turnHalt n nw (t : Int) M) fun _ M16 => some (1, M16)) (f_X12_haltsBy n (t : Int)) M X := by
  unfold LT at ht
  have h' := h
  obtain ⟨hP, hR, hd, hk⟩ := h'
  have hA := SA.of hP hR
  have ho := (hA.2.2.2.2.2.1 t t8 htt).2.2.2.2.2
  have h6 := hR.heads.2.2.2.2.1
  have hj := jtog h6.1 t8
  have hi := h6.2 t t8
  rw [blk_at (by omega), Nat.add_zero] at h6 hj hi
  refine ⟨1, jup M nw 4 (jxor (M nw 4) (jshl 1 (t : Int))), jup X 168 (13 + 6 * t) (jxor (X 168 (13 + 6 * t)) 1), ?_, ?_, Or.inr rfl, ⟨?_, ?_, ?_, fun k k5 => ?_⟩, ⟨fun c c1 c2 c3 => ?_, fun j hj => ?_⟩, ⟨fun c c1 c2 c3 => ?_, fun j hj => ?_, fun i hi => ?_, ?_⟩⟩
  · show bnd (f_X1_turnHalt n nw (t : Int) M) _ = _
    unfold f_X1_turnHalt
    simp only [letv_ap, letm_ap]
    rw [bnd_some]
  · unfold f_X12_haltsBy
    simp only [letv_ap, letm_ap]
    rw [q_trainRow, bnd_some, chk_pos (ixk5 t8), chk_pos (ixk5 t8), ixt5 t8]
  · rw [jup_at_row, blk_jup_row (fun j hj => by omega) (by decide)]
    exact RP.congr2 hP (fun k hk => upA_ne (by omega)) (fun t k ht hk => upA_ne (by omega)) (fun b hb => ⟨upA_ne (by omega), upA_ne (by omega), upA_ne (by omega)⟩)
  · rw [jup_at_row]
    refine hR.halt t8 htt (fun j k hj hjk => blk_jup hj (fun q => hjk ⟨by omega, q.2⟩)) (x := jxor (M nw 4) (jshl 1 (t : Int))) ?_ ?_ ?_
    · rw [blk_at (by omega), Nat.add_zero, jup_if, if_pos rfl]
    · rw [blk_at (by omega), Nat.add_zero]; exact hj
    · rw [blk_at (by omega), Nat.add_zero]
      rcases ho with o | o
      · refine Or.inr ⟨?_, by rw [o]; exact jx01.1⟩
        have := mt hi.1 (fun q => by omega)
        simpa using this
      · exact Or.inl ⟨hi.2 ⟨htt, o⟩, by rw [o]; exact jx01.2⟩
  · rw [jup_cell (by omega), jup_cell (by omega)]; exact hd
  · rw [jup_cell (by omega), jup_cell (by omega)]; exact hk k k5
  · rw [jup_cell (by omega)]
  · rw [jup_cell (by omega)]
  · rw [jup_cell (by omega)]
  · rw [jup_cell (by omega)]
  · rw [jup_if, if_neg (by omega)]
  · rw [jup_cell (by omega)]
end PLIFE

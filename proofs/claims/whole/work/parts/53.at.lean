section PAT
variable {n : Nat} {M : JMem}
/-- where a beast is, as the reference has it -/
def wh (A : Nat → Int) (b : Nat) : Int := if A (59 + 10 * b) = 1 then -1 else A (63 + 10 * b)
theorem q_beastsAt_L {w : Int} (hw : I32 w) (hn : 0 ≤ M 168 2 ∧ M 168 2 ≤ 8) (h01 : ∀ b : Nat, b < 8 → (b : Int) < M 168 2 → (M 168 (59 + 10 * b) = 0 ∨ M 168 (59 + 10 * b) = 1) ∧ I32 (wh (M 168) b)) :
    ∀ (d i k : Nat) (v : Int), i + d = (M 168 2).toNat → d < k → S8 v → ∃ r, f_X12_beastsAt_L4 n k w v (i : Int) M = some (r, M) ∧ S8 r ∧ ∀ b : Nat, b < 8 → (bit r b = true ↔ bit v b = true ∨ (i ≤ b ∧ (b : Int) < M 168 2 ∧ wh (M 168) b = w)) := by
  intro d
  induction d with
  | zero =>
    intro i k v hi hk hv
    obtain ⟨k, rfl⟩ : ∃ k', k = k' + 1 := ⟨k - 1, by omega⟩
    refine ⟨v, ?_, hv, fun b hb => ⟨Or.inl, fun h => h.elim id (fun h => by omega)⟩⟩
    rw [f_X12_beastsAt_L4, chk_pos (by decide), show (jw 2).toNat = 2 by decide, jw_of (by omega) (by omega), jw_of (by omega) (by omega), if_pos (by omega)]
  | succ d ih =>
    intro i k v hi hk hv
    obtain ⟨k, rfl⟩ : ∃ k', k = k' + 1 := ⟨k - 1, by omega⟩
    have hi8 : i < 8 := by omega
    have hl : (i : Int) < M 168 2 := by omega
    obtain ⟨g1, g2⟩ := h01 i hi8 hl
    rw [f_X12_beastsAt_L4, chk_pos (by decide), show (jw 2).toNat = 2 by decide, jw_of (by omega) (by omega), jw_of (by omega) (by omega), if_neg (by omega), q_whereOf hi8 g1, bnd_some]
    have hs := jset hv hi8
    have h0 := jorS hv S8_0
    have e : jw (if M 168 (59 + 10 * i) = 1 then (-1 : Int) else M 168 (63 + 10 * i)) = wh (M 168) i := jwI g2
    rw [e, jwI hw]
    by_cases h : wh (M 168) i = w
    · rw [if_pos h]
      obtain ⟨r, h1, h2, h3⟩ := ih (i + 1) k (jor v (jshl 1 (i : Int))) (by omega) (by omega) hs.1
      refine ⟨r, ?_, h2, fun b hb => ?_⟩
      · unfold f_X12_beastsAt_L31 letv
        exact h1
      · rw [h3 b hb, hs.2 b hb, Bool.or_eq_true, decide_eq_true_eq]
        constructor
        · rintro ((q | q) | ⟨q1, q2, q3⟩)
          · exact Or.inl q
          · subst q; exact Or.inr ⟨Nat.le_refl _, hl, h⟩
          · exact Or.inr ⟨by omega, q2, q3⟩
        · rintro (q | ⟨q1, q2, q3⟩)
          · exact Or.inl (Or.inl q)
          · by_cases e : b = i
            · exact Or.inl (Or.inr e)
            · exact Or.inr ⟨by omega, q2, q3⟩
    · rw [if_neg h]
      obtain ⟨r, h1, h2, h3⟩ := ih (i + 1) k (jor v 0) (by omega) (by omega) h0.1
      refine ⟨r, ?_, h2, fun b hb => ?_⟩
      · unfold f_X12_beastsAt_L31 letv
        exact h1
      · rw [h3 b hb, h0.2 b, bit0, Bool.or_false]
        constructor
        · rintro (q | ⟨q1, q2, q3⟩)
          · exact Or.inl q
          · exact Or.inr ⟨by omega, q2, q3⟩
        · rintro (q | ⟨q1, q2, q3⟩)
          · exact Or.inl q
          · by_cases e : b = i
            · subst e; exact absurd q3 h
            · exact Or.inr ⟨by omega, q2, q3⟩
theorem q_beastsAt {w : Int} (hf : 100 ≤ n) (hw : I32 w) (hn : 0 ≤ M 168 2 ∧ M 168 2 ≤ 8) (h01 : ∀ b : Nat, b < 8 → (b : Int) < M 168 2 → (M 168 (59 + 10 * b) = 0 ∨ M 168 (59 + 10 * b) = 1) ∧ I32 (wh (M 168) b)) : ∃ r, f_X12_beastsAt n w M = some (r, M) ∧ S8 r ∧ ∀ b : Nat, b < 8 → (bit r b = true ↔ (b : Int) < M 168 2 ∧ wh (M 168) b = w) := by
  obtain ⟨r, h1, h2, h3⟩ := q_beastsAt_L (n := n) hw hn h01 (M 168 2).toNat 0 n 0 (by omega) (by omega) S8_0
  refine ⟨r, h1, h2, fun b hb => ?_⟩
  rw [h3 b hb, bit0]
  simp
/-- what the relation tells of where all are -/
theorem JR.wh_of (h : JR M) {b : Nat} (b8 : b < 8) (hb : (b : Int) < M 168 2) : (M 168 (59 + 10 * b) = 0 ∨ M 168 (59 + 10 * b) = 1) ∧ I32 (wh (M 168) b) := by
  have np := h.np
  have nt := h.nt
  have g := (h.eat b8 hb).2.1
  have hn := h.cur.2.1
  unfold RN at hn
  have q15 := hn.2.2.2.2.2.2.2.2.2.2.2.2.2.2.2.1 b b8 hb
  refine ⟨g, ?_⟩
  unfold wh
  rcases g with g | g
  · rw [if_neg (by omega)]
    have := q15 (by omega)
    constructor <;> omega
  · rw [if_pos g]
    constructor <;> omega
theorem JR.atP (h : JR M) (hf : 100 ≤ n) {p : Nat} (p6 : p < 6) (M' : JMem) (e : M' 168 = M 168) : f_X12_beastsAt n (p : Int) M' = some (M 55 p, M') ∧ S8 (M 55 p) := by
  have nb := h.nb
  obtain ⟨r, h1, h2, h3⟩ := q_beastsAt (n := n) (M := M') (w := (p : Int)) hf ⟨by omega, by omega⟩ (by rw [e]; exact nb.2) (fun b b8 hb => by rw [e] at hb ⊢; exact h.wh_of b8 hb)
  have hn := h.cur.2.1
  unfold RN at hn
  obtain ⟨q1, q2⟩ : S8 (M 55 p) ∧ ∀ b : Nat, b < 8 → (bit (M 55 p) b = true ↔ (b : Int) < M 168 2 ∧ ¬ M 168 (59 + 10 * b) = 1 ∧ M 168 (63 + 10 * b) = p) := hn.2.2.2.2.2.2.2.2.2.2.2.2.2.1 p p6
  have er : r = M 55 p := S8.ext h2 q1 fun b b8 => by
    rw [Bool.eq_iff_iff, h3 b b8, q2 b b8, e]
    unfold wh
    constructor
    · rintro ⟨a1, a2⟩
      by_cases c : M 168 (59 + 10 * b) = 1
      · rw [if_pos c] at a2; omega
      · rw [if_neg c] at a2; exact ⟨a1, c, a2⟩
    · rintro ⟨a1, a2, a3⟩
      rw [if_neg a2]; exact ⟨a1, a3⟩
  rw [h1, er]
  exact ⟨rfl, q1⟩
theorem JR.atT (h : JR M) (hf : 100 ≤ n) {p : Nat} (p6 : p < 8) (M' : JMem) (e : M' 168 = M 168) : f_X12_beastsAt n (10 + (p : Int)) M' = some (M 56 p, M') ∧ S8 (M 56 p) := by
  have nb := h.nb
  obtain ⟨r, h1, h2, h3⟩ := q_beastsAt (n := n) (M := M') (w := 10 + (p : Int)) hf ⟨by omega, by omega⟩ (by rw [e]; exact nb.2) (fun b b8 hb => by rw [e] at hb ⊢; exact h.wh_of b8 hb)
  have hn := h.cur.2.1
  unfold RN at hn
  obtain ⟨q1, q2⟩ : S8 (M 56 p) ∧ ∀ b : Nat, b < 8 → (bit (M 56 p) b = true ↔ (b : Int) < M 168 2 ∧ ¬ M 168 (59 + 10 * b) = 1 ∧ M 168 (63 + 10 * b) = 10 + p) := hn.2.2.2.2.2.2.2.2.2.2.2.2.2.2.1 p p6
  have er : r = M 56 p := S8.ext h2 q1 fun b b8 => by
    rw [Bool.eq_iff_iff, h3 b b8, q2 b b8, e]
    unfold wh
    constructor
    · rintro ⟨a1, a2⟩
      by_cases c : M 168 (59 + 10 * b) = 1
      · rw [if_pos c] at a2; omega
      · rw [if_neg c] at a2; exact ⟨a1, c, a2⟩
    · rintro ⟨a1, a2, a3⟩
      rw [if_neg a2]; exact ⟨a1, a3⟩
  rw [h1, er]
  exact ⟨rfl, q1⟩
theorem RN.shift {N : JV} {A : Nat → Int} {c : Nat} {x : Int} (h : RN N A) (c8 : c < 8) (h0 : N 4 c = 0) : RN N (upA A (10 + 6 * c) x) := by
  have ea : ∀ k : Nat, k ≠ 10 + 6 * c → upA A (10 + 6 * c) x k = A k := fun k hk => upA_ne hk
  unfold RN at h ⊢
  obtain ⟨q0, q1, ⟨a2, q2⟩, q3, ⟨a4, q4⟩, q5, ⟨a6, q6⟩, q7, q8, q9, q10, q11, q12, q13, q14, q15, q16⟩ := h
  rw [ea 0 (by omega), ea 1 (by omega), ea 2 (by omega), ea 4 (by omega), ea 5 (by omega), ea 6 (by omega)]
  refine ⟨q0, q1, ⟨a2, fun b b8 => ?_⟩, fun b b8 => ?_, ⟨a4, fun b b8 => ?_⟩, fun b b8 => ?_, ⟨a6, fun t t8 => ?_⟩, fun t t8 => ?_, fun b b8 => ?_, fun b b8 => ?_, q10, q11, q12, fun p p6 => ⟨(q13 p p6).1, fun b b8 => ?_⟩, fun t t8 => ⟨(q14 t t8).1, fun b b8 => ?_⟩, fun b b8 => ?_, fun t t8 b b8 => ?_⟩
  · rw [ea _ (by omega)]; exact q2 b b8
  · rw [ea _ (by omega)]; exact q3 b b8
  · rw [ea _ (by omega)]; exact q4 b b8
  · rw [ea _ (by omega)]; exact q5 b b8
  · rw [ea _ (by omega)]; exact q6 t t8
  · rw [ea _ (by omega)]; exact q7 t t8
  · rw [ea _ (by omega)]; exact q8 b b8
  · rw [ea _ (by omega)]; exact q9 b b8
  · rw [ea (59 + 10 * b) (by omega), ea (63 + 10 * b) (by omega)]; exact (q13 p p6).2 b b8
  · rw [ea (59 + 10 * b) (by omega), ea (63 + 10 * b) (by omega)]; exact (q14 t t8).2 b b8
  · rw [ea (59 + 10 * b) (by omega), ea (63 + 10 * b) (by omega)]; exact q15 b b8
  · rw [ea (64 + 10 * b) (by omega), ea (11 + 6 * t) (by omega)]
    by_cases e : t = c
    · subst e
      rw [h0, bit0]
      exact fun q => absurd q (by decide)
    · rw [ea (10 + 6 * t) (by omega)]; exact q16 t t8 b b8
theorem p_shift (hf : 100 ≤ n) : jO_shift JR n := by
  intro x1 x2 hx1 hx2 M h
  have nb := h.nt
  have e2 := jwI hx2
  have c64 : jw 64 = 64 := by decide
  have hF : ∀ M', f_X12_isFrom n (jw x2) 0 63 M' = some (if 0 ≤ x2 ∧ x2 ≤ 63 then 1 else 0, M') := fun M' => by
    rw [e2]; exact q_isFrom ⟨by have := hx2.1; omega, by have := hx2.2; omega⟩ (by omega) (by omega)
  by_cases h1 : 0 ≤ x1 ∧ x1 < M 168 1
  · by_cases h2 : 0 ≤ x2 ∧ x2 ≤ 63
    · obtain ⟨b, b8, rfl⟩ := natOf (x := x1) (k := 8) (by omega) (by omega)
      have s8 := (h.atT (n := n) hf b8 M rfl).2
      by_cases h3 : M 56 b = 0
      · refine ⟨1, jup (jup M 46 b x2) 0 0 0, 1, jup (jup (jup (jup M 46 b x2) 0 0 0) 168 (10 + 6 * b) x2) 167 2 0, ?_, ?_, rfl, h.set (Or.inr (by omega)) (by omega) (by omega) ?_ ?_⟩
        · unfold f_X11_shift
          rw [h.isT hx1, bnd_some, if_pos h1, if_neg (by decide), if_neg (by omega), if_pos (by omega), chk_pos (jin_of (by omega) (by omega) (by omega)), jwb (by omega), show M (52 + 4) b = 0 from h3, if_pos (by decide), chk_pos (jin_of (by omega) (by omega) (by omega))]
          rfl
        · unfold f_X12_shift
          rw [h.isTM hx1 (jup (jup M 46 b x2) 0 0 0) rfl, bnd_some, if_pos h1, if_neg (by decide), hF, bnd_some, if_pos h2, if_neg (by decide), (h.atT (n := n) hf b8 (jup (jup M 46 b x2) 0 0 0) rfl).1, bnd_some, h3, if_pos (by decide), q_trainRow, bnd_some, chk_pos (jin_of (by omega) (by omega) (by omega)), jwn (by omega) (by omega), show ((8 + 6 * (b : Int) + 2).toNat) = 10 + 6 * b by omega]
          rfl
        · refine h.cur.1.shift b8 (fun j k hj hjk => blk_jup hj (fun q => hjk ⟨by omega, q.2⟩)) ?_ h2
          show jup M 46 b x2 46 b = x2
          rw [jup_at, if_pos ⟨rfl, rfl⟩]
        · rw [blk_jup_row (fun j hj => by omega) (by decide)]
          exact h.cur.2.1.shift b8 h3
      · refine Pr.end (r := 0) (s := 0) (x := 7) (y := 7) h ?_ ?_ rfl rfl
        · unfold f_X11_shift
          rw [h.isT hx1, bnd_some, if_pos h1, if_neg (by decide), if_neg (by omega), if_pos (by omega), chk_pos (jin_of (by omega) (by omega) (by omega)), jwb (by omega), show jw (M (52 + 4) b) = M 56 b from s8.jw, if_neg h3]
          rfl
        · unfold f_X12_shift
          rw [h.isTM hx1 (jup M 0 0 7) rfl, bnd_some, if_pos h1, if_neg (by decide), hF, bnd_some, if_pos h2, if_neg (by decide), (h.atT (n := n) hf b8 (jup M 0 0 7) rfl).1, bnd_some, s8.jw, if_neg h3]
          rfl
    · refine Pr.end (r := 0) (s := 0) (x := 1) (y := 1) h ?_ ?_ rfl rfl
      · unfold f_X11_shift f_X11_shift_L18
        rw [h.isT hx1, bnd_some, if_pos h1, if_neg (by decide)]
        by_cases h3 : jw x2 < 0
        · rw [if_pos h3]; rfl
        · rw [if_neg h3, if_neg (by omega)]; rfl
      · unfold f_X12_shift f_X12_shift_L20
        rw [h.isTM hx1 (jup M 0 0 1) rfl, bnd_some, if_pos h1, if_neg (by decide), hF, bnd_some, if_neg h2, if_pos (by decide)]
        rfl
  · refine Pr.end (r := 0) (s := 0) (x := 1) (y := 1) h ?_ ?_ rfl rfl
    · unfold f_X11_shift f_X11_shift_L18
      rw [h.isT hx1, bnd_some, if_neg h1, if_pos (by decide)]; rfl
    · unfold f_X12_shift f_X12_shift_L20
      rw [h.isTM hx1 (jup M 0 0 1) rfl, bnd_some, if_neg h1, if_pos (by decide)]; rfl
end PAT

section PEASY
variable {n : Nat} {M : JMem}
theorem jcmp_sign {x y : Int} : (jw (jcmp x y) < 0 ↔ jwl x < jwl y) ∧ (0 < jw (jcmp x y) ↔ jwl y < jwl x) ∧ (jw (jcmp x y) = 0 ↔ jwl x = jwl y) := by
  unfold jcmp lg_cmp
  have e1 := jw_l x
  have e2 := jw_l y
  have h1 : Int64.ofInt x > Int64.ofInt y ↔ jwl y < jwl x := by rw [gt_iff_lt, Int64.lt_iff_toInt_lt, e1, e2]
  have h2 : Int64.ofInt x = Int64.ofInt y ↔ jwl x = jwl y := by rw [← Int64.toInt_inj, e1, e2]
  repeat' split
  · rename_i h
    rw [show jw (Int32.toInt 1) = 1 by decide]
    have := h1.1 h
    omega
  · rename_i h g
    rw [show jw (Int32.toInt 0) = 0 by decide]
    have := h2.1 g
    omega
  · rename_i h g
    rw [show jw (Int32.toInt (-1)) = -1 by decide]
    have := mt h1.2 h
    have := mt h2.2 g
    omega
/-- a range, of numbers that are ints -/
theorem q_isFrom {x lo hi : Int} (h0 : -9223372036854775808 ≤ x ∧ x < 9223372036854775808) (h1 : -9223372036854775808 ≤ lo ∧ lo < 9223372036854775808) (h2 : -9223372036854775808 ≤ hi ∧ hi < 9223372036854775808) : f_X12_isFrom n x lo hi M = some (if lo ≤ x ∧ x ≤ hi then 1 else 0, M) := by
  unfold f_X12_isFrom
  have a1 := (@jcmp_sign x lo).1
  have a2 := (@jcmp_sign x hi).2.1
  rw [jwl_of h0.1 h0.2, jwl_of h1.1 h1.2] at a1
  rw [jwl_of h0.1 h0.2, jwl_of h2.1 h2.2] at a2
  by_cases c1 : x < lo
  · rw [if_pos (a1.2 c1), if_neg (by omega)]
  · by_cases c2 : hi < x
    · rw [if_neg (fun h => c1 (a1.1 h)), if_pos (a2.2 c2), if_neg (by omega)]
    · rw [if_neg (fun h => c1 (a1.1 h)), if_neg (fun h => c2 (a2.1 h)), if_pos (by omega)]
/-- the park that is now -/
theorem slot0 : slot M 0 = M 168 := by
  funext k
  unfold slot
  rw [Nat.zero_add]
theorem JR.cur (h : JR M) : RP (blk M 40 12) (M 168) ∧ RN (blk M 52 8) (M 168) ∧ RK (blk M 40 12) (M 169) ∧ RW (M 40 2) (M 40 1) (M 40 0) (blk M 60 5) (M 168) := by
  have h1 := h.2.2.2.2.1
  unfold Rpark at h1
  rw [slot0, show (fun k => M 169 (0 + k)) = M 169 from funext fun k => by rw [Nat.zero_add]] at h1
  exact h1
theorem JR.of (h1 : Rsta M) (h2 : Rtra (M 7) (M 8) (M 170) (M 171) (M 172) (jwt M)) (h3 : Rtxt (M 9) (M 10) (M 11) (M 167) (M 173)) (h4 : Rliv (M 86) (M 87) (M 167 37) (M 185)) (p1 : RP (blk M 40 12) (M 168)) (p2 : RN (blk M 52 8) (M 168)) (p3 : RK (blk M 40 12) (M 169)) (p4 : RW (M 40 2) (M 40 1) (M 40 0) (blk M 60 5) (M 168)) (h6 : Rmrk M) : JR M := by
  refine ⟨h1, h2, h3, h4, ?_, h6⟩
  unfold Rpark
  rw [slot0, show (fun k => M 169 (0 + k)) = M 169 from funext fun k => by rw [Nat.zero_add]]
  exact ⟨p1, p2, p3, p4⟩
theorem JR.np (h : JR M) : M 40 0 = M 168 0 ∧ 0 ≤ M 168 0 ∧ M 168 0 ≤ 6 := h.cur.1.1
theorem JR.nt (h : JR M) : M 40 1 = M 168 1 ∧ 0 ≤ M 168 1 ∧ M 168 1 ≤ 8 := h.cur.1.2.1
theorem JR.nb (h : JR M) : M 40 2 = M 168 2 ∧ 0 ≤ M 168 2 ∧ M 168 2 ≤ 8 := h.cur.1.2.2.1
theorem JR.odds (h : JR M) : M 40 3 = M 168 3 ∧ 0 ≤ M 168 3 ∧ M 168 3 ≤ 16 := h.cur.1.2.2.2.1
/-! the operations that only tell -/
theorem p_status : jO_status JR n := fun M h => ⟨_, _, _, _, rfl, rfl, h.1.1, h⟩
theorem p_top : jO_top JR n := fun M h => ⟨_, _, _, _, rfl, rfl, jcmp_sign.2.2.2 h.1.2.1, h⟩
theorem p_bottom : jO_bottom JR n := fun M h => ⟨_, _, _, _, rfl, rfl, jcmp_sign.2.2.2 h.1.2.2, h⟩
theorem p_fault : jO_fault JR n := by
  intro x1 hx M h
  unfold f_X11_fault f_X12_fault
  by_cases h0 : jw x1 = 0
  · rw [if_pos h0]
    refine ⟨_, _, _, _, rfl, by rw [if_pos h0], ?_, h⟩
    rw [h.2.2.1.2.2.1]
  · rw [if_neg h0]
    by_cases h1 : jw x1 = jw 1
    · rw [if_pos h1]
      refine ⟨_, _, _, _, rfl, by rw [if_neg h0, if_pos h1], ?_, h⟩
      rw [h.2.2.1.2.2.2.1]
    · rw [if_neg h1]
      exact ⟨_, _, _, _, rfl, by rw [if_neg h0, if_neg h1], rfl, h⟩
/-- both refuse, both answer -/
theorem Pr.end {f g : JMem → Option (Int × JMem)} {r s x y : Int} (h : JR M) (hf : f M = some (r, jup M 0 0 x)) (hg : g (jup M 0 0 x) = some (s, jup (jup M 0 0 x) 167 2 y)) (hxy : jw x = jw y) (hrs : jw r = jw s) : ∃ r M1 s M2, f M = some (r, M1) ∧ g M1 = some (s, M2) ∧ jw r = jw s ∧ JR M2 := ⟨r, _, s, _, hf, hg, hrs, jup_status h x y hxy⟩
theorem p_lived : jO_lived JR n := by
  intro x1 hx M h
  have e := jwI hx
  have hl := h.2.2.2.1
  have c5 : jw 5 = 5 := by decide
  have c4 : jw 4 = 4 := by decide
  have cm : jw (-1) = -1 := by decide
  by_cases h1 : x1 < 0
  · refine Pr.end (r := -1) (s := -1) (x := 1) (y := 1) h ?_ ?_ rfl rfl
    · unfold f_X11_lived f_X11_lived_L9; rw [if_pos (by omega)]; rfl
    · unfold f_X12_lived f_X12_lived_L9; rw [if_pos (by omega)]; rfl
  · by_cases h2 : x1 < 5
    · rcases hl with ⟨l1, l2⟩ | ⟨l0, l1, l2, l3⟩
      · have e1 : jw (M 86 0) = -1 := by rw [l1]; decide
        have e2 : jw (jup M 0 0 6 167 37) = 0 := by rw [show jup M 0 0 6 167 37 = M 167 37 from rfl, l2]; decide
        refine Pr.end (r := -1) (s := -1) (x := 6) (y := 6) h ?_ ?_ rfl rfl
        · unfold f_X11_lived; rw [if_neg (by omega), if_pos (by omega), if_pos (by omega)]; rfl
        · unfold f_X12_lived; rw [if_neg (by omega), if_pos (by omega), if_pos e2]; rfl
      · have e1 : jw (M 86 0) = M 86 0 := jw_of (by omega) (by omega)
        have e2 : jw (jup M 0 0 0 167 37) = 1 := by rw [show jup M 0 0 0 167 37 = M 167 37 from rfl, l2]; decide
        have e3 : jin x1 5 := jin_of (by omega) (by omega) (by omega)
        have e4 : M 87 (jw x1).toNat = M 185 (jw x1).toNat := l3 _ (by omega)
        refine Pr.end (r := M 87 (jw x1).toNat) (s := M 87 (jw x1).toNat) (x := 0) (y := 0) h ?_ ?_ rfl rfl
        · unfold f_X11_lived; rw [if_neg (by omega), if_pos (by omega), if_neg (by omega), chk_pos e3]; rfl
        · unfold f_X12_lived; rw [if_neg (by omega), if_pos (by omega), if_neg (by omega), chk_pos e3, show jup M 0 0 0 185 (jw x1).toNat = M 185 (jw x1).toNat from rfl, ← e4]; rfl
    · refine Pr.end (r := -1) (s := -1) (x := 1) (y := 1) h ?_ ?_ rfl rfl
      · unfold f_X11_lived f_X11_lived_L9; rw [if_neg (by omega), if_neg (by omega)]; rfl
      · unfold f_X12_lived f_X12_lived_L9; rw [if_neg (by omega), if_neg (by omega)]; rfl
end PEASY

section PWRITE
variable {n : Nat} {M : JMem}
/-- a number as a sort of tray keeps it -/
def shr (s x : Int) : Int := if s = 0 then jw (jw8 x) else if s = 1 then jw (jw16 x) else if s = 2 then jw x else x
theorem q_put {t k : Nat} {x : Int} (t4 : t < 4) (k60 : k < 60) (hs : 0 ≤ M 7 t ∧ M 7 t ≤ 3) : f_X7_put n (t : Int) (k : Int) x M = some (0, jup M (3 + t) k (shr (M 7 t) x)) := by
  unfold f_X7_put shr
  have hj : jin (t : Int) 4 := jin_of (by omega) (by omega) (by omega)
  have hk : jin (k : Int) 60 := jin_of (by omega) (by omega) (by omega)
  have e : jw (M 7 t) = M 7 t := jw_of (by omega) (by omega)
  rw [chk_pos hj, jwb (show t < 2147483648 by omega), e, jwb (show k < 2147483648 by omega), jRn2 t t4, chk_pos hj, chk_pos hk]
  by_cases c0 : M 7 t = 0
  · rw [if_pos c0, if_pos c0]; rfl
  · rw [if_neg c0, if_neg c0]
    by_cases c1 : M 7 t = 1
    · rw [if_pos c1, if_pos c1, chk_pos hj, chk_pos hk]; rfl
    · rw [if_neg c1, if_neg c1]
      by_cases c2 : M 7 t = 2
      · rw [if_pos c2, if_pos c2, chk_pos hj, chk_pos hk]; rfl
      · rw [if_neg c2, if_neg c2, chk_pos hj, chk_pos hk]; rfl
theorem q_shrunk {s x : Int} (hs : 0 ≤ s ∧ s ≤ 3) : f_X12_shrunk n x s M = some (shr s x, M) := by
  unfold f_X12_shrunk shr
  have e : jw s = s := jw_of (by omega) (by omega)
  rw [e, show jw 1 = 1 by decide, show jw 2 = 2 by decide]
  by_cases c0 : s = 0
  · rw [if_pos c0, if_pos c0]
  · rw [if_neg c0, if_neg c0]
    by_cases c1 : s = 1
    · rw [if_pos c1, if_pos c1]
    · rw [if_neg c1, if_neg c1]
      by_cases c2 : s = 2
      · rw [if_pos c2, if_pos c2]
      · rw [if_neg c2, if_neg c2]
/-- nothing is wrong: which tray, which place -/
theorem JR.wp0 (h : JR M) {x1 x2 : Int} (h0 : wp M x1 x2 = 0) : ∃ t k : Nat, t < 4 ∧ k < 60 ∧ x1 = t ∧ x2 = k ∧ 0 ≤ M 7 t ∧ M 7 t ≤ 3 ∧ M 170 t = M 7 t ∧ M 171 t = M 8 t ∧ (k : Int) < M 8 t := by
  have h1 : 0 ≤ x1 ∧ x1 < 4 := by
    by_cases c : 0 ≤ x1 ∧ x1 < 4
    · exact c
    · unfold wp at h0; rw [if_neg c] at h0; omega
  obtain ⟨t, t4, ht⟩ := natOf (x := x1) (k := 4) (by omega) (by omega)
  have h2 : M 171 t ≠ -1 ∧ 0 ≤ x2 ∧ x2 < M 171 t := by
    unfold wp at h0
    rw [if_pos h1, ht, show (t : Int).toNat = t from rfl] at h0
    by_cases c : M 171 t = -1
    · rw [if_pos c] at h0; omega
    · rw [if_neg c] at h0
      by_cases d : 0 ≤ x2 ∧ x2 < M 171 t
      · exact ⟨c, d⟩
      · rw [if_neg d] at h0; omega
  obtain ⟨g1, g2, g3, g4, g5, g6, -⟩ := (h.tr t4).resolve_left (fun q => h2.1 q.2)
  obtain ⟨k, k60, hk⟩ := natOf (x := x2) (k := 60) (by omega) (by omega)
  exact ⟨t, k, t4, k60, ht, hk, g1, g2, g3, g6, by omega⟩
theorem p_write : jO_write JR n := by
  intro x1 x2 x3 hx1 hx2 M h
  have hw := @wp_range M x1 x2
  have ew : jw (wp M x1 x2) = wp M x1 x2 := jw_of (by omega) (by omega)
  by_cases h0 : wp M x1 x2 = 0
  · obtain ⟨t, k, t4, k60, rfl, rfl, g1, g2, g3, g4, g5⟩ := h.wp0 h0
    refine ⟨1, jup (jup M (3 + t) k (shr (M 7 t) x3)) 0 0 0, 1, jup (jup (jup (jup M (3 + t) k (shr (M 7 t) x3)) 0 0 0) 172 (60 * t + k) (shr (M 7 t) x3)) 167 2 0, ?_, ?_, rfl, h.tset t4 k60 _⟩
    · unfold f_X11_write
      rw [h.why hx1 hx2, bnd_some, letv_eq, ew, if_pos h0, q_put t4 k60 ⟨g1, g2⟩, bnd_some]
      rfl
    · unfold f_X12_write f_X12_write_L34
      have e171 : jup (jup M (3 + t) k (shr (M 7 t) x3)) 0 0 0 171 = M 171 := by rw [jup_cell (by omega), jup_cell (by omega)]
      have e170 : jup (jup M (3 + t) k (shr (M 7 t) x3)) 0 0 0 170 t = M 7 t := by rw [jup_cell (by omega), jup_cell (by omega)]; exact g3
      rw [h.whyM hx1 hx2 _ e171, bnd_some, letv_eq, ew, if_pos h0, chk_pos (jin_of (by omega) (by omega) (by omega)), jwb (show t < 2147483648 by omega), e170, q_shrunk ⟨g1, g2⟩, bnd_some, chk_pos (jin_of (by omega) (by omega) (by omega)), letm_eq, jwn (by omega) (by omega), show (60 * (t : Int) + (k : Int)).toNat = 60 * t + k by omega, h0]
      rfl
  · refine ⟨0, jup M 0 0 (wp M x1 x2), 0, jup (jup M 0 0 (wp M x1 x2)) 167 2 (wp M x1 x2), ?_, ?_, rfl, jup_status h _ _ rfl⟩
    · unfold f_X11_write
      rw [h.why hx1 hx2, bnd_some, letv_eq, ew, if_neg h0, q_deny, bnd_some]
      exact chk_pos (by decide) _
    · unfold f_X12_write f_X12_write_L34
      rw [h.whyM hx1 hx2 (jup M 0 0 (wp M x1 x2)) rfl, bnd_some, letv_eq, ew, if_neg h0, q_is, bnd_some, ew, if_neg h0]
      exact chk_pos (by decide) _
end PWRITE

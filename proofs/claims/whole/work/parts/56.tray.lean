section PTRAY
variable {n : Nat} {M : JMem}
theorem JR.tr (h : JR M) {t : Nat} (t4 : t < 4) : (M 7 t = -1 ∧ M 171 t = -1) ∨ (0 ≤ M 7 t ∧ M 7 t ≤ 3 ∧ M 170 t = M 7 t ∧ 0 ≤ M 8 t ∧ M 8 t ≤ 60 ∧ M 171 t = M 8 t ∧ ∀ k : Nat, k < 60 → (k : Int) < M 8 t → jwl (jwt M t k) = jwl (M 172 (60 * t + k))) := h.2.1 t t4
theorem q_isTray {x : Int} (hx : I32 x) : f_X7_isTray n x M = some (if 0 ≤ x ∧ x < 4 then 1 else 0, M) := by
  unfold f_X7_isTray
  have e := jwI hx
  have c4 : jw 4 = 4 := by decide
  by_cases h1 : x < 0
  · rw [if_pos (by omega), if_neg (show ¬ (0 ≤ x ∧ x < 4) by omega)]
  · by_cases h2 : x < 4
    · rw [if_neg (by omega), if_neg (by omega), if_pos (show 0 ≤ x ∧ x < 4 by omega)]
    · rw [if_neg (by omega), if_pos (by omega), if_neg (show ¬ (0 ≤ x ∧ x < 4) by omega)]
theorem q_isTrayM {x : Int} (hx : I32 x) : f_X12_isTray n x M = some (if 0 ≤ x ∧ x < 4 then 1 else 0, M) := by
  unfold f_X12_isTray
  have e := jwI hx
  have c4 : jw 4 = 4 := by decide
  by_cases h1 : x < 0
  · rw [if_pos (by omega), if_neg (show ¬ (0 ≤ x ∧ x < 4) by omega)]
  · by_cases h2 : x < 4
    · rw [if_neg (by omega), if_neg (by omega), if_pos (show 0 ≤ x ∧ x < 4 by omega)]
    · rw [if_neg (by omega), if_pos (by omega), if_neg (show ¬ (0 ≤ x ∧ x < 4) by omega)]
/-- what is wrong with a place: the one number of both -/
def wp (M : JMem) (x1 x2 : Int) : Int := if 0 ≤ x1 ∧ x1 < 4 then (if M 171 x1.toNat = -1 then 2 else if 0 ≤ x2 ∧ x2 < M 171 x1.toNat then 0 else 3) else 1
theorem JR.whyM (h : JR M) {x1 x2 : Int} (hx1 : I32 x1) (hx2 : I32 x2) (M' : JMem) (e : M' 171 = M 171) : f_X12_wrongPlace n x1 x2 M' = some (wp M x1 x2, M') := by
  unfold f_X12_wrongPlace wp
  have e2 := jwI hx2
  have cm : jw (-1) = -1 := by decide
  rw [q_isTrayM hx1, bnd_some]
  by_cases h1 : 0 ≤ x1 ∧ x1 < 4
  · obtain ⟨t, t4, rfl⟩ := natOf (x := x1) (k := 4) (by omega) (by omega)
    have g := h.tr t4
    rw [if_pos h1, if_neg (by decide), chk_pos (jin_of (by omega) (by omega) (by omega)), jwb (by omega), e, if_pos h1, show (t : Int).toNat = t from rfl]
    have ej : jw (M 171 t) = M 171 t := jw_of (by omega) (by omega)
    by_cases h2 : M 171 t = -1
    · rw [if_pos (by omega), if_pos h2]
    · rw [if_neg (by omega), if_neg h2]
      by_cases h3 : x2 < 0
      · rw [if_pos (by omega), if_neg (show ¬ (0 ≤ x2 ∧ x2 < M 171 t) by omega)]
      · rw [if_neg (by omega), chk_pos (jin_of (by omega) (by omega) (by omega))]
        by_cases h4 : x2 < M 171 t
        · rw [if_pos (by omega), if_pos (show 0 ≤ x2 ∧ x2 < M 171 t by omega)]
        · rw [if_neg (by omega), if_neg (show ¬ (0 ≤ x2 ∧ x2 < M 171 t) by omega)]
  · rw [if_neg h1, if_pos (by decide), if_neg h1]
theorem JR.why (h : JR M) {x1 x2 : Int} (hx1 : I32 x1) (hx2 : I32 x2) : f_X7_whyNotAt n x1 x2 M = some (wp M x1 x2, M) := by
  unfold f_X7_whyNotAt f_X7_whyNotLong f_X7_isMissing wp
  have e2 := jwI hx2
  have cm : jw (-1) = -1 := by decide
  have c0 : jw 0 = 0 := by decide
  rw [q_isTray hx1, bnd_some]
  by_cases h1 : 0 ≤ x1 ∧ x1 < 4
  · obtain ⟨t, t4, rfl⟩ := natOf (x := x1) (k := 4) (by omega) (by omega)
    have g := h.tr t4
    have hj : jin (t : Int) 4 := jin_of (by omega) (by omega) (by omega)
    rw [if_pos h1, if_neg (by decide), chk_pos hj, jwb (by omega), if_pos h1, show (t : Int).toNat = t from rfl]
    have ej : jw (M 7 t) = M 7 t := jw_of (by omega) (by omega)
    by_cases h2 : M 171 t = -1
    · rw [if_pos (show jw (M 7 t) = jw (-1) by omega), if_pos h2]
      rfl
    · obtain ⟨g1, g2, g3, g4, g5, g6, -⟩ := g.resolve_left (fun q => h2 q.2)
      have e8 : jw (M 8 t) = M 8 t := jw_of (by omega) (by omega)
      rw [if_neg (show ¬ jw (M 7 t) = jw (-1) by omega), if_neg h2, bnd_some, if_pos c0, chk_pos hj, if_pos (show jw 0 ≤ jw (M 8 t) by omega), bnd_some, letv_eq, if_pos c0]
      by_cases h3 : x2 < 0
      · rw [if_pos (by omega), if_neg (show ¬ (0 ≤ x2 ∧ x2 < M 171 t) by omega)]
      · rw [if_neg (by omega), chk_pos hj]
        by_cases h4 : x2 < M 171 t
        · rw [if_pos (by omega), if_pos (show 0 ≤ x2 ∧ x2 < M 171 t by omega)]
        · rw [if_neg (by omega), if_neg (show ¬ (0 ≤ x2 ∧ x2 < M 171 t) by omega)]
  · rw [if_neg h1, if_pos (by decide), if_neg h1]
    rfl
theorem jRn2 : ∀ t : Nat, t < 4 → jRn 2 t = 3 + t := by decide
theorem jwt_eq : ∀ t : Nat, t < 4 → jwt M t = M (3 + t) := by
  intro t ht
  rcases (show t = 0 ∨ t = 1 ∨ t = 2 ∨ t = 3 by omega) with rfl | rfl | rfl | rfl <;> rfl
theorem wp_range {x1 x2 : Int} : 0 ≤ wp M x1 x2 ∧ wp M x1 x2 ≤ 3 := by
  unfold wp
  repeat' split
  all_goals omega
theorem p_read : jO_read JR n := by
  intro x1 x2 hx1 hx2 M h
  have hw := @wp_range M x1 x2
  have e1 := jwI hx1
  have e2 := jwI hx2
  have ew : jw (wp M x1 x2) = wp M x1 x2 := jw_of (by omega) (by omega)
  by_cases h0 : wp M x1 x2 = 0
  · have h1 : 0 ≤ x1 ∧ x1 < 4 := by
      by_cases c : 0 ≤ x1 ∧ x1 < 4
      · exact c
      · unfold wp at h0; rw [if_neg c] at h0; omega
    obtain ⟨t, t4, ht⟩ := natOf (x := x1) (k := 4) (by omega) (by omega)
    have h2 : M 171 t ≠ -1 ∧ 0 ≤ x2 ∧ x2 < M 171 t := by
      unfold wp at h0
      rw [if_pos h1, ht, show (t : Int).toNat = t from rfl] at h0
      by_cases c : M 171 t = -1
      · rw [if_pos c] at h0; omega
      · rw [if_neg c] at h0
        by_cases d : 0 ≤ x2 ∧ x2 < M 171 t
        · exact ⟨c, d⟩
        · rw [if_neg d] at h0; omega
    obtain ⟨g1, g2, g3, g4, g5, g6, g7⟩ := (h.tr t4).resolve_left (fun q => h2.1 q.2)
    obtain ⟨k, k60, hk⟩ := natOf (x := x2) (k := 60) (by omega) (by omega)
    refine ⟨M (3 + t) k, jup M 0 0 0, M 172 (60 * t + k), jup (jup M 0 0 0) 167 2 0, ?_, ?_, ?_, jup_status h 0 0 rfl⟩
    · unfold f_X11_read
      rw [h.why hx1 hx2, bnd_some, letv_eq, ew, if_pos h0, letm_eq, chk_pos (jin_of (by omega) (by omega) (by omega)), chk_pos (jin_of (by omega) (by omega) (by omega)), e1, e2, ht, hk, show (t : Int).toNat = t from rfl, show (k : Int).toNat = k from rfl, jRn2 t t4, jup_cell (show 3 + t ≠ 0 by omega)]
    · unfold f_X12_read
      rw [h.whyM hx1 hx2 (jup M 0 0 0) rfl, bnd_some, h0, letm_eq, if_pos (show jw (jup (jup M 0 0 0) 167 2 0 167 2) ≤ 0 by rw [jup_at, if_pos ⟨rfl, rfl⟩]; decide), chk_pos (jin_of (by omega) (by omega) (by omega)), jwn (by omega) (by omega), show (60 * x1 + x2).toNat = 60 * t + k by omega]
      rfl
    · rw [jcmp_sign.2.2, ← jwt_eq (M := M) t t4]
      exact g7 k k60 (by omega)
  · refine ⟨-1, jup M 0 0 (wp M x1 x2), -1, jup (jup M 0 0 (wp M x1 x2)) 167 2 (wp M x1 x2), ?_, ?_, by decide, jup_status h _ _ rfl⟩
    · unfold f_X11_read
      rw [h.why hx1 hx2, bnd_some, letv_eq, ew, if_neg h0]
      rfl
    · unfold f_X12_read
      rw [h.whyM hx1 hx2 (jup M 0 0 (wp M x1 x2)) rfl, bnd_some, letm_eq, if_neg (show ¬ jw (jup (jup M 0 0 (wp M x1 x2)) 167 2 (wp M x1 x2) 167 2) ≤ 0 by rw [jup_at, if_pos ⟨rfl, rfl⟩]; omega)]
end PTRAY

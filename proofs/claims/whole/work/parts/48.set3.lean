section PSET3
variable {n : Nat} {M : JMem}
theorem S8of {x : Int} {k : Int} (hk : k < 256) (h : 0 ≤ x ∧ x ≤ k) : S8 x := ⟨h.1, by have := h.2; omega⟩
theorem jwb {b : Nat} (h : b < 2147483648) : (jw (b : Int)).toNat = b := by rw [jw_of (by omega) (by omega)]; rfl
theorem JR.isB (h : JR M) {x1 : Int} (hx : I32 x1) : f_X11_isBeast n x1 M = some (if 0 ≤ x1 ∧ x1 < M 168 2 then 1 else 0, M) := by
  have nb := h.nb
  rw [q_isBeast hx (by rw [nb.1]; exact S8of (by omega) nb.2), nb.1]
theorem JR.isBM (h : JR M) {x1 : Int} (hx : I32 x1) (M' : JMem) (e : M' 168 = M 168) : f_X12_isBeast n x1 M' = some (if 0 ≤ x1 ∧ x1 < M 168 2 then 1 else 0, M') := by
  have nb := h.nb
  rw [q_isBeastM hx (by rw [e]; exact S8of (by omega) nb.2), e]
theorem JR.isT (h : JR M) {x1 : Int} (hx : I32 x1) : f_X11_isTrain n x1 M = some (if 0 ≤ x1 ∧ x1 < M 168 1 then 1 else 0, M) := by
  have nb := h.nt
  rw [q_isTrain hx (by rw [nb.1]; exact S8of (by omega) nb.2), nb.1]
theorem JR.isTM (h : JR M) {x1 : Int} (hx : I32 x1) (M' : JMem) (e : M' 168 = M 168) : f_X12_isTrain n x1 M' = some (if 0 ≤ x1 ∧ x1 < M 168 1 then 1 else 0, M') := by
  have nb := h.nt
  rw [q_isTrainM hx (by rw [e]; exact S8of (by omega) nb.2), e]
theorem JR.isP (h : JR M) {x1 : Int} (hx : I32 x1) : f_X11_isPlace n x1 M = some (if 0 ≤ x1 ∧ x1 < M 168 0 then 1 else 0, M) := by
  have nb := h.np
  rw [q_isPlace hx (by rw [nb.1]; exact S8of (by omega) nb.2), nb.1]
theorem JR.isPM (h : JR M) {x1 : Int} (hx : I32 x1) (M' : JMem) (e : M' 168 = M 168) : f_X12_isPlace n x1 M' = some (if 0 ≤ x1 ∧ x1 < M 168 0 then 1 else 0, M') := by
  have nb := h.np
  rw [q_isPlaceM hx (by rw [e]; exact S8of (by omega) nb.2), e]
theorem RP.trust {P P' : JV} {A : Nat → Int} {c : Nat} {x : Int} (h : RP P A) (c8 : c < 8) (hP : ∀ j k : Nat, j < 12 → ¬ (j = 10 ∧ k = c) → P' j k = P j k) (h3 : P' 10 c = x) (hx : 0 ≤ x ∧ x ≤ 16) : RP P' (upA A (57 + 10 * c) x) := by
  unfold RP at h ⊢
  obtain ⟨q0, q1, q2, q3, q4, q5, q6⟩ := h
  rw [hP 0 0 (by omega) (by omega), hP 0 1 (by omega) (by omega), hP 0 2 (by omega) (by omega), hP 0 3 (by omega) (by omega), upA_ne (show 0 ≠ 57 + 10 * c by omega), upA_ne (show 1 ≠ 57 + 10 * c by omega), upA_ne (show 2 ≠ 57 + 10 * c by omega), upA_ne (show 3 ≠ 57 + 10 * c by omega)]
  refine ⟨q0, q1, q2, q3, q4, fun t t8 hl => ?_, fun b b8 hl => ?_⟩
  · rw [hP 4 t (by omega) (by omega), hP 5 t (by omega) (by omega), hP 6 t (by omega) (by omega), hP 7 t (by omega) (by omega), hP 8 t (by omega) (by omega), upA_ne (show 8 + 6 * t ≠ 57 + 10 * c by omega), upA_ne (show 9 + 6 * t ≠ 57 + 10 * c by omega), upA_ne (show 10 + 6 * t ≠ 57 + 10 * c by omega), upA_ne (show 11 + 6 * t ≠ 57 + 10 * c by omega), upA_ne (show 12 + 6 * t ≠ 57 + 10 * c by omega)]
    exact q5 t t8 hl
  · have q7 := q6 b b8 hl
    rw [hP 9 b (by omega) (by omega), hP 11 b (by omega) (by omega), upA_ne (show 56 + 10 * b ≠ 57 + 10 * c by omega), upA_ne (show 62 + 10 * b ≠ 57 + 10 * c by omega)]
    by_cases e : b = c
    · subst e
      rw [h3, upA_same]
      exact ⟨q7.1, ⟨rfl, hx⟩, q7.2.2⟩
    · rw [hP 10 b (by omega) (by omega), upA_ne (show 57 + 10 * b ≠ 57 + 10 * c by omega)]
      exact q7
theorem blk_jup {M : JMem} {a z b k : Nat} {v : Int} {j i : Nat} (hj : j < z) (h : ¬ (b + j = a ∧ i = k)) : blk (jup M a k v) b z j i = blk M b z j i := by
  unfold blk
  rw [Nat.mod_eq_of_lt hj, jup_at, if_neg h]
theorem blk_jup_row {M : JMem} {a z b k : Nat} {v : Int} (h : ∀ j : Nat, j < z → b + j ≠ a) (hz : 0 < z) : blk (jup M a k v) b z = blk M b z := blk_congr hz fun j hj => jup_cell (h j hj)
theorem p_trust : jO_trust JR n := by
  intro x1 x2 hx1 hx2 M h
  have nb := h.nb
  have e2 := jwI hx2
  have c16 : jw 16 = 16 := by decide
  have hf : ∀ M', f_X12_isFrom n (jw x2) 0 16 M' = some (if 0 ≤ x2 ∧ x2 ≤ 16 then 1 else 0, M') := fun M' => by
    rw [e2]; exact q_isFrom ⟨by have := hx2.1; omega, by have := hx2.2; omega⟩ (by omega) (by omega)
  by_cases h1 : 0 ≤ x1 ∧ x1 < M 168 2
  · by_cases h2 : 0 ≤ x2 ∧ x2 ≤ 16
    · obtain ⟨b, b8, rfl⟩ := natOf (x := x1) (k := 8) (by omega) (by omega)
      refine ⟨1, jup (jup M 50 b x2) 0 0 0, 1, jup (jup (jup (jup M 50 b x2) 0 0 0) 168 (57 + 10 * b) x2) 167 2 0, ?_, ?_, rfl, h.set (Or.inr (by omega)) (by omega) (by omega) ?_ ?_⟩
      · unfold f_X11_trust
        rw [h.isB hx1, bnd_some, if_pos h1, if_neg (by decide), if_neg (by omega), if_pos (by omega), chk_pos (jin_of (by omega) (by omega) (by omega)), jwb (by omega)]
        rfl
      · unfold f_X12_trust
        rw [h.isBM hx1 (jup (jup M 50 b x2) 0 0 0) rfl, bnd_some, if_pos h1, if_neg (by decide), hf, bnd_some, if_pos h2, if_neg (by decide), q_beastRow, bnd_some, chk_pos (jin_of (by omega) (by omega) (by omega)), jwn (by omega) (by omega), show ((56 + 10 * (b : Int) + 1).toNat) = 57 + 10 * b by omega]
        rfl
      · refine h.cur.1.trust b8 (fun j k hj hjk => blk_jup hj (fun q => hjk ⟨by omega, q.2⟩)) ?_ h2
        show jup M 50 b x2 50 b = x2
        rw [jup_at, if_pos ⟨rfl, rfl⟩]
      · rw [blk_jup_row (fun j hj => by omega) (by decide)]
        exact RN.congr2 h.cur.2.1 (fun k hk _ => upA_ne (by omega)) (fun t ht => ⟨upA_ne (by omega), upA_ne (by omega), upA_ne (by omega)⟩) (fun b hb => ⟨upA_ne (by omega), upA_ne (by omega), upA_ne (by omega), upA_ne (by omega), upA_ne (by omega), upA_ne (by omega)⟩)
    · refine Pr.end (r := 0) (s := 0) (x := 1) (y := 1) h ?_ ?_ rfl rfl
      · unfold f_X11_trust f_X11_trust_L18
        rw [h.isB hx1, bnd_some, if_pos h1, if_neg (by decide)]
        by_cases h3 : jw x2 < 0
        · rw [if_pos h3]; rfl
        · rw [if_neg h3, if_neg (by omega)]; rfl
      · unfold f_X12_trust f_X12_trust_L20
        rw [h.isBM hx1 (jup M 0 0 1) rfl, bnd_some, if_pos h1, if_neg (by decide), hf, bnd_some, if_neg h2, if_pos (by decide)]
        rfl
  · refine Pr.end (r := 0) (s := 0) (x := 1) (y := 1) h ?_ ?_ rfl rfl
    · unfold f_X11_trust f_X11_trust_L18
      rw [h.isB hx1, bnd_some, if_neg h1, if_pos (by decide)]; rfl
    · unfold f_X12_trust f_X12_trust_L20
      rw [h.isBM hx1 (jup M 0 0 1) rfl, bnd_some, if_neg h1, if_pos (by decide)]; rfl
end PSET3

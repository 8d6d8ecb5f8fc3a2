section PSMALL
variable {n : Nat} {M : JMem}
/-- only the trays, the tape are other ones -/
theorem JR.rest (h : JR M) {M' : JMem} (hst : jw (M' 0 0) = jw (M' 167 2)) (h0 : ∀ j : Nat, j ≠ 0 → M' 0 j = M 0 j) (h67 : ∀ j : Nat, (j = 3 ∨ j = 4 ∨ j = 37 ∨ j = 38) → M' 167 j = M 167 j) (hk : ∀ c : Nat, ((40 ≤ c ∧ c < 65) ∨ c = 86 ∨ c = 87 ∨ (92 ≤ c ∧ c < 167) ∨ c = 168 ∨ c = 169 ∨ c = 185) → M' c = M c)
    (ht : Rtra (M' 7) (M' 8) (M' 170) (M' 171) (M' 172) (jwt M')) (hx : Rtxt (M' 9) (M' 10) (M' 11) (M' 167) (M' 173)) : JR M' := by
  have hc := h.cur
  obtain ⟨g1, g2, g3, g4, g5, g6⟩ := h
  refine JR.of ⟨hst, ?_, ?_⟩ ht hx ?_ ?_ ?_ ?_ ?_ ?_
  · rw [h0 1 (by omega), h67 3 (by omega)]; exact g1.2.1
  · rw [h0 2 (by omega), h67 4 (by omega)]; exact g1.2.2
  · rw [hk 86 (by omega), hk 87 (by omega), hk 185 (by omega), h67 37 (by omega)]; exact g4
  · rw [hk 168 (by omega), blk_congr (by decide) (M := M) (a := 40) (z := 12) (fun j hj => hk _ (by omega))]; exact hc.1
  · rw [hk 168 (by omega), blk_congr (by decide) (M := M) (a := 52) (z := 8) (fun j hj => hk _ (by omega))]; exact hc.2.1
  · rw [hk 169 (by omega), blk_congr (by decide) (M := M) (a := 40) (z := 12) (fun j hj => hk _ (by omega))]; exact hc.2.2.1
  · rw [hk 168 (by omega), hk 40 (by omega), blk_congr (by decide) (M := M) (a := 60) (z := 5) (fun j hj => hk _ (by omega))]; exact hc.2.2.2
  · unfold Rmrk at g6 ⊢
    rw [h0 13 (by omega), h67 38 (by omega)]
    exact ⟨g6.1, g6.2.1, g6.2.2.1, fun i hi hl => Rpark.congr (g6.2.2.2 i hi hl) (fun j hj => hk _ (by omega)) (fun j hj => hk _ (by omega)) (fun j hj => hk _ (by omega)) (hk 168 (by omega)) (hk 169 (by omega))⟩
theorem jwt_congr {M' : JMem} (h : ∀ c : Nat, 3 ≤ c → c < 7 → M' c = M c) : jwt M' = jwt M := by
  funext t
  unfold jwt
  rw [h 3 (by omega) (by omega), h 4 (by omega) (by omega), h 5 (by omega) (by omega), h 6 (by omega) (by omega)]
/-! told -/
theorem q_halted_L {N : JV} (hR : RN N (M 168)) (h1 : 0 ≤ M 168 1 ∧ M 168 1 ≤ 8) : ∀ (d i k : Nat) (v : Int), i + d = (M 168 1).toNat → d < k → S8 v → ∃ r, f_X12_halted_L4 n k v (i : Int) M = some (r, M) ∧ S8 r ∧ ∀ t : Nat, t < 8 → (bit r t = true ↔ bit v t = true ∨ (i ≤ t ∧ (t : Int) < M 168 1 ∧ M 168 (13 + 6 * t) = 1)) := by
  have h01 : ∀ t : Nat, t < 8 → (t : Int) < M 168 1 → M 168 (13 + 6 * t) = 0 ∨ M 168 (13 + 6 * t) = 1 := by
    unfold RN at hR
    exact hR.2.2.2.2.2.2.2.1
  intro d
  induction d with
  | zero =>
    intro i k v hi hk hv
    obtain ⟨k, rfl⟩ : ∃ q, k = q + 1 := ⟨k - 1, by omega⟩
    refine ⟨v, ?_, hv, fun b b8 => ⟨Or.inl, fun q => q.elim id (fun w => by omega)⟩⟩
    rw [f_X12_halted_L4, chk_pos (by decide), show (jw 1).toNat = 1 by decide, if_pos (by rw [jw_of (x := M 168 1) (by omega) (by omega), jw_of (x := (i : Int)) (by omega) (by omega)]; omega)]
  | succ d ih =>
    intro i k v hi hk hv
    obtain ⟨k, rfl⟩ : ∃ q, k = q + 1 := ⟨k - 1, by omega⟩
    have i8 : i < 8 := by omega
    rw [f_X12_halted_L4, chk_pos (by decide), show (jw 1).toNat = 1 by decide, if_neg (by rw [jw_of (x := M 168 1) (by omega) (by omega), jw_of (x := (i : Int)) (by omega) (by omega)]; omega), q_to5 i8, bnd_some]
    unfold f_X12_halted_L32
    simp only [letv_ap]
    rcases h01 i i8 (by omega) with c | c
    · have s := jorS hv S8_0
      obtain ⟨r, r1, r2, r3⟩ := ih (i + 1) k (jor v 0) (by omega) (by omega) s.1
      refine ⟨r, ?_, r2, fun b b8 => ?_⟩
      · rw [c, if_neg (by decide)]; exact r1
      rw [r3 b b8, s.2 b, bit0, Bool.or_false]
      constructor
      · rintro (q | q)
        · exact Or.inl q
        · exact Or.inr ⟨by omega, q.2⟩
      · rintro (q | q)
        · exact Or.inl q
        · by_cases e : b = i
          · subst e; omega
          · exact Or.inr ⟨by omega, q.2⟩
    · have s := jset hv i8
      obtain ⟨r, r1, r2, r3⟩ := ih (i + 1) k (jor v (jshl 1 (i : Int))) (by omega) (by omega) s.1
      refine ⟨r, ?_, r2, fun b b8 => ?_⟩
      · rw [c, if_pos rfl]; exact r1
      rw [r3 b b8, s.2 b b8, Bool.or_eq_true, decide_eq_true_eq]
      constructor
      · rintro ((q | q) | q)
        · exact Or.inl q
        · rw [q]; exact Or.inr ⟨by omega, by omega, c⟩
        · exact Or.inr ⟨by omega, q.2⟩
      · rintro (q | q)
        · exact Or.inl (Or.inl q)
        · by_cases e : b = i
          · exact Or.inl (Or.inr e)
          · exact Or.inr ⟨by omega, q.2⟩
theorem q_halted {N : JV} (hf : 100 ≤ n) (hR : RN N (M 168)) (h1 : 0 ≤ M 168 1 ∧ M 168 1 ≤ 8) : f_X12_halted n M = some (N 0 4, M) := by
  obtain ⟨r, r1, r2, r3⟩ := q_halted_L (n := n) hR h1 (M 168 1).toNat 0 n 0 (by omega) (by omega) S8_0
  have hd := hR.heads.2.2.2.2.1
  have e : r = N 0 4 := S8.ext r2 hd.1 fun t t8 => by
    rw [Bool.eq_iff_iff, r3 t t8, hd.2 t t8, bit0]
    simp
  rw [← e]
  exact r1
theorem c_riders_L (hs : ∀ t : Nat, t < 8 → S8 (M 56 t)) : ∀ (d i k : Nat) (v : Int), i + d = 8 → d < k → S8 v → ∃ r, f_X1_riders_L4 n 52 k v (i : Int) M = some (r, M) ∧ S8 r ∧ ∀ b : Nat, b < 8 → (bit r b = true ↔ bit v b = true ∨ ∃ t : Nat, i ≤ t ∧ t < 8 ∧ bit (M 56 t) b = true) := by
  intro d
  induction d with
  | zero =>
    intro i k v hi hk hv
    obtain ⟨k, rfl⟩ : ∃ q, k = q + 1 := ⟨k - 1, by omega⟩
    refine ⟨v, ?_, hv, fun b b8 => ⟨Or.inl, fun q => q.elim id (fun ⟨t, t1, t2, _⟩ => by omega)⟩⟩
    rw [f_X1_riders_L4, if_pos (by rw [show jw 8 = 8 by decide, jw_of (x := (i : Int)) (by omega) (by omega)]; omega)]
  | succ d ih =>
    intro i k v hi hk hv
    obtain ⟨k, rfl⟩ : ∃ q, k = q + 1 := ⟨k - 1, by omega⟩
    have s := jorS hv (hs i (by omega))
    obtain ⟨r, r1, r2, r3⟩ := ih (i + 1) k (jor v (M 56 i)) (by omega) (by omega) s.1
    refine ⟨r, ?_, r2, fun b b8 => ?_⟩
    · rw [f_X1_riders_L4, if_neg (by rw [show jw 8 = 8 by decide, jw_of (x := (i : Int)) (by omega) (by omega)]; omega), chk_pos (jin_of (by omega) (by omega) (by omega)), show (jw (i : Int)).toNat = i from jwb (by omega)]
      simp only [letv_ap]
      exact r1
    · rw [r3 b b8, s.2 b, Bool.or_eq_true]
      constructor
      · rintro ((q | q) | ⟨t, q1, q2, q3⟩)
        · exact Or.inl q
        · exact Or.inr ⟨i, Nat.le_refl i, by omega, q⟩
        · exact Or.inr ⟨t, by omega, q2, q3⟩
      · rintro (q | ⟨t, q1, q2, q3⟩)
        · exact Or.inl (Or.inl q)
        · by_cases e : t = i
          · rw [e] at q3; exact Or.inl (Or.inr q3)
          · exact Or.inr ⟨t, by omega, q2, q3⟩
theorem q_onTrains_L (h : JR M) (hf : 100 ≤ n) {M' : JMem} (e : M' 168 = M 168) : ∀ (d i k : Nat) (v : Int), i + d = (M 168 1).toNat → d < k → S8 v → ∃ r, f_X12_onTrains_L4 n k v (i : Int) M' = some (r, M') ∧ S8 r ∧ ∀ b : Nat, b < 8 → (bit r b = true ↔ bit v b = true ∨ ∃ t : Nat, i ≤ t ∧ (t : Int) < M 168 1 ∧ bit (M 56 t) b = true) := by
  have nt := h.nt
  intro d
  induction d with
  | zero =>
    intro i k v hi hk hv
    obtain ⟨k, rfl⟩ : ∃ q, k = q + 1 := ⟨k - 1, by omega⟩
    refine ⟨v, ?_, hv, fun b b8 => ⟨Or.inl, fun q => q.elim id (fun ⟨t, t1, t2, _⟩ => by omega)⟩⟩
    rw [f_X12_onTrains_L4, chk_pos (by decide), show (jw 1).toNat = 1 by decide, e, if_pos (by rw [jw_of (x := M 168 1) (by omega) (by omega), jw_of (x := (i : Int)) (by omega) (by omega)]; omega)]
  | succ d ih =>
    intro i k v hi hk hv
    obtain ⟨k, rfl⟩ : ∃ q, k = q + 1 := ⟨k - 1, by omega⟩
    have a := h.atT (n := n) hf (p := i) (by omega) M' e
    have s := jorS hv a.2
    obtain ⟨r, r1, r2, r3⟩ := ih (i + 1) k (jor v (M 56 i)) (by omega) (by omega) s.1
    refine ⟨r, ?_, r2, fun b b8 => ?_⟩
    · rw [f_X12_onTrains_L4, chk_pos (by decide), show (jw 1).toNat = 1 by decide, e, if_neg (by rw [jw_of (x := M 168 1) (by omega) (by omega), jw_of (x := (i : Int)) (by omega) (by omega)]; omega), a.1, bnd_some]
      simp only [letv_ap]
      exact r1
    · rw [r3 b b8, s.2 b, Bool.or_eq_true]
      constructor
      · rintro ((q | q) | ⟨t, q1, q2, q3⟩)
        · exact Or.inl q
        · exact Or.inr ⟨i, Nat.le_refl i, by omega, q⟩
        · exact Or.inr ⟨t, by omega, q2, q3⟩
      · rintro (q | ⟨t, q1, q2, q3⟩)
        · exact Or.inl (Or.inl q)
        · by_cases e : t = i
          · rw [e] at q3; exact Or.inl (Or.inr q3)
          · exact Or.inr ⟨t, by omega, q2, q3⟩
theorem c_late_L {A : Nat → Int} : ∀ (d i k : Nat) (v : Int), i + d = 8 → d < k → M 54 = A → ∃ r, f_X1_lateInAll_L4 n 52 k v (i : Int) M = some (r, M) ∧ r = v + ((List.range' i d).map A).sum := by
  intro d
  induction d with
  | zero =>
    intro i k v hi hk hA
    obtain ⟨k, rfl⟩ : ∃ q, k = q + 1 := ⟨k - 1, by omega⟩
    refine ⟨v, ?_, by simp⟩
    rw [f_X1_lateInAll_L4, if_pos (by rw [show jw 8 = 8 by decide, jw_of (x := (i : Int)) (by omega) (by omega)]; omega)]
  | succ d ih =>
    intro i k v hi hk hA
    obtain ⟨k, rfl⟩ : ∃ q, k = q + 1 := ⟨k - 1, by omega⟩
    obtain ⟨r, r1, r2⟩ := ih (i + 1) k (v + A i) (by omega) (by omega) hA
    refine ⟨r, ?_, ?_⟩
    · rw [f_X1_lateInAll_L4, if_neg (by rw [show jw 8 = 8 by decide, jw_of (x := (i : Int)) (by omega) (by omega)]; omega), chk_pos (jin_of (by omega) (by omega) (by omega)), show (jw (i : Int)).toNat = i from jwb (by omega), hA]
      simp only [letv_ap]
      exact r1
    · rw [r2, List.range'_succ, List.map_cons, List.sum_cons]; omega
theorem p_told (hf : 100 ≤ n) : jO_told JR n := by
  intro x1 hx1 M h
  have e1 := jwI hx1
  have hc := h.cur
  have hR := hc.2.1
  have nb := h.nb
  have nt := h.nt
  have np := h.np
  have c10 : jw 10 = 10 := by decide
  have hA := SA.of hc.1 hR
  obtain ⟨h1, h2, h3, h4, h5, h6⟩ := hR.heads
  have d0 : M 52 0 = M 168 4 := h1.1
  have d1 : M 52 1 = M 168 5 := h2.1
  by_cases hi : 0 ≤ x1 ∧ x1 ≤ 10
  · obtain ⟨k, k11, ek⟩ := natOf (x := x1) (k := 11) hi.1 (by omega)
    -- what the reference tells by its own places
    have ref0 : ∀ s : Int, k < 6 → f_X12_told n x1 (jup M 0 0 s) = some (M 168 k, jup (jup M 0 0 s) 167 2 0) := fun s k6 => by
      unfold f_X12_told
      rw [if_neg (by omega), if_pos (by omega), if_neg (by omega), if_neg (by omega), if_neg (by omega), if_neg (by omega), if_neg (by omega), chk_pos (jin_of (by omega) (by omega) (by omega)), show (jw x1).toNat = k by omega]
      rfl
    have hk : k = 0 ∨ k = 1 ∨ k = 2 ∨ k = 3 ∨ k = 4 ∨ k = 5 ∨ k = 6 ∨ k = 7 ∨ k = 8 ∨ k = 9 ∨ k = 10 := by omega
    rcases hk with rfl | rfl | rfl | rfl | rfl | rfl | rfl | rfl | rfl | rfl | rfl
    · refine Pr.end (r := M 40 0) (s := M 168 0) (x := 0) (y := 0) h ?_ (ref0 0 (by omega)) rfl (by rw [np.1])
      unfold f_X11_told; rw [if_pos (by omega)]; rfl
    · refine Pr.end (r := M 40 1) (s := M 168 1) (x := 0) (y := 0) h ?_ (ref0 0 (by omega)) rfl (by rw [nt.1])
      unfold f_X11_told; rw [if_neg (by omega), if_pos (by omega)]; rfl
    · refine Pr.end (r := M 40 2) (s := M 168 2) (x := 0) (y := 0) h ?_ (ref0 0 (by omega)) rfl (by rw [nb.1])
      unfold f_X11_told; rw [if_neg (by omega), if_neg (by omega), if_pos (by omega)]; rfl
    · refine Pr.end (r := M 40 3) (s := M 168 3) (x := 0) (y := 0) h ?_ (ref0 0 (by omega)) rfl (by rw [h.odds.1])
      unfold f_X11_told; rw [if_neg (by omega), if_neg (by omega), if_neg (by omega), if_pos (by omega)]; rfl
    · refine Pr.end (r := M 52 0) (s := M 168 4) (x := 0) (y := 0) h ?_ (ref0 0 (by omega)) rfl (by rw [d0])
      unfold f_X11_told; rw [if_neg (by omega), if_neg (by omega), if_neg (by omega), if_neg (by omega), if_pos (by omega)]; rfl
    · refine Pr.end (r := M 52 1) (s := M 168 5) (x := 0) (y := 0) h ?_ (ref0 0 (by omega)) rfl (by rw [d1])
      unfold f_X11_told; rw [if_neg (by omega), if_neg (by omega), if_neg (by omega), if_neg (by omega), if_neg (by omega), if_pos (by omega)]; rfl
    · have h58 : ∀ b : Nat, b < 8 → (b : Int) < M 168 2 → M 168 (56 + 10 * b + 2) = 0 ∨ M 168 (56 + 10 * b + 2) = 1 := fun b b8 hb => by
        rw [show 56 + 10 * b + 2 = 58 + 10 * b by omega]; exact (hA.2.2.2.2.2.2 b b8 hb).1
      obtain ⟨r, r1, r2, r3⟩ := q_beastsWith (n := n) (M := jup M 0 0 0) (what := 2) hf (by omega) nb.2 h58
      have e : r = M 52 2 := S8.ext r2 h3.1 fun b b8 => by
        rw [Bool.eq_iff_iff, r3 b b8, show bit (M 52 2) b = true ↔ _ from h3.2 b b8, show 56 + 10 * b + 2 = 58 + 10 * b by omega]
        exact Iff.rfl
      refine Pr.end (r := M 52 2) (s := M 52 2) (x := 0) (y := 0) h ?_ ?_ rfl rfl
      · unfold f_X11_told; rw [if_neg (by omega), if_neg (by omega), if_neg (by omega), if_neg (by omega), if_neg (by omega), if_neg (by omega), if_pos (by omega)]; rfl
      · unfold f_X12_told
        rw [if_neg (by omega), if_pos (by omega), if_pos (by omega), show f_X12_beastsWith n 2 (jup M 0 0 0) = _ from r1, bnd_some, e]; rfl
    · refine Pr.end (r := M 52 3) (s := M 52 3) (x := 0) (y := 0) h ?_ ?_ rfl rfl
      · unfold f_X11_told; rw [if_neg (by omega), if_neg (by omega), if_neg (by omega), if_neg (by omega), if_neg (by omega), if_neg (by omega), if_neg (by omega), if_pos (by omega)]; rfl
      · have h59 : ∀ b : Nat, b < 8 → (b : Int) < M 168 2 → M 168 (56 + 10 * b + 3) = 0 ∨ M 168 (56 + 10 * b + 3) = 1 := fun b b8 hb => by
          rw [show 56 + 10 * b + 3 = 59 + 10 * b by omega]; exact (hA.2.2.2.2.2.2 b b8 hb).2.1
        obtain ⟨r, r1, r2, r3⟩ := q_beastsWith (n := n) (M := jup M 0 0 0) (what := 3) hf (by omega) nb.2 h59
        have e : r = M 52 3 := S8.ext r2 h4.1 fun b b8 => by
          rw [Bool.eq_iff_iff, r3 b b8, show bit (M 52 3) b = true ↔ _ from h4.2 b b8, show 56 + 10 * b + 3 = 59 + 10 * b by omega]
          exact Iff.rfl
        unfold f_X12_told
        rw [if_neg (by omega), if_pos (by omega), if_neg (by omega), if_pos (by omega), show f_X12_beastsWith n 3 (jup M 0 0 0) = _ from r1, bnd_some, e]; rfl
    · obtain ⟨q13, q14, q15, q16⟩ := hR.spots
      have hs : ∀ t : Nat, t < 8 → S8 (M 56 t) := fun t t8 => (q14 t t8).1
      obtain ⟨r, r1, r2, r3⟩ := c_riders_L (n := n) hs 8 0 n 0 (by omega) (by omega) S8_0
      obtain ⟨s, s1, s2, s3⟩ := q_onTrains_L (n := n) h hf (M' := jup M 0 0 0) rfl (M 168 1).toNat 0 n 0 (by omega) (by omega) S8_0
      have e : r = s := S8.ext r2 s2 fun b b8 => by
        rw [Bool.eq_iff_iff, r3 b b8, s3 b b8, bit0]
        constructor
        · rintro (q | ⟨t, t1, t2, t3⟩)
          · exact absurd q (by decide)
          · have z := ((q14 t t2).2 b b8).1 t3
            have := q15 b b8 z.1 z.2.1
            exact Or.inr ⟨t, t1, by omega, t3⟩
        · rintro (q | ⟨t, t1, t2, t3⟩)
          · exact absurd q (by decide)
          · exact Or.inr ⟨t, t1, by omega, t3⟩
      refine Pr.end (r := r) (s := r) (x := 0) (y := 0) h ?_ ?_ rfl rfl
      · unfold f_X11_told f_X1_riders
        simp only [letv_ap]
        rw [if_neg (by omega), if_neg (by omega), if_neg (by omega), if_neg (by omega), if_neg (by omega), if_neg (by omega), if_neg (by omega), if_neg (by omega), if_pos (by omega), show f_X1_riders_L4 n 52 n 0 0 M = _ from r1, bnd_some]; rfl
      · unfold f_X12_told f_X12_onTrains
        simp only [letv_ap]
        rw [if_neg (by omega), if_pos (by omega), if_neg (by omega), if_neg (by omega), if_pos (by omega), show f_X12_onTrains_L4 n n 0 0 (jup M 0 0 0) = _ from s1, bnd_some, e]; rfl
    · refine Pr.end (r := M 52 4) (s := M 52 4) (x := 0) (y := 0) h ?_ ?_ rfl rfl
      · unfold f_X11_told; rw [if_neg (by omega), if_neg (by omega), if_neg (by omega), if_neg (by omega), if_neg (by omega), if_neg (by omega), if_neg (by omega), if_neg (by omega), if_neg (by omega), if_pos (by omega)]; rfl
      · unfold f_X12_told
        rw [if_neg (by omega), if_pos (by omega), if_neg (by omega), if_neg (by omega), if_neg (by omega), if_pos (by omega), q_halted (N := blk M 52 8) hf (M := jup M 0 0 0) hR nt.2, bnd_some]; rfl
    · obtain ⟨l1, l2, l3, l4⟩ := hR.lates
      have l4 : M 168 6 = M 54 0 + M 54 1 + M 54 2 + M 54 3 + M 54 4 + M 54 5 + M 54 6 + M 54 7 := l4
      obtain ⟨r, r1, r2⟩ := c_late_L (n := n) (M := M) (A := M 54) 8 0 n 0 (by omega) (by omega) rfl
      have e : r = M 168 6 := by
        rw [r2, l4]
        simp [List.range'_succ]
        omega
      refine Pr.end (r := r) (s := M 168 6) (x := 0) (y := 0) h ?_ ?_ rfl (by rw [e])
      · unfold f_X11_told f_X1_lateInAll
        simp only [letv_ap]
        rw [if_neg (by omega), if_neg (by omega), if_neg (by omega), if_neg (by omega), if_neg (by omega), if_neg (by omega), if_neg (by omega), if_neg (by omega), if_neg (by omega), if_neg (by omega), if_pos (by omega), show f_X1_lateInAll_L4 n 52 n 0 0 M = _ from r1, bnd_some]; rfl
      · unfold f_X12_told
        rw [if_neg (by omega), if_pos (by omega), if_neg (by omega), if_neg (by omega), if_neg (by omega), if_neg (by omega), if_pos (by omega), chk_pos (by decide)]; rfl
  · refine Pr.end (r := -1) (s := -1) (x := 1) (y := 1) h ?_ ?_ rfl rfl
    · unfold f_X11_told
      rw [if_neg (by omega), if_neg (by omega), if_neg (by omega), if_neg (by omega), if_neg (by omega), if_neg (by omega), if_neg (by omega), if_neg (by omega), if_neg (by omega), if_neg (by omega), if_neg (by omega)]; rfl
    · unfold f_X12_told f_X12_told_L10
      by_cases c : x1 < 0
      · rw [if_pos (by omega)]; rfl
      · rw [if_neg (by omega), if_neg (by omega)]; rfl
/-! mourn -/
theorem p_mourn (hf : 100 ≤ n) : jO_mourn JR n := by
  intro x1 hx1 M h
  have nb := h.nb
  by_cases h1 : 0 ≤ x1 ∧ x1 < M 168 2
  · obtain ⟨b, b8, rfl⟩ := natOf (x := x1) (k := 8) (by omega) (by omega)
    have he := (h.eat b8 (by omega)).2.1
    by_cases c : M 168 (59 + 10 * b) = 1
    · have hc := h.cur
      have hR := hc.2.1
      have r3 : S8 (M 52 3) := hR.heads.2.2.2.1.1
      have r0 : S8 (M 55 0) := (hR.spots.1 0 (by omega)).1
      have s1 := jclr r3 b8
      have s2 := jset r0 b8
      have eA : ∀ k : Nat, k ≠ 59 + 10 * b → k ≠ 63 + 10 * b → k ≠ 65 + 10 * b → upA (upA (upA (M 168) (59 + 10 * b) 0) (65 + 10 * b) (-1)) (63 + 10 * b) 0 k = M 168 k := fun k k1 k2 k3 => by rw [upA_ne k2, upA_ne k3, upA_ne k1]
      have mm : jup (jup (jup (jup (jup (jup (jup M 52 3 (jand (M 52 3) (jxor (jshl 1 (b : Int)) (-1)))) 55 0 (jor (M 55 0) (jshl 1 (b : Int)))) 0 0 0) 168 (59 + 10 * b) 0) 168 (65 + 10 * b) (-1)) 168 (63 + 10 * b) 0) 167 2 0 168 = upA (upA (upA (M 168) (59 + 10 * b) 0) (65 + 10 * b) (-1)) (63 + 10 * b) 0 := by
        rw [jup_cell (by omega), jup_at_row, jup_at_row, jup_at_row, jup_cell (by omega), jup_cell (by omega), jup_cell (by omega)]
      have mc : ∀ c : Nat, c ≠ 0 → c ≠ 52 → c ≠ 55 → c ≠ 167 → c ≠ 168 → jup (jup (jup (jup (jup (jup (jup M 52 3 (jand (M 52 3) (jxor (jshl 1 (b : Int)) (-1)))) 55 0 (jor (M 55 0) (jshl 1 (b : Int)))) 0 0 0) 168 (59 + 10 * b) 0) 168 (65 + 10 * b) (-1)) 168 (63 + 10 * b) 0) 167 2 0 c = M c := fun c c0 c1 c2 c3 c4 => by
        rw [jup_cell c3, jup_cell c4, jup_cell c4, jup_cell c4, jup_cell c0, jup_cell c2, jup_cell c1]
      refine ⟨1, jup (jup (jup M 52 3 (jand (M 52 3) (jxor (jshl 1 (b : Int)) (-1)))) 55 0 (jor (M 55 0) (jshl 1 (b : Int)))) 0 0 0, 1, jup (jup (jup (jup (jup (jup (jup M 52 3 (jand (M 52 3) (jxor (jshl 1 (b : Int)) (-1)))) 55 0 (jor (M 55 0) (jshl 1 (b : Int)))) 0 0 0) 168 (59 + 10 * b) 0) 168 (65 + 10 * b) (-1)) 168 (63 + 10 * b) 0) 167 2 0, ?_, ?_, rfl, ?_⟩
      · unfold f_X11_mourn
        rw [h.isB hx1, bnd_some, if_pos h1, if_neg (by decide), h.isE b8 (by omega), bnd_some, if_pos c, if_neg (by decide)]
        simp only [letv_ap, letm_ap]
        rw [chk_pos (by decide), chk_pos (by decide), show (jw 0).toNat = 0 by decide, jup_cell (a := 52) (b := 52 + 3) (by omega)]
        rfl
      · unfold f_X12_mourn
        rw [h.isBM hx1 (jup (jup (jup M 52 3 (jand (M 52 3) (jxor (jshl 1 (b : Int)) (-1)))) 55 0 (jor (M 55 0) (jshl 1 (b : Int)))) 0 0 0) rfl, bnd_some, if_pos h1, if_neg (by decide), h.isEM b8 (by omega) (jup (jup (jup M 52 3 (jand (M 52 3) (jxor (jshl 1 (b : Int)) (-1)))) 55 0 (jor (M 55 0) (jshl 1 (b : Int)))) 0 0 0) rfl, bnd_some, if_pos c, if_neg (by decide), q_beastRow, bnd_some, chk_pos (ixj3 b8), ixb3 b8]
        simp only [letv_ap, letm_ap]
        rw [q_beastRow, bnd_some, chk_pos (ixj9 b8), ixb9 b8, q_beastRow, bnd_some, chk_pos (ixj7 b8), ixb7 b8]
        rfl
      · refine h.frame ⟨rfl, h.1.2.1, h.1.2.2⟩ rfl (fun c hc => ?_) (fun j hj => ?_) (fun k k1 k2 => by rw [mm]; exact eA k (by omega) (by omega) (by omega)) ?_ ?_ ?_ ?_
        · unfold keepC at hc
          exact mc c (by omega) (by omega) (by omega) (by omega) (by omega)
        · rw [jup_at, if_neg (by omega), jup_cell (by omega), jup_cell (by omega), jup_cell (by omega), jup_cell (by omega), jup_cell (by omega), jup_cell (by omega)]
        · rw [mm, blk_congr (by decide) (M := M) (a := 40) (z := 12) (fun j hj => mc _ (by omega) (by omega) (by omega) (by omega) (by omega))]
          exact hc.1.congr2 (fun k hk => eA k (by omega) (by omega) (by omega)) (fun t k ht hk => eA _ (by omega) (by omega) (by omega)) (fun b hb => ⟨eA _ (by omega) (by omega) (by omega), eA _ (by omega) (by omega) (by omega), eA _ (by omega) (by omega) (by omega)⟩)
        · rw [mm]
          have bk : ∀ j k : Nat, j < 8 → blk (jup (jup (jup (jup (jup (jup (jup M 52 3 (jand (M 52 3) (jxor (jshl 1 (b : Int)) (-1)))) 55 0 (jor (M 55 0) (jshl 1 (b : Int)))) 0 0 0) 168 (59 + 10 * b) 0) 168 (65 + 10 * b) (-1)) 168 (63 + 10 * b) 0) 167 2 0) 52 8 j k = jup (jup M 52 3 (jand (M 52 3) (jxor (jshl 1 (b : Int)) (-1)))) 55 0 (jor (M 55 0) (jshl 1 (b : Int))) (52 + j) k := fun j k hj => by
            rw [blk_at hj, jup_cell (by omega), jup_cell (by omega), jup_cell (by omega), jup_cell (by omega), jup_cell (by omega)]
          refine hR.mourn b8 (by omega) (hc.1.2.2.2.2.1 (by omega)) c (fun j k hj q1 q2 => ?_) ?_ ?_ (fun k k1 k2 k3 => eA k k1 k2 k3) ?_ ?_
          · rw [bk j k hj, blk_at hj]
            rw [jup_at, if_neg (by omega), jup_at, if_neg (by omega)]
          · rw [bk 0 3 (by omega)]
            exact ⟨s1.1, fun q q8 => s1.2 q q8⟩
          · rw [bk 3 0 (by omega)]
            exact ⟨s2.1, fun q q8 => s2.2 q q8⟩
          · rw [upA_ne (by omega), upA_ne (by omega), upA_same]
          · exact upA_same _ _ _
        · rw [blk_congr (by decide) (M := M) (a := 40) (z := 12) (fun j hj => mc _ (by omega) (by omega) (by omega) (by omega) (by omega)), mc 169 (by omega) (by omega) (by omega) (by omega) (by omega)]
          exact hc.2.2.1
        · rw [mm, mc 40 (by omega) (by omega) (by omega) (by omega) (by omega), blk_congr (by decide) (M := M) (a := 60) (z := 5) (fun j hj => mc _ (by omega) (by omega) (by omega) (by omega) (by omega))]
          exact hc.2.2.2.congr2 (eA 7 (by omega) (by omega) (by omega)) (fun k j hk hj => eA _ (by omega) (by omega) (by omega))
    · refine Pr.end (r := 0) (s := 0) (x := 7) (y := 7) h ?_ ?_ rfl rfl
      · unfold f_X11_mourn
        rw [h.isB hx1, bnd_some, if_pos h1, if_neg (by decide), h.isE b8 (by omega), bnd_some, if_neg c, if_pos (by decide)]; rfl
      · unfold f_X12_mourn
        rw [h.isBM hx1 (jup M 0 0 7) rfl, bnd_some, if_pos h1, if_neg (by decide), h.isEM b8 (by omega) (jup M 0 0 7) rfl, bnd_some, if_neg c, if_pos (by decide)]; rfl
  · refine Pr.end (r := 0) (s := 0) (x := 1) (y := 1) h ?_ ?_ rfl rfl
    · unfold f_X11_mourn
      rw [h.isB hx1, bnd_some, if_neg h1, if_pos (by decide)]; rfl
    · unfold f_X12_mourn
      rw [h.isBM hx1 (jup M 0 0 1) rfl, bnd_some, if_neg h1, if_pos (by decide)]; rfl
end PSMALL

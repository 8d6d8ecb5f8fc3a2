section PPOUR
variable {n : Nat} {M : JMem}
theorem jRn2' {t : Nat} (h : t < 4) : jRn 2 t = 3 + t := jRn2 t h
/-! tray -/
theorem c_lay_L {t : Nat} (t4 : t < 4) : ∀ (d i k : Nat) (M : JMem), i + d = 60 → d < k → ∃ M', f_X7_lay_L17 n k (t : Int) (i : Int) M = some (0, M') ∧ (∀ c : Nat, c ≠ 3 + t → M' c = M c) ∧ ∀ q : Nat, M' (3 + t) q = if i ≤ q ∧ q < 60 then 0 else M (3 + t) q := by
  intro d
  induction d with
  | zero =>
    intro i k M hi hk
    obtain ⟨k, rfl⟩ : ∃ q, k = q + 1 := ⟨k - 1, by omega⟩
    refine ⟨M, ?_, fun _ _ => rfl, fun q => by rw [if_neg (by omega)]⟩
    rw [f_X7_lay_L17, if_pos (by rw [show jw 60 = 60 by decide, jw_of (x := (i : Int)) (by omega) (by omega)]; omega)]
  | succ d ih =>
    intro i k M hi hk
    obtain ⟨k, rfl⟩ : ∃ q, k = q + 1 := ⟨k - 1, by omega⟩
    obtain ⟨M', r1, r2, r3⟩ := ih (i + 1) k (jup M (3 + t) i 0) (by omega) (by omega)
    refine ⟨M', ?_, fun c hc => by rw [r2 c hc, jup_cell hc], fun q => ?_⟩
    · rw [f_X7_lay_L17, if_neg (by rw [show jw 60 = 60 by decide, jw_of (x := (i : Int)) (by omega) (by omega)]; omega), chk_pos (jin_of (by omega) (by omega) (by omega)), chk_pos (jin_of (by omega) (by omega) (by omega)), show (jw (i : Int)).toNat = i from jwb (by omega), show (jw (t : Int)).toNat = t from jwb (by omega), jRn2' t4]
      simp only [letv_ap, letm_ap]
      exact r1
    · rw [r3 q, jup_if]
      by_cases e : q = i
      · rw [if_neg (by omega), if_pos e, if_pos (by omega)]
      · by_cases c : i + 1 ≤ q ∧ q < 60
        · rw [if_pos c, if_pos (by omega)]
        · rw [if_neg c, if_neg e, if_neg (by omega)]
theorem q_lay_L {t N : Nat} (t4 : t < 4) (hN : N ≤ 60) : ∀ (d i k : Nat) (M : JMem), i + d = N → d < k → ∃ M', f_X12_tray_L49 n k (t : Int) (N : Int) (i : Int) M = f_X12_tray_L74 n M' ∧ (∀ c : Nat, c ≠ 172 → M' c = M c) ∧ ∀ q : Nat, M' 172 q = if 60 * t + i ≤ q ∧ q < 60 * t + N then 0 else M 172 q := by
  intro d
  induction d with
  | zero =>
    intro i k M hi hk
    obtain ⟨k, rfl⟩ : ∃ q, k = q + 1 := ⟨k - 1, by omega⟩
    refine ⟨M, ?_, fun _ _ => rfl, fun q => by rw [if_neg (by omega)]⟩
    rw [f_X12_tray_L49, if_pos (by rw [jw_of (x := (N : Int)) (by omega) (by omega), jw_of (x := (i : Int)) (by omega) (by omega)]; omega)]
  | succ d ih =>
    intro i k M hi hk
    obtain ⟨k, rfl⟩ : ∃ q, k = q + 1 := ⟨k - 1, by omega⟩
    obtain ⟨M', r1, r2, r3⟩ := ih (i + 1) k (jup M 172 (60 * t + i) 0) (by omega) (by omega)
    refine ⟨M', ?_, fun c hc => by rw [r2 c hc, jup_cell hc], fun q => ?_⟩
    · rw [f_X12_tray_L49, if_neg (by rw [jw_of (x := (N : Int)) (by omega) (by omega), jw_of (x := (i : Int)) (by omega) (by omega)]; omega), show 60 * (t : Int) + (i : Int) = ((60 * t + i : Nat) : Int) by omega, chk_pos (jin_of (by omega) (by omega) (by omega)), show (jw ((60 * t + i : Nat) : Int)).toNat = 60 * t + i from jwb (by omega)]
      simp only [letv_ap, letm_ap]
      exact r1
    · rw [r3 q, jup_if]
      by_cases e : q = 60 * t + i
      · rw [if_neg (by omega), if_pos e, if_pos (by omega)]
      · by_cases c : 60 * t + (i + 1) ≤ q ∧ q < 60 * t + N
        · rw [if_pos c, if_pos (by omega)]
        · rw [if_neg c, if_neg e, if_neg (by omega)]
theorem jwt_at (M : JMem) {t : Nat} (h : t < 4) (q : Nat) : jwt M t q = M (3 + t) q := by rw [jwt_eq (M := M) t h]
theorem p_tray (hf : 100 ≤ n) : jO_tray JR n := by
  intro x1 x2 x3 hx1 hx2 hx3 M h
  have e2 := jwI hx2
  have e3 := jwI hx3
  have c3 : jw 3 = 3 := by decide
  have c60 : jw 60 = 60 := by decide
  by_cases h1 : 0 ≤ x1 ∧ x1 < 4
  · by_cases h2 : (0 ≤ x2 ∧ x2 ≤ 3) ∧ 0 ≤ x3 ∧ x3 ≤ 60
    · obtain ⟨t, t4, et⟩ := natOf (x := x1) (k := 4) h1.1 h1.2
      obtain ⟨N, N60, eN⟩ := natOf (x := x3) (k := 61) h2.2.1 (by omega)
      have tt : (jw x1).toNat = t := by rw [et]; exact jwb (by omega)
      have j1 : jin x1 4 := jin_of (by omega) (by omega) (by omega)
      obtain ⟨M1, a1, a2, a3⟩ := c_lay_L (n := n) t4 60 0 n (jup (jup M 7 t x2) 8 t x3) (by omega) (by omega)
      obtain ⟨M2, b1, b2, b3⟩ := q_lay_L (n := n) t4 (N := N) (by omega) N 0 n (jup (jup (jup M1 0 0 0) 170 t x2) 171 t x3) (by omega) (by omega)
      have k1 : ∀ c : Nat, c ≠ 7 → c ≠ 8 → c ≠ 3 + t → c ≠ 0 → c ≠ 170 → c ≠ 171 → c ≠ 172 → c ≠ 167 → jup M2 167 2 0 c = M c := fun c q1 q2 q3 q4 q5 q6 q7 q8 => by
        rw [jup_cell q8, b2 c q7, jup_cell q6, jup_cell q5, jup_cell q4, a2 c q3, jup_cell q2, jup_cell q1]
      have k0 : ∀ j : Nat, jup M2 167 2 0 0 j = if j = 0 then 0 else M 0 j := fun j => by
        rw [jup_cell (by omega), b2 0 (by omega), jup_cell (by omega), jup_cell (by omega), jup_if, a2 0 (by omega), jup_cell (by omega), jup_cell (by omega)]
      have k167 : ∀ j : Nat, jup M2 167 2 0 167 j = if j = 2 then 0 else M 167 j := fun j => by
        rw [jup_if, b2 167 (by omega), jup_cell (by omega), jup_cell (by omega), jup_cell (by omega), a2 167 (by omega), jup_cell (by omega), jup_cell (by omega)]
      have k7 : ∀ q : Nat, jup M2 167 2 0 7 q = if q = t then x2 else M 7 q := fun q => by
        rw [jup_cell (by omega), b2 7 (by omega), jup_cell (by omega), jup_cell (by omega), jup_cell (by omega), a2 7 (by omega), jup_cell (by omega), jup_if]
      have k8 : ∀ q : Nat, jup M2 167 2 0 8 q = if q = t then x3 else M 8 q := fun q => by
        rw [jup_cell (by omega), b2 8 (by omega), jup_cell (by omega), jup_cell (by omega), jup_cell (by omega), a2 8 (by omega), jup_if, jup_cell (by omega)]
      have k170 : ∀ q : Nat, jup M2 167 2 0 170 q = if q = t then x2 else M 170 q := fun q => by
        rw [jup_cell (by omega), b2 170 (by omega), jup_cell (by omega), jup_if, jup_cell (by omega), a2 170 (by omega), jup_cell (by omega), jup_cell (by omega)]
      have k171 : ∀ q : Nat, jup M2 167 2 0 171 q = if q = t then x3 else M 171 q := fun q => by
        rw [jup_cell (by omega), b2 171 (by omega), jup_if, jup_cell (by omega), jup_cell (by omega), a2 171 (by omega), jup_cell (by omega), jup_cell (by omega)]
      have kt : ∀ q : Nat, jup M2 167 2 0 (3 + t) q = if q < 60 then 0 else M (3 + t) q := fun q => by
        rw [jup_cell (by omega), b2 _ (by omega), jup_cell (by omega), jup_cell (by omega), jup_cell (by omega), a3 q, jup_cell (by omega), jup_cell (by omega)]
        by_cases c : q < 60
        · rw [if_pos (by omega), if_pos c]
        · rw [if_neg (by omega), if_neg c]
      have k172 : ∀ q : Nat, jup M2 167 2 0 172 q = if 60 * t ≤ q ∧ q < 60 * t + N then 0 else M 172 q := fun q => by
        rw [jup_cell (by omega), b3 q, jup_cell (by omega), jup_cell (by omega), jup_cell (by omega), a2 172 (by omega), jup_cell (by omega), jup_cell (by omega)]
        rfl
      refine ⟨1, jup M1 0 0 0, 1, jup M2 167 2 0, ?_, ?_, rfl, h.rest ?_ (fun j hj => by rw [k0 j, if_neg hj]) (fun j hj => by rw [k167 j, if_neg (by omega)]) (fun c hc => k1 c (by omega) (by omega) (by omega) (by omega) (by omega) (by omega) (by omega) (by omega)) (fun u u4 => ?_) ?_⟩
      · unfold f_X11_tray f_X7_lay
        simp only [letv_ap, letm_ap]
        rw [q_isTray hx1, bnd_some, if_pos h1, if_neg (by decide), if_neg (by omega), if_neg (by omega), if_neg (by omega), if_pos (by omega), chk_pos j1, chk_pos j1, tt, et, show f_X7_lay_L17 n n (t : Int) 0 (jup (jup M 7 t x2) 8 t x3) = _ from a1, bnd_some]
        rfl
      · unfold f_X12_tray
        simp only [letv_ap, letm_ap]
        rw [q_isTrayM hx1, bnd_some, if_pos h1, if_neg (by decide), if_neg (by omega), if_neg (by omega), if_neg (by omega), if_pos (by omega), chk_pos j1, chk_pos j1, tt, et]
        rw [eN] at b1 ⊢
        rw [show f_X12_tray_L49 n n (t : Int) (N : Int) 0 _ = _ from b1]
        rfl
      · rw [k0 0, k167 2, if_pos rfl, if_pos rfl]
      · rw [k7, k8, k170, k171]
        by_cases c : u = t
        · subst c
          right
          rw [if_pos rfl, if_pos rfl, if_pos rfl, if_pos rfl]
          refine ⟨h2.1.1, h2.1.2, rfl, h2.2.1, h2.2.2, rfl, fun k k60 hk => ?_⟩
          rw [jwt_at _ t4, kt k, if_pos k60, k172, if_pos (by omega)]
        · rw [if_neg c, if_neg c, if_neg c, if_neg c]
          rcases h.tr u4 with q | ⟨q0, q1, q2, q3, q4, q5, q6⟩
          · exact Or.inl q
          · refine Or.inr ⟨q0, q1, q2, q3, q4, q5, fun k k60 hk => ?_⟩
            rw [jwt_at _ u4, k1 (3 + u) (by omega) (by omega) (by omega) (by omega) (by omega) (by omega) (by omega) (by omega), k172, if_neg (by omega), ← jwt_at M u4]
            exact q6 k k60 hk
      · rw [k1 9 (by omega) (by omega) (by omega) (by omega) (by omega) (by omega) (by omega) (by omega), k1 10 (by omega) (by omega) (by omega) (by omega) (by omega) (by omega) (by omega) (by omega), k1 11 (by omega) (by omega) (by omega) (by omega) (by omega) (by omega) (by omega) (by omega), k1 173 (by omega) (by omega) (by omega) (by omega) (by omega) (by omega) (by omega) (by omega)]
        have g3 := h.2.2.1
        unfold Rtxt at g3 ⊢
        rw [k167 10, k167 16, k167 17, if_neg (by omega), if_neg (by omega), if_neg (by omega)]
        exact g3
    · refine Pr.end (r := 0) (s := 0) (x := 1) (y := 1) h ?_ ?_ rfl rfl
      · unfold f_X11_tray f_X11_tray_L26
        rw [q_isTray hx1, bnd_some, if_pos h1, if_neg (by decide)]
        by_cases c1 : x2 < 0
        · rw [if_pos (by omega)]; rfl
        · by_cases c2 : 3 < x2
          · rw [if_neg (by omega), if_pos (by omega)]; rfl
          · by_cases c4 : x3 < 0
            · rw [if_neg (by omega), if_neg (by omega), if_pos (by omega)]; rfl
            · rw [if_neg (by omega), if_neg (by omega), if_neg (by omega), if_neg (by omega)]; rfl
      · unfold f_X12_tray f_X12_tray_L26
        rw [q_isTrayM hx1, bnd_some, if_pos h1, if_neg (by decide)]
        by_cases c1 : x2 < 0
        · rw [if_pos (by omega)]; rfl
        · by_cases c2 : 3 < x2
          · rw [if_neg (by omega), if_pos (by omega)]; rfl
          · by_cases c4 : x3 < 0
            · rw [if_neg (by omega), if_neg (by omega), if_pos (by omega)]; rfl
            · rw [if_neg (by omega), if_neg (by omega), if_neg (by omega), if_neg (by omega)]; rfl
  · refine Pr.end (r := 0) (s := 0) (x := 1) (y := 1) h ?_ ?_ rfl rfl
    · unfold f_X11_tray f_X11_tray_L26
      rw [q_isTray hx1, bnd_some, if_neg h1, if_pos (by decide)]; rfl
    · unfold f_X12_tray f_X12_tray_L26
      rw [q_isTrayM hx1, bnd_some, if_neg h1, if_pos (by decide)]; rfl
/-- one tray's numbers are other ones, alike on both sides -/
theorem JR.row (h : JR M) {M' : JMem} {t : Nat} (t4 : t < 4) (hst : jw (M' 0 0) = jw (M' 167 2)) (h0 : ∀ j : Nat, j ≠ 0 → M' 0 j = M 0 j) (h67 : ∀ j : Nat, j ≠ 2 → M' 167 j = M 167 j) (hk : ∀ c : Nat, c ≠ 0 → c ≠ 3 + t → c ≠ 167 → c ≠ 172 → M' c = M c)
    (h172 : ∀ q : Nat, ¬ (60 * t ≤ q ∧ q < 60 * t + 60) → M' 172 q = M 172 q) (hr : ∀ k : Nat, k < 60 → (k : Int) < M 8 t → jwl (M' (3 + t) k) = jwl (M' 172 (60 * t + k))) : JR M' := by
  refine h.rest hst h0 (fun j hj => h67 j (by omega)) (fun c hc => hk c (by omega) (by omega) (by omega) (by omega)) (fun u u4 => ?_) ?_
  · rw [hk 7 (by omega) (by omega) (by omega) (by omega), hk 8 (by omega) (by omega) (by omega) (by omega), hk 170 (by omega) (by omega) (by omega) (by omega), hk 171 (by omega) (by omega) (by omega) (by omega)]
    rcases h.tr u4 with q | ⟨q0, q1, q2, q3, q4, q5, q6⟩
    · exact Or.inl q
    · refine Or.inr ⟨q0, q1, q2, q3, q4, q5, fun k k60 hk2 => ?_⟩
      rw [jwt_at _ u4]
      by_cases c : u = t
      · subst c
        exact hr k k60 hk2
      · rw [hk (3 + u) (by omega) (by omega) (by omega) (by omega), h172 _ (by omega), ← jwt_at M u4]
        exact q6 k k60 hk2
  · rw [hk 9 (by omega) (by omega) (by omega) (by omega), hk 10 (by omega) (by omega) (by omega) (by omega), hk 11 (by omega) (by omega) (by omega) (by omega), hk 173 (by omega) (by omega) (by omega) (by omega)]
    have g3 := h.2.2.1
    unfold Rtxt at g3 ⊢
    rw [h67 10 (by omega), h67 16 (by omega), h67 17 (by omega)]
    exact g3
/-! copyPlaces -/
theorem c_copyP_L (h : JR M) (hf : 100 ≤ n) {t : Nat} (t4 : t < 4) (hs : 0 ≤ M 7 t ∧ M 7 t ≤ 3) : ∀ (d i k : Nat) (X : JMem), i + d = (M 168 2).toNat → d < k → (∀ c : Nat, c ≠ 3 + t → X c = M c) → ∃ X', f_X11_copyPlaces_L28 n k (t : Int) (i : Int) X = some (M 168 2, jup X' 0 0 0) ∧ (∀ c : Nat, c ≠ 3 + t → X' c = M c) ∧ ∀ q : Nat, X' (3 + t) q = if i ≤ q ∧ (q : Int) < M 168 2 then shr (M 7 t) (wh (M 168) q) else X (3 + t) q := by
  have nb := h.nb
  have hc := h.cur
  have hA := SA.of hc.1 hc.2.1
  intro d
  induction d with
  | zero =>
    intro i k X hi hk hF
    obtain ⟨k, rfl⟩ : ∃ q, k = q + 1 := ⟨k - 1, by omega⟩
    have e2 : X 40 2 = M 168 2 := by rw [hF 40 (by omega)]; exact nb.1
    refine ⟨X, ?_, hF, fun q => by rw [if_neg (by omega)]⟩
    rw [f_X11_copyPlaces_L28, e2, if_pos (by rw [jw_of (x := M 168 2) (by omega) (by omega), jw_of (x := (i : Int)) (by omega) (by omega)]; omega)]
    unfold f_X11_copyPlaces_L67
    rw [e2]; rfl
  | succ d ih =>
    intro i k X hi hk hF
    obtain ⟨k, rfl⟩ : ∃ q, k = q + 1 := ⟨k - 1, by omega⟩
    have i8 : i < 8 := by omega
    have e2 : X 40 2 = M 168 2 := by rw [hF 40 (by omega)]; exact nb.1
    have hw := hA.whK i8 (by omega)
    have sp : f_X1_spotOf n 52 40 (i : Int) X = some (wh (M 168) i, X) := q_spotOf hf (by rw [blk_congr (by decide) (M := M) (a := 40) (z := 12) (fun j hj => hF _ (by omega))]; exact hc.1) (by rw [blk_congr (by decide) (M := M) (a := 52) (z := 8) (fun j hj => hF _ (by omega))]; exact hc.2.1) i8 (by omega)
    have e7 : X 7 t = M 7 t := by rw [hF 7 (by omega)]
    obtain ⟨X', r1, r2, r3⟩ := ih (i + 1) k (jup X (3 + t) i (shr (M 7 t) (wh (M 168) i))) (by omega) (by omega) (fun c hc => by rw [jup_cell hc, hF c hc])
    refine ⟨X', ?_, r2, fun q => ?_⟩
    · rw [f_X11_copyPlaces_L28, e2, if_neg (by rw [jw_of (x := M 168 2) (by omega) (by omega), jw_of (x := (i : Int)) (by omega) (by omega)]; omega), sp, bnd_some, jw_of (x := wh (M 168) i) (by omega) (by omega), q_put t4 (by omega) (by rw [e7]; exact hs), bnd_some, e7]
      simp only [letv_ap]
      exact r1
    · rw [r3 q, jup_if]
      by_cases e : q = i
      · rw [if_neg (by omega), if_pos e, if_pos (by omega), e]
      · by_cases c : i + 1 ≤ q ∧ (q : Int) < M 168 2
        · rw [if_pos c, if_pos (by omega)]
        · rw [if_neg c, if_neg e, if_neg (by omega)]
theorem q_copyP_L (h : JR M) (hf : 100 ≤ n) {t : Nat} (t4 : t < 4) (hs : 0 ≤ M 7 t ∧ M 7 t ≤ 3) (h170 : M 170 t = M 7 t) : ∀ (d i k : Nat) (X : JMem), i + d = (M 168 2).toNat → d < k → X 168 = M 168 → X 170 = M 170 → ∃ X', f_X12_copyPlaces_L52 n k (t : Int) (i : Int) X = some (M 168 2, jup X' 167 2 0) ∧ (∀ c : Nat, c ≠ 172 → X' c = X c) ∧ ∀ q : Nat, X' 172 q = if 60 * t + i ≤ q ∧ (q : Int) < 60 * t + M 168 2 then shr (M 7 t) (wh (M 168) (q - 60 * t)) else X 172 q := by
  have nb := h.nb
  have hc := h.cur
  have hA := SA.of hc.1 hc.2.1
  intro d
  induction d with
  | zero =>
    intro i k X hi hk e168 e170
    obtain ⟨k, rfl⟩ : ∃ q, k = q + 1 := ⟨k - 1, by omega⟩
    refine ⟨X, ?_, fun _ _ => rfl, fun q => by rw [if_neg (by omega)]⟩
    rw [f_X12_copyPlaces_L52, chk_pos (by decide), show (jw 2).toNat = 2 by decide, e168, if_pos (by rw [jw_of (x := M 168 2) (by omega) (by omega), jw_of (x := (i : Int)) (by omega) (by omega)]; omega)]
    unfold f_X12_copyPlaces_L94
    rw [chk_pos (by decide), show (jw 2).toNat = 2 by decide, e168]; rfl
  | succ d ih =>
    intro i k X hi hk e168 e170
    obtain ⟨k, rfl⟩ : ∃ q, k = q + 1 := ⟨k - 1, by omega⟩
    have i8 : i < 8 := by omega
    have hw := hA.whK i8 (by omega)
    obtain ⟨X', r1, r2, r3⟩ := ih (i + 1) k (jup X 172 (60 * t + i) (shr (M 7 t) (wh (M 168) i))) (by omega) (by omega) (by rw [jup_cell (by omega)]; exact e168) (by rw [jup_cell (by omega)]; exact e170)
    refine ⟨X', ?_, fun c hc => by rw [r2 c hc, jup_cell hc], fun q => ?_⟩
    · rw [f_X12_copyPlaces_L52, chk_pos (by decide), show (jw 2).toNat = 2 by decide, e168, if_neg (by rw [jw_of (x := M 168 2) (by omega) (by omega), jw_of (x := (i : Int)) (by omega) (by omega)]; omega), h.whM i8 (by omega) X e168, bnd_some, chk_pos (jin_of (by omega) (by omega) (by omega)), show (jw (t : Int)).toNat = t from jwb (by omega), e170, h170, jw_of (x := wh (M 168) i) (by omega) (by omega), q_shrunk hs, bnd_some, show 60 * (t : Int) + (i : Int) = ((60 * t + i : Nat) : Int) by omega, chk_pos (jin_of (by omega) (by omega) (by omega)), show (jw ((60 * t + i : Nat) : Int)).toNat = 60 * t + i from jwb (by omega)]
      simp only [letv_ap, letm_ap]
      exact r1
    · rw [r3 q, jup_if]
      by_cases e : q = 60 * t + i
      · rw [if_neg (by omega), if_pos e, if_pos (by omega), e, show 60 * t + i - 60 * t = i by omega]
      · by_cases c : 60 * t + (i + 1) ≤ q ∧ (q : Int) < 60 * t + M 168 2
        · rw [if_pos c, if_pos (by omega)]
        · rw [if_neg c, if_neg e, if_neg (by omega)]
theorem p_copyPlaces (hf : 100 ≤ n) : jO_copyPlaces JR n := by
  intro x1 hx1 M h
  have nb := h.nb
  by_cases h1 : 0 ≤ x1 ∧ x1 < 4
  · obtain ⟨t, t4, et⟩ := natOf (x := x1) (k := 4) h1.1 h1.2
    have tt : (jw x1).toNat = t := by rw [et]; exact jwb (by omega)
    have j1 : jin x1 4 := jin_of (by omega) (by omega) (by omega)
    have jn : jw (M 40 2) = M 168 2 := by rw [nb.1]; exact jw_of (by omega) (by omega)
    have jn2 : jw (M 168 2) = M 168 2 := jw_of (by omega) (by omega)
    rcases h.tr t4 with ⟨a1, a2⟩ | ⟨b0, b1, b2, b3, b4, b5, b6⟩
    · refine Pr.end (r := -1) (s := -1) (x := 2) (y := 2) h ?_ ?_ rfl rfl
      · unfold f_X11_copyPlaces f_X7_whyNotLong f_X7_isMissing
        rw [q_isTray hx1, bnd_some, if_pos h1, if_neg (by decide), chk_pos j1, tt, a1, if_pos rfl, bnd_some, if_neg (by decide), bnd_some]
        simp only [letv_ap]
        rw [if_neg (by decide)]; rfl
      · unfold f_X12_copyPlaces
        rw [q_isTrayM hx1, bnd_some, if_pos h1, if_neg (by decide), chk_pos j1, tt, show jup M 0 0 2 171 = M 171 from rfl, a2, if_pos rfl]; rfl
    · have m7 : ¬ jw (M 7 t) = jw (-1) := by rw [jw_of (x := M 7 t) (by omega) (by omega), show jw (-1) = -1 by decide]; omega
      have j8 : jw (M 8 t) = M 8 t := jw_of (by omega) (by omega)
      have m171 : ¬ jw (M 171 t) = jw (-1) := by rw [b5, j8, show jw (-1) = -1 by decide]; omega
      by_cases c : M 168 2 ≤ M 8 t
      · obtain ⟨X1, r1, r2, r3⟩ := c_copyP_L (n := n) h hf t4 ⟨b0, b1⟩ (M 168 2).toNat 0 n M (by omega) (by omega) (fun _ _ => rfl)
        obtain ⟨X2, s1, s2, s3⟩ := q_copyP_L (n := n) h hf t4 ⟨b0, b1⟩ b2 (M 168 2).toNat 0 n (jup X1 0 0 0) (by omega) (by omega) (by rw [jup_cell (by omega), r2 168 (by omega)]) (by rw [jup_cell (by omega), r2 170 (by omega)])
        refine ⟨M 168 2, jup X1 0 0 0, M 168 2, jup X2 167 2 0, ?_, ?_, rfl, h.row t4 ?_ (fun j hj => ?_) (fun j hj => ?_) (fun c c0 c1 c2 c3 => ?_) (fun q hq => ?_) (fun k k60 hk => ?_)⟩
        · unfold f_X11_copyPlaces f_X7_whyNotLong f_X7_isMissing
          rw [q_isTray hx1, bnd_some, if_pos h1, if_neg (by decide), chk_pos j1, tt, if_neg m7, bnd_some, if_pos (by decide), chk_pos j1, jn, j8, if_pos c, bnd_some]
          simp only [letv_ap]
          rw [if_pos (by decide), et]
          exact r1
        · unfold f_X12_copyPlaces
          simp only [letv_ap]
          rw [q_isTrayM hx1, bnd_some, if_pos h1, if_neg (by decide), chk_pos j1, tt, show jup X1 0 0 0 171 = M 171 by rw [jup_cell (by omega), r2 171 (by omega)], if_neg m171, chk_pos j1, chk_pos (by decide), show (jw 2).toNat = 2 by decide, show jup X1 0 0 0 168 = M 168 by rw [jup_cell (by omega), r2 168 (by omega)], jn2, b5, j8, if_pos c, et]
          exact s1
        · rw [jup_cell (by omega), s2 0 (by omega), jup_if, if_pos rfl, jup_if, if_pos rfl]
        · rw [jup_cell (by omega), s2 0 (by omega), jup_if, if_neg hj, r2 0 (by omega)]
        · rw [jup_if, if_neg hj, s2 167 (by omega), jup_cell (by omega), r2 167 (by omega)]
        · rw [jup_cell c2, s2 c c3, jup_cell c0, r2 c c1]
        · rw [jup_cell (by omega), s3 q, if_neg (by omega), jup_cell (by omega), r2 172 (by omega)]
        · rw [jup_cell (by omega), s2 _ (by omega), jup_cell (by omega), r3 k, jup_cell (by omega), s3 _, jup_cell (by omega), r2 172 (by omega)]
          by_cases w : (k : Int) < M 168 2
          · rw [if_pos ⟨by omega, w⟩, if_pos (by omega), show 60 * t + k - 60 * t = k by omega]
          · rw [if_neg (by omega), if_neg (by omega), ← jwt_at M t4]
            exact b6 k k60 hk
      · refine Pr.end (r := -1) (s := -1) (x := 3) (y := 3) h ?_ ?_ rfl rfl
        · unfold f_X11_copyPlaces f_X7_whyNotLong f_X7_isMissing
          rw [q_isTray hx1, bnd_some, if_pos h1, if_neg (by decide), chk_pos j1, tt, if_neg m7, bnd_some, if_pos (by decide), chk_pos j1, jn, j8, if_neg c, bnd_some]
          simp only [letv_ap]
          rw [if_neg (by decide)]; rfl
        · unfold f_X12_copyPlaces
          rw [q_isTrayM hx1, bnd_some, if_pos h1, if_neg (by decide), chk_pos j1, tt, show jup M 0 0 3 171 = M 171 from rfl, if_neg m171, chk_pos j1, chk_pos (by decide), show (jw 2).toNat = 2 by decide, show jup M 0 0 3 168 = M 168 from rfl, jn2, b5, j8, if_neg c]; rfl
  · refine Pr.end (r := -1) (s := -1) (x := 1) (y := 1) h ?_ ?_ rfl rfl
    · unfold f_X11_copyPlaces f_X7_whyNotLong
      rw [q_isTray hx1, bnd_some, if_neg h1, if_pos (by decide), bnd_some]
      simp only [letv_ap]
      rw [if_neg (by decide)]; rfl
    · unfold f_X12_copyPlaces
      rw [q_isTrayM hx1, bnd_some, if_neg h1, if_pos (by decide)]; rfl
end PPOUR

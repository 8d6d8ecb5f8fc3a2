section PFEED
variable {n : Nat} {M : JMem}
/-! pour -/
theorem q_pour_L {f t p a N : Nat} (f4 : f < 4) (t4 : t < 4) (hp : p + N ≤ 60) (ha : a + N ≤ 60) {M0 : JMem} : ∀ (d i k : Nat) (M : JMem), i + d = N → d < k → (∀ c : Nat, c ≠ 172 → M c = M0 c) →
    (∀ q : Nat, M 172 q = if 60 * t + a ≤ q ∧ q < 60 * t + a + N ∧ ((p < a ∧ 60 * t + a + (N - i) ≤ q) ∨ (¬ p < a ∧ q < 60 * t + a + i)) then M0 172 (60 * f + p + (q - (60 * t + a))) else M0 172 q) →
    ∃ M', f_X12_pour_L118 n k (f : Int) (p : Int) (t : Int) (a : Int) (N : Int) (i : Int) M = f_X12_pour_L180 n M' ∧ (∀ c : Nat, c ≠ 172 → M' c = M0 c) ∧ ∀ q : Nat, M' 172 q = if 60 * t + a ≤ q ∧ q < 60 * t + a + N then M0 172 (60 * f + p + (q - (60 * t + a))) else M0 172 q := by
  intro d
  induction d with
  | zero =>
    intro i k M hi hk hF hq
    obtain ⟨k, rfl⟩ : ∃ q, k = q + 1 := ⟨k - 1, by omega⟩
    obtain rfl : i = N := by omega
    refine ⟨M, ?_, hF, fun q => ?_⟩
    · rw [f_X12_pour_L118, if_pos (Int.le_refl _)]
    · rw [hq q]
      by_cases c : 60 * t + a ≤ q ∧ q < 60 * t + a + i
      · rw [if_pos c, if_pos (by omega)]
      · rw [if_neg c, if_neg (by omega)]
  | succ d ih =>
    intro i k M hi hk hF hq
    obtain ⟨k, rfl⟩ : ∃ q, k = q + 1 := ⟨k - 1, by omega⟩
    -- one number goes over: the j-th
    have go : ∀ j : Nat, j < N → ((p < a ∧ j + 1 = N - i) ∨ (¬ p < a ∧ j = i)) → ∃ M', f_X12_pour_L143 n (f_X12_pour_L118 n k) (f : Int) (p : Int) (t : Int) (a : Int) (N : Int) (i : Int) (j : Int) M = f_X12_pour_L180 n M' ∧ (∀ c : Nat, c ≠ 172 → M' c = M0 c) ∧ ∀ q : Nat, M' 172 q = if 60 * t + a ≤ q ∧ q < 60 * t + a + N then M0 172 (60 * f + p + (q - (60 * t + a))) else M0 172 q := fun j hj hji => by
      unfold f_X12_pour_L143
      simp only [letv_ap, letm_ap]
      rw [show 60 * (f : Int) + (p : Int) + (j : Int) = ((60 * f + p + j : Nat) : Int) by omega, show 60 * (t : Int) + (a : Int) + (j : Int) = ((60 * t + a + j : Nat) : Int) by omega, chk_pos (jin_of (by omega) (by omega) (by omega)), chk_pos (jin_of (by omega) (by omega) (by omega)), show (jw ((60 * f + p + j : Nat) : Int)).toNat = 60 * f + p + j from jwb (by omega), show (jw ((60 * t + a + j : Nat) : Int)).toNat = 60 * t + a + j from jwb (by omega), show (i : Int) + 1 = ((i + 1 : Nat) : Int) by omega]
      have rd : M 172 (60 * f + p + j) = M0 172 (60 * f + p + j) := by
        rw [hq, if_neg (by omega)]
      refine ih (i + 1) k _ (by omega) (by omega) (fun c hc => by rw [jup_cell hc, hF c hc]) (fun q => ?_)
      rw [jup_if, rd]
      by_cases e1 : q = 60 * t + a + j
      · rw [if_pos e1, if_pos (by omega), show 60 * f + p + (q - (60 * t + a)) = 60 * f + p + j by omega]
      · rw [if_neg e1, hq q]
        by_cases c : 60 * t + a ≤ q ∧ q < 60 * t + a + N ∧ ((p < a ∧ 60 * t + a + (N - i) ≤ q) ∨ (¬ p < a ∧ q < 60 * t + a + i))
        · rw [if_pos c, if_pos (by omega)]
        · rw [if_neg c, if_neg (by omega)]
    rw [f_X12_pour_L118, if_neg (by rw [jw_of (x := (N : Int)) (by omega) (by omega), jw_of (x := (i : Int)) (by omega) (by omega)]; omega)]
    by_cases e : p < a
    · rw [if_neg (by rw [jw_of (x := (a : Int)) (by omega) (by omega), jw_of (x := (p : Int)) (by omega) (by omega)]; omega), show (N : Int) - 1 - (i : Int) = ((N - 1 - i : Nat) : Int) by omega]
      exact go (N - 1 - i) (by omega) (by omega)
    · rw [if_pos (by rw [jw_of (x := (a : Int)) (by omega) (by omega), jw_of (x := (p : Int)) (by omega) (by omega)]; omega)]
      exact go i (by omega) (by omega)
theorem p_pour (hf : 100 ≤ n) : jO_pour JR n := by
  intro x1 x2 x3 x4 x5 hx1 hx2 hx3 hx4 hx5 M h
  have e2 := jwI hx2
  have e4 := jwI hx4
  have e5 := jwI hx5
  have b2 := hx2
  have b4 := hx4
  have b5 := hx5
  unfold I32 at b2 b4 b5
  have cend : ∀ s : Int, ∃ r M1, f_X11_deny n s M = some (r, M1) := fun s => ⟨_, _, rfl⟩
  by_cases h1 : (0 ≤ x1 ∧ x1 < 4) ∧ (0 ≤ x3 ∧ x3 < 4) ∧ 0 ≤ x2 ∧ 0 ≤ x4 ∧ 0 ≤ x5
  · obtain ⟨h1, h3, q2, q4, q5⟩ := h1
    obtain ⟨f, f4, ef⟩ := natOf (x := x1) (k := 4) h1.1 h1.2
    obtain ⟨t, t4, et⟩ := natOf (x := x3) (k := 4) h3.1 h3.2
    have tf : ∀ _ : True, (jw x1).toNat = f := fun _ => by rw [ef]; exact jwb (by omega)
    have tt : ∀ _ : True, (jw x3).toNat = t := fun _ => by rw [et]; exact jwb (by omega)
    have j1 : jin x1 4 := jin_of (by omega) (by omega) (by omega)
    have j3 : jin x3 4 := jin_of (by omega) (by omega) (by omega)
    have mis : ∀ u : Nat, u < 4 → (jw (M 7 u) = jw (-1) ∧ M 171 u = -1) ∨ (¬ jw (M 7 u) = jw (-1) ∧ ¬ jw (M 171 u) = jw (-1) ∧ 0 ≤ M 7 u ∧ M 7 u ≤ 3 ∧ M 170 u = M 7 u ∧ 0 ≤ M 8 u ∧ M 8 u ≤ 60 ∧ M 171 u = M 8 u ∧ ∀ k : Nat, k < 60 → (k : Int) < M 8 u → jwl (M (3 + u) k) = jwl (M 172 (60 * u + k))) := fun u u4 => by
      rcases h.tr u4 with ⟨a1, a2⟩ | ⟨b0, b1, b2, b3, b4, b5, b6⟩
      · exact Or.inl ⟨by rw [a1], a2⟩
      · refine Or.inr ⟨by rw [jw_of (x := M 7 u) (by omega) (by omega), show jw (-1) = -1 by decide]; omega, by rw [b5, jw_of (x := M 8 u) (by omega) (by omega), show jw (-1) = -1 by decide]; omega, b0, b1, b2, b3, b4, b5, fun k k60 hk => ?_⟩
        rw [← jwt_at M u4]; exact b6 k k60 hk
    have cst : f_X11_pour n x1 x2 x3 x4 x5 M = if jw (M 7 f) = jw (-1) then f_X11_pour_L56 n M else if jw (M 7 t) = jw (-1) then f_X11_pour_L56 n M else if jw (M 7 f) = jw (M 7 t) then (bnd (f_X7_hasRun n x1 x2 x5 M) fun r9 M10 => if jw r9 = 0 then (f_X11_pour_L119 n M10) else (bnd (f_X7_hasRun n x3 x4 x5 M10) fun r11 M12 => if jw r11 = 0 then (f_X11_pour_L119 n M12) else (chk (jcpok x2 x4 x5 60 60) <| some (1, jup (jcpy M12 (3 + f) x2 (3 + t) x4 x5) 0 0 0)))) else some (0, jup M 0 0 8) := by
      unfold f_X11_pour f_X7_isMissing
      simp only [letm_ap]
      rw [q_isTray hx1, bnd_some, if_pos h1, if_neg (by decide), q_isTray hx3, bnd_some, if_pos h3, if_neg (by decide), if_neg (by omega), if_neg (by omega), if_pos (by omega), chk_pos j1, tf trivial]
      by_cases c1 : jw (M 7 f) = jw (-1)
      · rw [if_pos c1, if_pos c1, bnd_some, if_neg (by decide)]
      · rw [if_neg c1, if_neg c1, bnd_some, if_pos (by decide), chk_pos j3, tt trivial]
        by_cases c2 : jw (M 7 t) = jw (-1)
        · rw [if_pos c2, if_pos c2, bnd_some, if_neg (by decide)]
        · rw [if_neg c2, if_neg c2, bnd_some, if_pos (by decide), chk_pos j1, chk_pos j3]
          by_cases c3 : jw (M 7 f) = jw (M 7 t)
          · rw [if_pos c3, if_pos c3]
            congr 1
            funext r9 M10
            congr 1
            congr 1
            funext r11 M12
            congr 1
            rw [chk_pos j1, chk_pos j3, jRn2' f4, jRn2' t4]
            rfl
          · rw [if_neg c3, if_neg c3]; rfl
    have rst : ∀ X : JMem, f_X12_pour n x1 x2 x3 x4 x5 X = if jw (X 171 f) = jw (-1) then f_X12_pour_L54 n X else if jw (X 171 t) = jw (-1) then f_X12_pour_L54 n X else if jw (X 170 f) = jw (X 170 t) then (if jw (X 171 f - x2) < jw x5 then f_X12_pour_L109 n X else if jw x5 ≤ jw (X 171 t - x4) then f_X12_pour_L118 n n x1 x2 x3 x4 x5 0 X else f_X12_pour_L109 n X) else some (0, jup X 167 2 8) := fun X => by
      unfold f_X12_pour
      simp only [letv_ap]
      rw [q_isTrayM hx1, bnd_some, if_pos h1, if_neg (by decide), q_isTrayM hx3, bnd_some, if_pos h3, if_neg (by decide), if_neg (by omega), if_neg (by omega), if_pos (by omega), chk_pos j1, tf trivial]
      by_cases c1 : jw (X 171 f) = jw (-1)
      · rw [if_pos c1, if_pos c1]
      · rw [if_neg c1, if_neg c1, chk_pos j3, tt trivial]
        by_cases c2 : jw (X 171 t) = jw (-1)
        · rw [if_pos c2, if_pos c2]
        · rw [if_neg c2, if_neg c2, chk_pos j1, chk_pos j3]
          by_cases c3 : jw (X 170 f) = jw (X 170 t)
          · rw [if_pos c3, if_pos c3, chk_pos j1]
            by_cases c4 : jw (X 171 f - x2) < jw x5
            · rw [if_pos c4, if_pos c4]
            · rw [if_neg c4, if_neg c4, chk_pos j3]
          · rw [if_neg c3, if_neg c3]; rfl
    rcases mis f f4 with ⟨a1, a2⟩ | ⟨m1, m2, m3, m4, m5, m6, m7, m8, m9⟩
    · refine Pr.end (r := 0) (s := 0) (x := 2) (y := 2) h ?_ ?_ rfl rfl
      · rw [cst, if_pos a1]; rfl
      · rw [rst, show jup M 0 0 2 171 = M 171 from rfl, a2, if_pos rfl]; rfl
    rcases mis t t4 with ⟨a1, a2⟩ | ⟨n1, n2, n3, n4, n5, n6, n7, n8, n9⟩
    · refine Pr.end (r := 0) (s := 0) (x := 2) (y := 2) h ?_ ?_ rfl rfl
      · rw [cst, if_neg m1, if_pos a1]; rfl
      · rw [rst, show jup M 0 0 2 171 = M 171 from rfl, if_neg m2, a2, if_pos rfl]; rfl
    by_cases c3 : jw (M 7 f) = jw (M 7 t)
    · have run : ∀ (u y : Int) (w : Nat) (X : JMem), X = M → (jw u).toNat = w → jin u 4 → 0 ≤ y → y < 2147483648 → 0 ≤ M 8 w → M 8 w ≤ 60 → f_X7_hasRun n u y x5 X = some (if y + x5 ≤ M 8 w then 1 else 0, X) := fun u y w X hX hu ju y0 y1 w0 w1 => by
        unfold f_X7_hasRun
        have s := (@jcmp_sign (y + x5) (M 8 w)).2.1
        rw [jwl_of (x := y + x5) (by omega) (by omega), jwl_of (x := M 8 w) (by omega) (by omega)] at s
        rw [chk_pos ju, hu, hX, jw_of (x := y) (by omega) (by omega), e5, jw_of (x := M 8 w) (by omega) (by omega)]
        by_cases c : y + x5 ≤ M 8 w
        · rw [if_pos c, if_neg (fun q => by have := s.1 q; omega)]
        · rw [if_neg c, if_pos (s.2 (by omega))]
      by_cases c4 : x2 + x5 ≤ M 8 f
      · by_cases c5 : x4 + x5 ≤ M 8 t
        · obtain ⟨p, p60, ep⟩ := natOf (x := x2) (k := 61) q2 (by omega)
          obtain ⟨a, a60, ea⟩ := natOf (x := x4) (k := 61) q4 (by omega)
          obtain ⟨N, N60, eN⟩ := natOf (x := x5) (k := 61) q5 (by omega)
          have ecp : ∀ c j : Nat, jcpy M (3 + f) x2 (3 + t) x4 x5 c j = if c = 3 + t then (if a ≤ j ∧ j < a + N then M (3 + f) (p + (j - a)) else M (3 + t) j) else M c j := fun c j => by
            rw [jcpy_at, e4, e5, e2, ep, ea, eN, Int.toNat_natCast, Int.toNat_natCast, Int.toNat_natCast]
          have e0 : ∀ c : Nat, c ≠ 3 + t → c ≠ 0 → jup (jcpy M (3 + f) x2 (3 + t) x4 x5) 0 0 0 c = M c := fun c c1 c2 => by
            rw [jup_cell c2]
            funext j
            rw [ecp, if_neg c1]
          obtain ⟨M2, g1, g2, g3⟩ := q_pour_L (n := n) f4 t4 (p := p) (a := a) (N := N) (by omega) (by omega) (M0 := jup (jcpy M (3 + f) x2 (3 + t) x4 x5) 0 0 0) N 0 n (jup (jcpy M (3 + f) x2 (3 + t) x4 x5) 0 0 0) (by omega) (by omega) (fun _ _ => rfl) (fun q => by rw [if_neg (by omega)])
          have k0 : ∀ j : Nat, jup M2 167 2 0 0 j = if j = 0 then 0 else M 0 j := fun j => by
            rw [jup_cell (by omega), g2 0 (by omega), jup_if]
            by_cases c : j = 0
            · rw [if_pos c, if_pos c]
            · rw [if_neg c, if_neg c, ecp, if_neg (by omega)]
          refine ⟨1, jup (jcpy M (3 + f) x2 (3 + t) x4 x5) 0 0 0, 1, jup M2 167 2 0, ?_, ?_, rfl, h.row t4 ?_ (fun j hj => by rw [k0 j, if_neg hj]) (fun j hj => ?_) (fun c c0 c1 c2 c3 => ?_) (fun q hq => ?_) (fun k k60 hk => ?_)⟩
          · rw [cst, if_neg m1, if_neg n1, if_pos c3, run x1 x2 f M rfl (tf trivial) j1 q2 (by omega) m6 m7, bnd_some, if_pos c4, if_neg (by decide), run x3 x4 t M rfl (tt trivial) j3 q4 (by omega) n6 n7, bnd_some, if_pos c5, if_neg (by decide), chk_pos]
            unfold jcpok
            rw [e2, e4, e5]
            omega
          · rw [rst, e0 171 (by omega) (by omega), e0 170 (by omega) (by omega), if_neg m2, if_neg n2, m5, n5, if_pos c3, m8, n8, e5, jw_of (x := M 8 f - x2) (by omega) (by omega), if_neg (by omega), jw_of (x := M 8 t - x4) (by omega) (by omega), if_pos (by omega)]
            rw [ef, ep, et, ea, eN]
            rw [ep, ea, eN] at g1
            rw [show f_X12_pour_L118 n n (f : Int) (p : Int) (t : Int) (a : Int) (N : Int) 0 _ = _ from g1]
            rfl
          · rw [k0 0, jup_if, if_pos rfl, if_pos rfl]
          · rw [jup_if, if_neg hj, g2 167 (by omega), e0 167 (by omega) (by omega)]
          · rw [jup_cell c2, g2 c c3, e0 c c1 c0]
          · rw [jup_cell (by omega), g3 q, if_neg (by omega), e0 172 (by omega) (by omega)]
          · rw [jup_cell (by omega), jup_cell (by omega), g2 (3 + t) (by omega), g3, jup_cell (by omega), ecp, if_pos rfl, e0 172 (by omega) (by omega)]
            by_cases w : a ≤ k ∧ k < a + N
            · rw [if_pos w, if_pos (by omega), show 60 * f + p + (60 * t + k - (60 * t + a)) = 60 * f + (p + (k - a)) by omega]
              exact m9 _ (by omega) (by omega)
            · rw [if_neg w, if_neg (by omega)]
              exact n9 k k60 hk
        · refine Pr.end (r := 0) (s := 0) (x := 3) (y := 3) h ?_ ?_ rfl rfl
          · rw [cst, if_neg m1, if_neg n1, if_pos c3, run x1 x2 f M rfl (tf trivial) j1 q2 (by omega) m6 m7, bnd_some, if_pos c4, if_neg (by decide), run x3 x4 t M rfl (tt trivial) j3 q4 (by omega) n6 n7, bnd_some, if_neg c5, if_pos (by decide)]; rfl
          · rw [rst, show jup M 0 0 3 171 = M 171 from rfl, show jup M 0 0 3 170 = M 170 from rfl, if_neg m2, if_neg n2, m5, n5, if_pos c3, m8, n8, e5, jw_of (x := M 8 f - x2) (by omega) (by omega), if_neg (by omega), jw_of (x := M 8 t - x4) (by omega) (by omega), if_neg (by omega)]; rfl
      · refine Pr.end (r := 0) (s := 0) (x := 3) (y := 3) h ?_ ?_ rfl rfl
        · rw [cst, if_neg m1, if_neg n1, if_pos c3, run x1 x2 f M rfl (tf trivial) j1 q2 (by omega) m6 m7, bnd_some, if_neg c4, if_pos (by decide)]; rfl
        · rw [rst, show jup M 0 0 3 171 = M 171 from rfl, show jup M 0 0 3 170 = M 170 from rfl, if_neg m2, if_neg n2, m5, n5, if_pos c3, m8, n8, e5, jw_of (x := M 8 f - x2) (by omega) (by omega), if_pos (by omega)]; rfl
    · refine Pr.end (r := 0) (s := 0) (x := 8) (y := 8) h ?_ ?_ rfl rfl
      · rw [cst, if_neg m1, if_neg n1, if_neg c3]
      · rw [rst, show jup M 0 0 8 171 = M 171 from rfl, show jup M 0 0 8 170 = M 170 from rfl, if_neg m2, if_neg n2, m5, n5, if_neg c3]
  · refine Pr.end (r := 0) (s := 0) (x := 1) (y := 1) h ?_ ?_ rfl rfl
    · unfold f_X11_pour f_X11_pour_L28
      rw [q_isTray hx1, bnd_some]
      by_cases c1 : 0 ≤ x1 ∧ x1 < 4
      · rw [if_pos c1, if_neg (by decide), q_isTray hx3, bnd_some]
        by_cases c2 : 0 ≤ x3 ∧ x3 < 4
        · rw [if_pos c2, if_neg (by decide)]
          by_cases c3 : x2 < 0
          · rw [if_pos (by omega)]; rfl
          · rw [if_neg (by omega)]
            by_cases c4 : x4 < 0
            · rw [if_pos (by omega)]; rfl
            · rw [if_neg (by omega), if_neg (by omega)]; rfl
        · rw [if_neg c2, if_pos (by decide)]; rfl
      · rw [if_neg c1, if_pos (by decide)]; rfl
    · unfold f_X12_pour f_X12_pour_L28
      rw [q_isTrayM hx1, bnd_some]
      by_cases c1 : 0 ≤ x1 ∧ x1 < 4
      · rw [if_pos c1, if_neg (by decide), q_isTrayM hx3, bnd_some]
        by_cases c2 : 0 ≤ x3 ∧ x3 < 4
        · rw [if_pos c2, if_neg (by decide)]
          by_cases c3 : x2 < 0
          · rw [if_pos (by omega)]; rfl
          · rw [if_neg (by omega)]
            by_cases c4 : x4 < 0
            · rw [if_pos (by omega)]; rfl
            · rw [if_neg (by omega), if_neg (by omega)]; rfl
        · rw [if_neg c2, if_pos (by decide)]; rfl
      · rw [if_neg c1, if_pos (by decide)]; rfl
end PFEED

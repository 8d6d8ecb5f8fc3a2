section PSOONBY
variable {n : Nat} {M : JMem}
theorem SWi.gt {A : Nat → Int} (hA : SA A) {cl k s r : Int} {t to p : Nat} (t6 : to < 6) (hw : SWi A cl t to r) (hs : s ≤ 64) (c1 : A (8 + 6 * t) = p) (c2 : k ≤ A (10 + 6 * t)) : r = s ↔ GT A cl p k to s t := by
  constructor
  · intro e
    rcases hw with ⟨a, b⟩ | ⟨a, b, V, v1, v2⟩
    · omega
    · exact ⟨c1, c2, a, b, V, v1, by rw [← v2]; exact e⟩
  · rintro ⟨a1, a2, a3, a4, V, v1, v2⟩
    rcases hw with ⟨a, b⟩ | ⟨a, b, W, w1, w2⟩
    · rcases a with a | a
      · exact absurd a a3
      · omega
    · rw [w2, ← v2]
      exact EA.uniq hA w1 v1 t6
theorem JR.firstT (h : JR M) (hf : 100 ≤ n) {x2 k s : Int} (hx : S8 x2) {p0 to : Nat} (hp0 : p0 < 6) (t6 : to < 6) (hk0 : 0 ≤ k ∧ k ≤ 64) (hs : 0 ≤ s ∧ s ≤ 64) :
    ∀ (d i q : Nat) (M1 : JMem), i + d = (M 168 1).toNat → d < q → (∀ c : Nat, c ≠ 77 → c ≠ 78 → M1 c = M c) → OrdK (M 168) (M 168 1).toNat (M1 78) → (∀ t : Nat, t < i → ¬ GT (M 168) x2 p0 k to s t) →
    ∃ r M2, f_X8_firstTrain_L25 n 40 q x2 (p0 : Int) k (to : Int) s (i : Int) M1 = some (r, M2) ∧ (∀ c : Nat, c ≠ 77 → M2 c = M1 c) ∧ FT (M 168 1) (GT (M 168) x2 p0 k to s) r := by
  have n1 := h.sa.2.1
  have n0 := h.sa.1
  intro d
  induction d with
  | zero =>
    intro i q M1 hi hq hF hO hn
    obtain ⟨q, rfl⟩ : ∃ z, q = z + 1 := ⟨q - 1, by omega⟩
    have e1 : M1 40 1 = M 168 1 := by rw [hF 40 (by omega) (by omega)]; exact h.nt.1
    refine ⟨-1, M1, ?_, fun _ _ => rfl, Or.inl ⟨rfl, fun t tl => hn t (by omega)⟩⟩
    rw [f_X8_firstTrain_L25, e1, if_pos (by rw [jw_of (x := M 168 1) (by omega) (by omega), jw_of (x := (i : Int)) (by omega) (by omega)]; omega)]
  | succ d ih =>
    intro i q M1 hi hq hF hO hn
    obtain ⟨q, rfl⟩ : ∃ z, q = z + 1 := ⟨q - 1, by omega⟩
    have e1 : M1 40 1 = M 168 1 := by rw [hF 40 (by omega) (by omega)]; exact h.nt.1
    have i8 : i < 8 := by omega
    have il : (i : Int) < M 168 1 := by omega
    obtain ⟨p1, p2, p3, p4, p5⟩ := h.cur.1.2.2.2.2.2.1 i i8 il
    have e4 : M1 (40 + 4) i = M 168 (8 + 6 * i) := by rw [hF (40 + 4) (by omega) (by omega)]; exact p1.1
    have e6 : M1 (40 + 6) i = M 168 (10 + 6 * i) := by rw [hF (40 + 6) (by omega) (by omega)]; exact p3.1
    have skip : ∀ M2 : JMem, (∀ c : Nat, c ≠ 77 → M2 c = M1 c) → ¬ GT (M 168) x2 p0 k to s i → ∃ r M3, f_X8_firstTrain_L75 n 40 (f_X8_firstTrain_L25 n 40 q) x2 (p0 : Int) k (to : Int) s (i : Int) M2 = some (r, M3) ∧ (∀ c : Nat, c ≠ 77 → M3 c = M1 c) ∧ FT (M 168 1) (GT (M 168) x2 p0 k to s) r := fun M2 h2 hg => by
      obtain ⟨r, M3, r1, r2, r3⟩ := ih (i + 1) q M2 (by omega) (by omega) (fun c c1 c2 => by rw [h2 c c1, hF c c1 c2]) (by rw [h2 78 (by omega)]; exact hO) (fun t ht => by
        by_cases e : t = i
        · rw [e]; exact hg
        · exact hn t (by omega))
      refine ⟨r, M3, ?_, fun c hc => by rw [r2 c hc, h2 c hc], r3⟩
      unfold f_X8_firstTrain_L75
      simp only [letv_ap]
      exact r1
    rw [f_X8_firstTrain_L25, e1, if_neg (by rw [jw_of (x := M 168 1) (by omega) (by omega), jw_of (x := (i : Int)) (by omega) (by omega)]; omega), chk_pos (jin_of (by omega) (by omega) (by omega)), chk_pos (jin_of (by omega) (by omega) (by omega)), show (jw (i : Int)).toNat = i from jwb (by omega), e4, e6, jw_of (x := M 168 (8 + 6 * i)) (by omega) (by omega), jw_of (x := (p0 : Int)) (by omega) (by omega), jw_of (x := M 168 (10 + 6 * i)) (by omega) (by omega), jw_of (x := k) (by omega) (by omega)]
    by_cases c1 : M 168 (8 + 6 * i) = p0
    · rw [if_pos c1]
      by_cases c2 : M 168 (10 + 6 * i) < k
      · rw [if_pos c2]
        exact skip M1 (fun _ _ => rfl) (fun g => by have := g.2.1; omega)
      · rw [if_neg c2]
        obtain ⟨r, M2, a1, a2, a3⟩ := h.soonW (n := n) hf hx i8 il t6 hF hO
        have gt := a3.gt h.sa t6 hs.2 c1 (Int.not_lt.1 c2)
        have rb : 0 ≤ r ∧ r ≤ 65 := by
          rcases a3 with ⟨a, b⟩ | ⟨a, b, V, v1, v2⟩
          · omega
          · have := v1.2.1 to t6
            omega
        rw [a1, bnd_some, jw_of (x := r) (by omega) (by omega), jw_of (x := s) (by omega) (by omega)]
        by_cases c3 : r = s
        · rw [if_pos c3]
          exact ⟨(i : Int), M2, rfl, a2, Or.inr ⟨i, rfl, il, gt.1 c3, hn⟩⟩
        · rw [if_neg c3]
          exact skip M2 a2 (fun g => c3 (gt.2 g))
    · rw [if_neg c1]
      exact skip M1 (fun _ _ => rfl) (fun g => c1 g.1)
theorem JR.firstM (h : JR M) (hf : 100 ≤ n) {g k s : Int} (g1 : S8 g) (g2 : ∀ t : Nat, t < 8 → (bit g t = true ↔ (t : Int) < M 168 1 ∧ ¬ bit (M 52 4) t = true)) (g3 : ∀ M1 : JMem, M1 168 = M 168 → f_X12_going n M1 = some (g, M1)) {p0 to : Nat} (hp0 : p0 < 6) (t6 : to < 6) (hk0 : 0 ≤ k ∧ k ≤ 64) (hs : 0 ≤ s ∧ s ≤ 64) {M0 : JMem} (h168 : M0 168 = M 168) :
    ∀ (d i q : Nat) (M1 : JMem), i + d = (M 168 1).toNat → d < q → (∀ c : Nat, c ≠ 179 → M1 c = M0 c) → (∀ t : Nat, t < i → ¬ GT (M 168) (M 52 4) p0 k to s t) →
    ∃ r M2, f_X12_soonestBy_L64 n q (p0 : Int) k (to : Int) s (i : Int) M1 = some (r, jup M2 167 2 (if r = -1 then 6 else 0)) ∧ (∀ c : Nat, c ≠ 179 → M2 c = M0 c) ∧ FT (M 168 1) (GT (M 168) (M 52 4) p0 k to s) r := by
  have n1 := h.sa.2.1
  have n0 := h.sa.1
  intro d
  induction d with
  | zero =>
    intro i q M1 hi hq hF hn
    obtain ⟨q, rfl⟩ : ∃ z, q = z + 1 := ⟨q - 1, by omega⟩
    have e1 : M1 168 = M 168 := by rw [hF 168 (by omega)]; exact h168
    refine ⟨-1, M1, ?_, hF, Or.inl ⟨rfl, fun t tl => hn t (by omega)⟩⟩
    rw [f_X12_soonestBy_L64, chk_pos (by decide), show (jw 1).toNat = 1 by decide, e1, if_pos (by rw [jw_of (x := M 168 1) (by omega) (by omega), jw_of (x := (i : Int)) (by omega) (by omega)]; omega)]
    rfl
  | succ d ih =>
    intro i q M1 hi hq hF hn
    obtain ⟨q, rfl⟩ : ∃ z, q = z + 1 := ⟨q - 1, by omega⟩
    have e1 : M1 168 = M 168 := by rw [hF 168 (by omega)]; exact h168
    have i8 : i < 8 := by omega
    have il : (i : Int) < M 168 1 := by omega
    obtain ⟨s1, s2, s3, s4, s5, s6⟩ := h.sa.2.2.2.2.2.1 i i8 il
    obtain ⟨o, o6, eo⟩ := natOf (x := M 168 (9 + 6 * i)) (k := 6) (by omega) (by omega)
    have gi := g2 i i8
    have skip : ∀ M2 : JMem, (∀ c : Nat, c ≠ 179 → M2 c = M0 c) → ¬ GT (M 168) (M 52 4) p0 k to s i → ∃ r M3, f_X12_soonestBy_L172 n (f_X12_soonestBy_L64 n q) (p0 : Int) k (to : Int) s (i : Int) M2 = some (r, jup M3 167 2 (if r = -1 then 6 else 0)) ∧ (∀ c : Nat, c ≠ 179 → M3 c = M0 c) ∧ FT (M 168 1) (GT (M 168) (M 52 4) p0 k to s) r := fun M2 h2 hg => by
      obtain ⟨r, M3, r1, r2, r3⟩ := ih (i + 1) q M2 (by omega) (by omega) h2 (fun t ht => by
        by_cases e : t = i
        · rw [e]; exact hg
        · exact hn t (by omega))
      refine ⟨r, M3, ?_, r2, r3⟩
      unfold f_X12_soonestBy_L172
      simp only [letv_ap]
      exact r1
    rw [f_X12_soonestBy_L64, chk_pos (by decide), show (jw 1).toNat = 1 by decide, show M1 168 1 = M 168 1 by rw [e1], if_neg (by rw [jw_of (x := M 168 1) (by omega) (by omega), jw_of (x := (i : Int)) (by omega) (by omega)]; omega), q_to2 i8, bnd_some, q_to3 i8, bnd_some]
    simp only [letv_ap]
    rw [g3 M1 e1, bnd_some, q_isInM g1 i8, bnd_some, e1]
    by_cases c0 : bit g i = true
    · rw [if_pos c0, if_neg (by decide), q_to0 i8, bnd_some, e1, jw_of (x := M 168 (8 + 6 * i)) (by omega) (by omega), jw_of (x := (p0 : Int)) (by omega) (by omega)]
      by_cases c1 : M 168 (8 + 6 * i) = p0
      · rw [if_pos c1, q_to2 i8, bnd_some, e1, jw_of (x := M 168 (10 + 6 * i)) (by omega) (by omega), jw_of (x := k) (by omega) (by omega)]
        by_cases c2 : M 168 (10 + 6 * i) < k
        · rw [if_pos c2]
          exact skip M1 hF (fun g => by have := g.2.1; omega)
        · rw [if_neg c2, jw_of (x := M 168 (10 + 6 * i) + M 168 (11 + 6 * i)) (by omega) (by omega), show jw 64 = 64 by decide]
          by_cases c3 : M 168 (10 + 6 * i) + M 168 (11 + 6 * i) ≤ 64
          · obtain ⟨V, hV⟩ := h.ea h.cl o6 (k := M 168 (10 + 6 * i) + M 168 (11 + 6 * i)) ⟨by omega, c3⟩
            obtain ⟨M2, a1, a2, a3⟩ := h.lays (n := n) hf g1 (cl := M 52 4) (fun t t8 tl => (g2 t t8).trans ⟨fun q => q.2, fun q => ⟨tl, q⟩⟩) o6 (k := M 168 (10 + 6 * i) + M 168 (11 + 6 * i)) ⟨by omega, c3⟩ hV (M1 := M1) e1
            have vb := hV.2.1 to t6
            have gt : GT (M 168) (M 52 4) p0 k to s i ↔ V to = s := by
              constructor
              · rintro ⟨_, _, _, _, W, w1, w2⟩
                rw [eo, Int.toNat_natCast] at w1
                rw [EA.uniq h.sa hV w1 t6]; exact w2
              · intro e
                exact ⟨c1, Int.not_lt.1 c2, (gi.1 c0).2, c3, V, by rw [eo, Int.toNat_natCast]; exact hV, e⟩
            rw [if_pos c3, q_to1 i8, bnd_some, g3 M1 e1, bnd_some, e1, eo, a1, bnd_some, chk_pos (jin_of (by omega) (by omega) (by omega)), show (jw (to : Int)).toNat = to from jwb (by omega), a3 to t6, jw_of (x := s) (by omega) (by omega)]
            by_cases c4 : V to = s
            · rw [if_pos (show V to ≤ 64 by omega), jw_of (x := V to) (by omega) (by omega), if_pos c4]
              refine ⟨(i : Int), M2, ?_, fun c hc => by rw [a2 c hc, hF c hc], Or.inr ⟨i, rfl, il, gt.2 c4, hn⟩⟩
              rw [if_neg (by omega)]
              rfl
            · have : ¬ jw (if V to ≤ 64 then V to else 1000000) = s := by
                by_cases c5 : V to ≤ 64
                · rw [if_pos c5, jw_of (x := V to) (by omega) (by omega)]; exact c4
                · rw [if_neg c5, show jw 1000000 = 1000000 by decide]; omega
              rw [if_neg this]
              exact skip M2 (fun c hc => by rw [a2 c hc, hF c hc]) (fun q => c4 (gt.1 q))
          · rw [if_neg c3]
            exact skip M1 hF (fun g => c3 g.2.2.2.1)
      · rw [if_neg c1]
        exact skip M1 hF (fun g => c1 g.1)
    · rw [if_neg c0, if_pos (by decide)]
      exact skip M1 hF (fun g => c0 (gi.2 ⟨il, g.2.2.1⟩))
theorem p_soonestBy (hf : 200 ≤ n) : jO_soonestBy JR n := by
  intro x1 x2 x3 hx1 hx2 hx3 M h
  have e1 := jwI hx1
  have e2 := jwI hx2
  have e3 := jwI hx3
  have np := h.np
  have c64 : jw 64 = 64 := by decide
  by_cases hw : (0 ≤ x1 ∧ x1 < M 168 0) ∧ (0 ≤ x3 ∧ x3 < M 168 0) ∧ 0 ≤ x2 ∧ x2 ≤ 63
  · have hw0 := hw
    obtain ⟨w1, w3, w2⟩ := hw
    obtain ⟨p, p6, ep⟩ := natOf (x := x1) (k := 6) (by omega) (by omega)
    obtain ⟨q, q6, eq⟩ := natOf (x := x3) (k := 6) (by omega) (by omega)
    obtain ⟨M1, a1, a2, a3⟩ := h.ord (n := n) (by omega)
    obtain ⟨M2, b1, b2, b3⟩ := h.soon (n := n) (by omega) h.cl p6 q6 (k := x2) ⟨w2.1, by omega⟩ (M1 := M1) (fun c _ c2 => a2 c c2) a3
    have hF : ∀ c : Nat, c ≠ 77 → c ≠ 78 → M2 c = M c := fun c c1 c2 => by rw [b2 c c1, a2 c c2]
    have vb := b3.2.1 q q6
    obtain ⟨g, g1, g2, g3⟩ := h.going (n := n) (by omega)
    have fcl : f_X11_soonestBy n x1 x2 x3 M = if x1 = x3 then some (-1, jup M 0 0 7) else bnd (if M2 77 q ≤ 64 then f_X8_firstTrain_L25 n 40 n (M 52 4) (p : Int) x2 (q : Int) (M2 77 q) 0 M2 else some (-1, M2)) fun r7 M8 => if jw r7 = jw (-1) then some (-1, jup M8 0 0 6) else some (r7, jup M8 0 0 0) := by
      unfold f_X11_soonestBy
      rw [h.isP hx1, bnd_some, if_pos w1, if_neg (by decide), h.isP hx3, bnd_some, if_pos w3, if_neg (by decide), e2, if_neg (by omega), c64, if_pos (by omega), e1, e3]
      by_cases c : x1 = x3
      · rw [if_pos c, if_pos c]; rfl
      · rw [if_neg c, if_neg c, a1, bnd_some, a2 52 (by omega), ep, eq]
        unfold f_X8_firstTrain
        rw [b1, bnd_some]
        simp only [letv_ap]
        rw [c64, jw_of (x := M2 77 q) (by omega) (by omega)]
        rfl
    have fre : ∀ (M1 : JMem), M1 168 = M 168 → ∃ M3, (∀ c : Nat, c ≠ 179 → M3 c = M1 c) ∧ f_X12_soonestBy n x1 x2 x3 M1 = if M2 77 q ≤ 64 then (if x1 = x3 then some (-1, jup M3 167 2 7) else f_X12_soonestBy_L64 n n (p : Int) x2 (q : Int) (M2 77 q) 0 M3) else some (-1, jup M3 167 2 6) := fun M1 e168 => by
      obtain ⟨M3, d1, d2, d3⟩ := h.lays (n := n) (by omega) g1 (cl := M 52 4) (fun t t8 tl => (g2 t t8).trans ⟨fun q => q.2, fun q => ⟨tl, q⟩⟩) p6 (k := x2) ⟨w2.1, by omega⟩ b3 (M1 := M1) e168
      refine ⟨M3, d2, ?_⟩
      unfold f_X12_soonestBy
      rw [h.isWay hx1 hx2 hx3 M1 e168, bnd_some, if_pos hw0, if_neg (by decide), g3 M1 e168, bnd_some]
      by_cases ex : x1 = x3
      · rw [if_pos ex, ep, eq, d1, bnd_some, chk_pos (jin_of (by omega) (by omega) (by omega))]
        simp only [letv_ap]
        rw [show (jw (q : Int)).toNat = q from jwb (by omega), d3 q q6, show jw 1000000 = 1000000 by decide]
        by_cases c : M2 77 q ≤ 64
        · rw [if_pos c, if_neg (by rw [jw_of (x := M2 77 q) (by omega) (by omega)]; omega), if_pos (show jw (p : Int) = jw (q : Int) by rw [← ep, ← eq, ex]), if_pos c]; rfl
        · rw [if_neg c, if_pos (by decide), if_neg c]; rfl
      · rw [if_neg ex, ep, eq, d1, bnd_some, chk_pos (jin_of (by omega) (by omega) (by omega))]
        simp only [letv_ap]
        rw [show (jw (q : Int)).toNat = q from jwb (by omega), d3 q q6, show jw 1000000 = 1000000 by decide]
        by_cases c : M2 77 q ≤ 64
        · rw [if_pos c, if_neg (by rw [jw_of (x := M2 77 q) (by omega) (by omega)]; omega), if_neg (show ¬ jw (p : Int) = jw (q : Int) by rw [← ep, ← eq, e1, e3]; exact ex), if_pos c]
        · rw [if_neg c, if_pos (by decide), if_neg c]; rfl
    by_cases ex : x1 = x3
    · obtain ⟨M3, d1, d2⟩ := fre (jup M 0 0 7) rfl
      have pq : p = q := by omega
      have : M2 77 q ≤ 64 := by rw [← pq, b3.1]; omega
      exact Pr.way h (M1 := M) (by rw [fcl, if_pos ex]) (fun _ _ _ => rfl) (by rw [d2, if_pos this, if_pos ex]) d1 rfl
    · rw [if_neg ex] at fcl
      by_cases c : M2 77 q ≤ 64
      · obtain ⟨r, M4, u1, u2, u3⟩ := h.firstT (n := n) (by omega) h.cl p6 q6 (k := x2) (s := M2 77 q) ⟨w2.1, by omega⟩ ⟨by omega, c⟩ (M 168 1).toNat 0 n M2 (by omega) (by have := h.nt; omega) hF (by rw [b2 78 (by omega)]; exact a3) (fun t ht => by omega)
        have u1' : f_X8_firstTrain_L25 n 40 n (M 52 4) (p : Int) x2 (q : Int) (M2 77 q) 0 M2 = some (r, M4) := u1
        rw [if_pos c, u1', bnd_some] at fcl
        have hF4 : ∀ c : Nat, c ≠ 77 → c ≠ 78 → M4 c = M c := fun c c1 c2 => by rw [u2 c c1, hF c c1 c2]
        have key : ∀ v : Int, ∃ M3, f_X12_soonestBy n x1 x2 x3 (jup M4 0 0 v) = some (r, jup M3 167 2 (if r = -1 then 6 else 0)) ∧ ∀ c : Nat, c ≠ 179 → M3 c = jup M4 0 0 v c := fun v => by
          have e168 : jup M4 0 0 v 168 = M 168 := by rw [jup_cell (by omega), hF4 168 (by omega) (by omega)]
          obtain ⟨M3, d1, d2⟩ := fre (jup M4 0 0 v) e168
          obtain ⟨r', M5, v1, v2, v3⟩ := h.firstM (n := n) (by omega) g1 g2 g3 p6 q6 (k := x2) (s := M2 77 q) ⟨w2.1, by omega⟩ ⟨by omega, c⟩ (M0 := jup M4 0 0 v) e168 (M 168 1).toNat 0 n M3 (by omega) (by have := h.nt; omega) d1 (fun t ht => by omega)
          have er : r' = r := v3.uniq u3
          rw [er] at v1
          refine ⟨M5, ?_, v2⟩
          rw [d2, if_pos c, if_neg ex]
          exact v1
        by_cases cr : r = -1
        · obtain ⟨M3, k1, k2⟩ := key 6
          rw [if_pos cr] at k1
          exact Pr.way h (by rw [fcl, cr, if_pos rfl]) hF4 k1 k2 (by rw [cr])
        · obtain ⟨M3, k1, k2⟩ := key 0
          rw [if_neg cr] at k1
          have rb : ∃ t : Nat, r = t ∧ t < 8 := by
            rcases u3 with ⟨z, _⟩ | ⟨t, t1, t2, _⟩
            · exact absurd z cr
            · have := h.nt
              exact ⟨t, t1, by omega⟩
          obtain ⟨t, t1, t2⟩ := rb
          exact Pr.way h (by rw [fcl, if_neg (by rw [t1, jw_of (x := (t : Int)) (by omega) (by omega), show jw (-1) = -1 by decide]; omega)]) hF4 k1 k2 rfl
      · obtain ⟨M3, d1, d2⟩ := fre (jup M2 0 0 6) (by rw [jup_cell (by omega), hF 168 (by omega) (by omega)])
        rw [if_neg c, bnd_some, if_pos rfl] at fcl
        exact Pr.way h fcl hF (by rw [d2, if_neg c]) d1 rfl
  · refine Pr.end (r := -1) (s := -1) (x := 1) (y := 1) h ?_ ?_ rfl rfl
    · unfold f_X11_soonestBy f_X11_soonestBy_L26
      rw [h.isP hx1, bnd_some]
      by_cases w1 : 0 ≤ x1 ∧ x1 < M 168 0
      · rw [if_pos w1, if_neg (by decide), h.isP hx3, bnd_some]
        by_cases w3 : 0 ≤ x3 ∧ x3 < M 168 0
        · rw [if_pos w3, if_neg (by decide), e2, c64]
          by_cases c : x2 < 0
          · rw [if_pos c]; rfl
          · rw [if_neg c, if_neg (by omega)]; rfl
        · rw [if_neg w3, if_pos (by decide)]; rfl
      · rw [if_neg w1, if_pos (by decide)]; rfl
    · unfold f_X12_soonestBy
      rw [h.isWay hx1 hx2 hx3 (jup M 0 0 1) rfl, bnd_some, if_neg hw, if_pos (by decide)]; rfl
end PSOONBY

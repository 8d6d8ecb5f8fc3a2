section PSTAY
variable {n : Nat} {M : JMem}
theorem p_latest (hf : 200 ≤ n) : jO_latest JR n := by
  intro x1 x2 x3 hx1 hx2 hx3 M h
  have e1 := jwI hx1
  have e2 := jwI hx2
  have e3 := jwI hx3
  have np := h.np
  have c64 : jw 64 = 64 := by decide
  by_cases hw : (0 ≤ x1 ∧ x1 < M 168 0) ∧ (0 ≤ x2 ∧ x2 < M 168 0) ∧ 0 ≤ x3 ∧ x3 ≤ 64
  · obtain ⟨w1, w2, w3⟩ := hw
    have cl0 : f_X11_latest n x1 x2 x3 M = if x1 = x2 then some (x3, jup M 0 0 0) else bnd (f_X8_order n 40 M) fun _ M6 => bnd (f_X8_lastStart n 40 (M6 52 4) x1 x2 x3 M6) fun r7 M8 => if jw r7 = jw (-1) then some (-1, jup M8 0 0 6) else some (r7, jup M8 0 0 0) := by
      unfold f_X11_latest
      rw [h.isP hx1, bnd_some, if_pos w1, if_neg (by decide), h.isP hx2, bnd_some, if_pos w2, if_neg (by decide), e3, if_neg (by omega), c64, if_pos (by omega), e1, e2]
      by_cases c : x1 = x2
      · rw [if_pos c, if_pos c]; rfl
      · rw [if_neg c, if_neg c]
        simp only [letv_ap]
        rfl
    have re0 : ∀ M1 : JMem, M1 168 = M 168 → f_X12_latest n x1 x2 x3 M1 = bnd (f_X12_latestOf n x1 x2 x3 M1) fun r7 M8 => bnd (f_X12_orNone n r7 M8) fun r9 M10 => some (r9, M10) := fun M1 e => by
      unfold f_X12_latest
      rw [h.isPM hx1 M1 e, bnd_some, if_pos w1, if_neg (by decide), h.isPM hx2 M1 e, bnd_some, if_pos w2, if_neg (by decide), e3, q_isFrom (by omega) (by omega) (by omega), bnd_some, if_pos w3, if_neg (by decide)]
    obtain ⟨p, p6, ep⟩ := natOf (x := x1) (k := 6) (by omega) (by omega)
    obtain ⟨q, q6, eq⟩ := natOf (x := x2) (k := 6) (by omega) (by omega)
    by_cases ex : x1 = x2
    · rw [if_pos ex] at cl0
      refine Pr.way h (M1 := M) (M2 := jup M 0 0 0) cl0 (fun _ _ _ => rfl) (s := x3) ?_ (fun _ _ => rfl) rfl
      rw [re0 (jup M 0 0 0) rfl]
      unfold f_X12_latestOf f_X12_orNone
      rw [if_pos (by rw [ex]), bnd_some, e3, if_neg (by rw [show jw (-1) = -1 by decide]; omega)]
      rfl
    · rw [if_neg ex] at cl0
      obtain ⟨M1, a1, a2, a3⟩ := h.ord (n := n) (by omega)
      obtain ⟨r, M2, b1, b2, b3, b4, b5⟩ := h.lastStart (n := n) (by omega) h.cl p6 q6 (b := x3) w3 (M1 := M1) (fun c _ c2 => a2 c c2) a3
      have hF : ∀ c : Nat, c ≠ 77 → c ≠ 78 → M2 c = M c := fun c c1 c2 => by rw [b2 c c1, a2 c c2]
      rw [a1, bnd_some, a2 52 (by omega), ep, eq, b1, bnd_some, jw_of (x := r) (by omega) (by omega), show jw (-1) = -1 by decide] at cl0
      obtain ⟨g, g1, g2, g3⟩ := h.going (n := n) (by omega)
      have key : ∀ v : Int, ∃ M3, f_X12_latest n x1 x2 x3 (jup M2 0 0 v) = some (if r = -1 then -1 else r, jup M3 167 2 (if r = -1 then 6 else 0)) ∧ ∀ c : Nat, c ≠ 179 → M3 c = jup M2 0 0 v c := fun v => by
        have e168 : jup M2 0 0 v 168 = M 168 := by rw [jup_cell (by omega), hF 168 (by omega) (by omega)]
        obtain ⟨r', M3, d1, d2, d3⟩ := h.latestOf (n := n) (by omega) g1 g2 g3 p6 q6 (by omega) w3 (M1 := jup M2 0 0 v) e168
        have er : r' = r := d3.uniq b3
        refine ⟨M3, ?_, d2⟩
        rw [re0 _ e168, ep, eq, d1, bnd_some, er]
        unfold f_X12_orNone
        rw [jw_of (x := r) (by omega) (by omega), show jw (-1) = -1 by decide]
        by_cases c : r = -1
        · rw [if_pos c, if_pos c, if_pos c]; rfl
        · rw [if_neg c, if_neg c, if_neg c]; rfl
      by_cases c : r = -1
      · obtain ⟨M3, k1, k2⟩ := key 6
        rw [if_pos c, if_pos c] at k1
        rw [if_pos c] at cl0
        exact Pr.way h (by rw [ep, eq]; exact cl0) hF k1 k2 rfl
      · obtain ⟨M3, k1, k2⟩ := key 0
        rw [if_neg c, if_neg c] at k1
        rw [if_neg c] at cl0
        exact Pr.way h (by rw [ep, eq]; exact cl0) hF k1 k2 rfl
  · refine Pr.end (r := -1) (s := -1) (x := 1) (y := 1) h ?_ ?_ rfl rfl
    · unfold f_X11_latest f_X11_latest_L26
      rw [h.isP hx1, bnd_some]
      by_cases w1 : 0 ≤ x1 ∧ x1 < M 168 0
      · rw [if_pos w1, if_neg (by decide), h.isP hx2, bnd_some]
        by_cases w3 : 0 ≤ x2 ∧ x2 < M 168 0
        · rw [if_pos w3, if_neg (by decide), e3, c64]
          by_cases c : x3 < 0
          · rw [if_pos c]; rfl
          · rw [if_neg c, if_neg (by omega)]; rfl
        · rw [if_neg w3, if_pos (by decide)]; rfl
      · rw [if_neg w1, if_pos (by decide)]; rfl
    · unfold f_X12_latest f_X12_latest_L42
      rw [h.isPM hx1 (jup M 0 0 1) rfl, bnd_some]
      by_cases w1 : 0 ≤ x1 ∧ x1 < M 168 0
      · rw [if_pos w1, if_neg (by decide), h.isPM hx2 (jup M 0 0 1) rfl, bnd_some]
        by_cases w3 : 0 ≤ x2 ∧ x2 < M 168 0
        · rw [if_pos w3, if_neg (by decide), e3, q_isFrom ⟨by have := hx3.1; omega, by have := hx3.2; omega⟩ (by omega) (by omega), bnd_some, if_neg (fun q => hw ⟨w1, w3, q⟩), if_pos (by decide)]; rfl
        · rw [if_neg w3, if_pos (by decide)]; rfl
      · rw [if_neg w1, if_pos (by decide)]; rfl
theorem p_stay (hf : 200 ≤ n) : jO_stay JR n := by
  intro x1 hx1 M h
  have e1 := jwI hx1
  have np := h.np
  have c64 : jw 64 = 64 := by decide
  by_cases w1 : 0 ≤ x1 ∧ x1 < M 168 0
  · by_cases w0 : x1 = 0
    · refine Pr.end (r := -1) (s := -1) (x := 1) (y := 1) h ?_ ?_ rfl rfl
      · unfold f_X11_stay f_X11_stay_L12
        rw [h.isP hx1, bnd_some, if_pos w1, if_neg (by decide), e1, if_pos w0]; rfl
      · unfold f_X12_stay f_X12_stay_L12
        rw [h.isPM hx1 (jup M 0 0 1) rfl, bnd_some, if_pos w1, if_neg (by decide), if_pos (show jw x1 = 0 by rw [e1]; exact w0)]; rfl
    · obtain ⟨p, p6, ep⟩ := natOf (x := x1) (k := 6) (by omega) (by omega)
      obtain ⟨M1, a1, a2, a3⟩ := h.ord (n := n) (by omega)
      obtain ⟨M2, b1, b2, b3⟩ := h.soon (n := n) (by omega) h.cl (p0 := 0) (by omega) p6 (k := 0) ⟨by omega, by omega⟩ (M1 := M1) (fun c _ c2 => a2 c c2) a3
      have hF2 : ∀ c : Nat, c ≠ 77 → c ≠ 78 → M2 c = M c := fun c c1 c2 => by rw [b2 c c1, a2 c c2]
      obtain ⟨r, M3, d1, d2, d3, d4, d5⟩ := h.lastStart (n := n) (by omega) h.cl p6 (to := 0) (by omega) (b := 64) ⟨by omega, by omega⟩ (M1 := M2) hF2 (by rw [b2 78 (by omega)]; exact a3)
      have hF : ∀ c : Nat, c ≠ 77 → c ≠ 78 → M3 c = M c := fun c c1 c2 => by rw [d2 c c1, hF2 c c1 c2]
      have vb := b3.2.1 p p6
      have cl0 : f_X11_stay n x1 M = if M2 77 p ≤ r then some (r - M2 77 p, jup M3 0 0 0) else some (-1, jup M3 0 0 6) := by
        unfold f_X11_stay
        rw [h.isP hx1, bnd_some, if_pos w1, if_neg (by decide), e1, if_neg w0, a1, bnd_some, a2 52 (by omega), ep, show f_X8_soon n 40 (M 52 4) 0 0 (p : Int) M1 = _ from b1, bnd_some]
        simp only [letv_ap]
        rw [hF2 52 (by omega) (by omega), show f_X8_lastStart n 40 (M 52 4) (p : Int) 0 64 M2 = _ from d1, bnd_some, jw_of (x := M2 77 p) (by omega) (by omega), jw_of (x := r) (by omega) (by omega)]
        rfl
      obtain ⟨g, g1, g2, g3⟩ := h.going (n := n) (by omega)
      have key : ∀ v : Int, ∃ M5, f_X12_stay n x1 (jup M3 0 0 v) = (if M2 77 p ≤ r then some (r - M2 77 p, jup M5 167 2 0) else some (-1, jup M5 167 2 6)) ∧ ∀ c : Nat, c ≠ 179 → M5 c = jup M3 0 0 v c := fun v => by
        have e168 : jup M3 0 0 v 168 = M 168 := by rw [jup_cell (by omega), hF 168 (by omega) (by omega)]
        obtain ⟨M4, k1, k2, k3⟩ := h.lays (n := n) (by omega) g1 (cl := M 52 4) (fun t t8 tl => (g2 t t8).trans ⟨fun q => q.2, fun q => ⟨tl, q⟩⟩) (p0 := 0) (by omega) (k := 0) ⟨by omega, by omega⟩ b3 (M1 := jup M3 0 0 v) e168
        obtain ⟨r', M5, l1, l2, l3⟩ := h.latestOf (n := n) (by omega) g1 g2 g3 p6 (to := 0) (by omega) (by omega) (b := 64) ⟨by omega, by omega⟩ (M1 := M4) (by rw [k2 168 (by omega)]; exact e168)
        have er : r' = r := l3.uniq d3
        refine ⟨M5, ?_, fun c hc => by rw [l2 c hc, k2 c hc]⟩
        unfold f_X12_stay
        rw [h.isPM hx1 _ e168, bnd_some, if_pos w1, if_neg (by decide), if_neg (show ¬ jw x1 = 0 by rw [e1]; exact w0), g3 _ e168, bnd_some, show f_X12_laysSoon n 0 0 g (jup M3 0 0 v) = _ from k1, bnd_some, ep, chk_pos (jin_of (by omega) (by omega) (by omega))]
        simp only [letv_ap]
        rw [show f_X12_latestOf n (p : Int) 0 64 M4 = _ from l1, bnd_some, show (jw (p : Int)).toNat = p from jwb (by omega), k3 p p6, er, jw_of (x := r) (by omega) (by omega)]
        by_cases c : M2 77 p ≤ 64
        · rw [if_pos c, jw_of (x := M2 77 p) (by omega) (by omega)]
          rfl
        · rw [if_neg c, show jw 1000000 = 1000000 by decide, if_neg (by omega), if_neg (by omega)]
          rfl
      by_cases c : M2 77 p ≤ r
      · obtain ⟨M5, k1, k2⟩ := key 0
        rw [if_pos c] at k1
        rw [if_pos c] at cl0
        exact Pr.way h cl0 hF k1 k2 rfl
      · obtain ⟨M5, k1, k2⟩ := key 6
        rw [if_neg c] at k1
        rw [if_neg c] at cl0
        exact Pr.way h cl0 hF k1 k2 rfl
  · refine Pr.end (r := -1) (s := -1) (x := 1) (y := 1) h ?_ ?_ rfl rfl
    · unfold f_X11_stay f_X11_stay_L12
      rw [h.isP hx1, bnd_some, if_neg w1, if_pos (by decide)]; rfl
    · unfold f_X12_stay f_X12_stay_L12
      rw [h.isPM hx1 (jup M 0 0 1) rfl, bnd_some, if_neg w1, if_pos (by decide)]; rfl
/-! what can be reached -/
theorem q_reach_L (h168 : 0 ≤ M 168 0 ∧ M 168 0 ≤ 6) {V : Nat → Int} (hR : ∀ p : Nat, p < 6 → 0 ≤ V p ∧ M 179 p = if V p ≤ 64 then V p else 1000000) : ∀ (d i k : Nat) (v : Int), i + d = (M 168 0).toNat → d < k → S8 v → ∃ r, f_X12_reachBy_L11 n k v (i : Int) M = some (r, M) ∧ S8 r ∧ ∀ p : Nat, p < 8 → (bit r p = true ↔ bit v p = true ∨ (i ≤ p ∧ (p : Int) < M 168 0 ∧ V p ≤ 64)) := by
  intro d
  induction d with
  | zero =>
    intro i k v hi hk hv
    obtain ⟨k, rfl⟩ : ∃ q, k = q + 1 := ⟨k - 1, by omega⟩
    refine ⟨v, ?_, hv, fun b b8 => ⟨Or.inl, fun q => q.elim id (fun w => by omega)⟩⟩
    rw [f_X12_reachBy_L11, chk_pos (by decide), show (jw 0).toNat = 0 by decide, if_pos (by rw [jw_of (x := M 168 0) (by omega) (by omega), jw_of (x := (i : Int)) (by omega) (by omega)]; omega)]
  | succ d ih =>
    intro i k v hi hk hv
    obtain ⟨k, rfl⟩ : ∃ q, k = q + 1 := ⟨k - 1, by omega⟩
    have i6 : i < 6 := by omega
    obtain ⟨r0, r1⟩ := hR i i6
    rw [f_X12_reachBy_L11, chk_pos (by decide), show (jw 0).toNat = 0 by decide, if_neg (by rw [jw_of (x := M 168 0) (by omega) (by omega), jw_of (x := (i : Int)) (by omega) (by omega)]; omega), chk_pos (jin_of (by omega) (by omega) (by omega)), show (jw (i : Int)).toNat = i from jwb (by omega), r1]
    unfold f_X12_reachBy_L41
    simp only [letv_ap]
    by_cases c : V i ≤ 64
    · have s := jset hv (i := i) (by omega)
      obtain ⟨r, t1, t2, t3⟩ := ih (i + 1) k (jor v (jshl 1 (i : Int))) (by omega) (by omega) s.1
      refine ⟨r, ?_, t2, fun b b8 => ?_⟩
      · rw [if_pos c, if_neg (by rw [jw_of (x := V i) (by omega) (by omega), show jw 1000000 = 1000000 by decide]; omega)]; exact t1
      rw [t3 b b8, s.2 b b8, Bool.or_eq_true, decide_eq_true_eq]
      constructor
      · rintro ((q | q) | q)
        · exact Or.inl q
        · rw [q]; exact Or.inr ⟨by omega, by omega, c⟩
        · exact Or.inr ⟨by omega, q.2⟩
      · rintro (q | q)
        · exact Or.inl (Or.inl q)
        · by_cases e : b = i
          · exact Or.inl (Or.inr e)
          · exact Or.inr ⟨by omega, q.2⟩
    · have s := jorS hv S8_0
      obtain ⟨r, t1, t2, t3⟩ := ih (i + 1) k (jor v 0) (by omega) (by omega) s.1
      refine ⟨r, ?_, t2, fun b b8 => ?_⟩
      · rw [if_neg c, if_pos rfl]; exact t1
      rw [t3 b b8, s.2 b, bit0, Bool.or_false]
      constructor
      · rintro (q | q)
        · exact Or.inl q
        · exact Or.inr ⟨by omega, q.2⟩
      · rintro (q | q)
        · exact Or.inl q
        · by_cases e : b = i
          · subst e; exact absurd q.2.2 c
          · exact Or.inr ⟨by omega, q.2⟩
theorem JR.reachBy (h : JR M) (hf : 100 ≤ n) {cl x : Int} (hx : S8 x) (hg : ∀ t : Nat, t < 8 → (t : Int) < M 168 1 → (bit x t = true ↔ ¬ bit cl t = true)) {V : Nat → Int} (hV : EA (M 168) (fun t => ¬ bit cl t = true) 0 0 V) {M1 : JMem} (e : M1 168 = M 168) :
    ∃ r M2, f_X12_reachBy n x M1 = some (r, M2) ∧ (∀ c : Nat, c ≠ 179 → M2 c = M1 c) ∧ S8 r ∧ ∀ p : Nat, p < 8 → (bit r p = true ↔ (p : Int) < M 168 0 ∧ V p ≤ 64) := by
  obtain ⟨M2, a1, a2, a3⟩ := h.lays (n := n) hf hx hg (p0 := 0) (by omega) (k := 0) ⟨by omega, by omega⟩ hV (M1 := M1) e
  have e2 : M2 168 = M 168 := by rw [a2 168 (by omega)]; exact e
  obtain ⟨r, b1, b2, b3⟩ := q_reach_L (n := n) (M := M2) (by rw [e2]; exact h.sa.1) (V := V) (fun p p6 => ⟨(hV.2.1 p p6).1, a3 p p6⟩) (M 168 0).toNat 0 n 0 (by rw [e2]; omega) (by have := h.np; omega) S8_0
  refine ⟨r, M2, ?_, a2, b2, fun p p8 => ?_⟩
  · unfold f_X12_reachBy
    rw [show f_X12_laysSoon n 0 0 x M1 = _ from a1, bnd_some]
    simp only [letv_ap]
    exact b1
  · rw [b3 p p8, bit0, e2]
    constructor
    · rintro (q | q)
      · exact absurd q (by decide)
      · exact q.2
    · exact fun q => Or.inr ⟨by omega, q⟩
theorem c_reach_L {V : Nat → Int} (h0 : 0 ≤ M 40 0 ∧ M 40 0 ≤ 6) (hR : ∀ p : Nat, p < 6 → 0 ≤ V p ∧ V p ≤ 65 ∧ M 77 p = V p) : ∀ (d i k : Nat) (v : Int), i + d = (M 40 0).toNat → d < k → S8 v → ∃ r, f_X11_reach_L52 n k v (i : Int) M = some (r, jup M 0 0 0) ∧ S8 r ∧ ∀ p : Nat, p < 8 → (bit r p = true ↔ bit v p = true ∨ (i ≤ p ∧ (p : Int) < M 40 0 ∧ V p ≤ 64)) := by
  intro d
  induction d with
  | zero =>
    intro i k v hi hk hv
    obtain ⟨k, rfl⟩ : ∃ q, k = q + 1 := ⟨k - 1, by omega⟩
    refine ⟨v, ?_, hv, fun b b8 => ⟨Or.inl, fun q => q.elim id (fun w => by omega)⟩⟩
    rw [f_X11_reach_L52, if_pos (by rw [jw_of (x := M 40 0) (by omega) (by omega), jw_of (x := (i : Int)) (by omega) (by omega)]; omega)]
    rfl
  | succ d ih =>
    intro i k v hi hk hv
    obtain ⟨k, rfl⟩ : ∃ q, k = q + 1 := ⟨k - 1, by omega⟩
    have i6 : i < 6 := by omega
    obtain ⟨r0, r1, r2⟩ := hR i i6
    rw [f_X11_reach_L52, if_neg (by rw [jw_of (x := M 40 0) (by omega) (by omega), jw_of (x := (i : Int)) (by omega) (by omega)]; omega), chk_pos (jin_of (by omega) (by omega) (by omega)), show (jw (i : Int)).toNat = i from jwb (by omega), r2, jw_of (x := V i) (by omega) (by omega), show jw 64 = 64 by decide]
    unfold f_X11_reach_L83
    simp only [letv_ap]
    by_cases c : 64 < V i
    · obtain ⟨r, t1, t2, t3⟩ := ih (i + 1) k v (by omega) (by omega) hv
      refine ⟨r, ?_, t2, fun b b8 => ?_⟩
      · rw [if_pos c]; exact t1
      rw [t3 b b8]
      constructor
      · rintro (q | q)
        · exact Or.inl q
        · exact Or.inr ⟨by omega, q.2⟩
      · rintro (q | q)
        · exact Or.inl q
        · by_cases e : b = i
          · subst e; omega
          · exact Or.inr ⟨by omega, q.2⟩
    · have s := jset hv (i := i) (by omega)
      obtain ⟨r, t1, t2, t3⟩ := ih (i + 1) k (jor v (jshl 1 (i : Int))) (by omega) (by omega) s.1
      refine ⟨r, ?_, t2, fun b b8 => ?_⟩
      · rw [if_neg c]; exact t1
      rw [t3 b b8, s.2 b b8, Bool.or_eq_true, decide_eq_true_eq]
      constructor
      · rintro ((q | q) | q)
        · exact Or.inl q
        · rw [q]; exact Or.inr ⟨by omega, by omega, by omega⟩
        · exact Or.inr ⟨by omega, q.2⟩
      · rintro (q | q)
        · exact Or.inl (Or.inl q)
        · by_cases e : b = i
          · exact Or.inl (Or.inr e)
          · exact Or.inr ⟨by omega, q.2⟩
theorem p_reach (hf : 200 ≤ n) : jO_reach JR n := by
  intro M h
  have np := h.np
  have j0 : jw (M 40 0) = M 168 0 := by rw [np.1]; exact jw_of (by omega) (by omega)
  by_cases c0 : M 168 0 = 0
  · refine Pr.end (r := -1) (s := -1) (x := 6) (y := 6) h ?_ ?_ rfl rfl
    · unfold f_X11_reach
      rw [j0, if_pos c0]; rfl
    · unfold f_X12_reach
      rw [chk_pos (by decide), show (jw 0).toNat = 0 by decide, show jup M 0 0 6 168 = M 168 from rfl, c0, if_pos (by decide)]; rfl
  · obtain ⟨M1, a1, a2, a3⟩ := h.ord (n := n) (by omega)
    obtain ⟨M2, b1, b2, b3⟩ := h.seto (n := n) (by omega) h.cl (p0 := 0) (by omega) (k := 0) ⟨by omega, by omega⟩ (M1 := M1) (fun c _ c2 => a2 c c2) a3
    have hF : ∀ c : Nat, c ≠ 77 → c ≠ 78 → M2 c = M c := fun c c1 c2 => by rw [b2 c c1, a2 c c2]
    have e40 : M2 40 = M 40 := hF 40 (by omega) (by omega)
    obtain ⟨r, k1, k2, k3⟩ := c_reach_L (n := n) (M := M2) (V := M2 77) (by rw [e40, np.1]; exact np.2) (fun p p6 => ⟨(b3.2.1 p p6).1, (b3.2.1 p p6).2, rfl⟩) (M 168 0).toNat 0 n 0 (by rw [e40, np.1]; omega) (by omega) S8_0
    obtain ⟨g, g1, g2, g3⟩ := h.going (n := n) (by omega)
    have e168 : jup M2 0 0 0 168 = M 168 := by rw [jup_cell (by omega), hF 168 (by omega) (by omega)]
    obtain ⟨s, M3, l1, l2, l3, l4⟩ := h.reachBy (n := n) (by omega) g1 (cl := M 52 4) (fun t t8 tl => (g2 t t8).trans ⟨fun q => q.2, fun q => ⟨tl, q⟩⟩) b3 (M1 := jup M2 0 0 0) e168
    have er : s = r := S8.ext l3 k2 fun p p8 => by
      rw [Bool.eq_iff_iff, l4 p p8, k3 p p8, bit0, e40, np.1]
      constructor
      · exact fun q => Or.inr ⟨by omega, q⟩
      · rintro (q | q)
        · exact absurd q (by decide)
        · exact q.2
    refine Pr.way h (r := r) (s := s) (x := 0) (M1 := M2) (M2 := M3) ?_ hF ?_ l2 (by rw [er])
    · unfold f_X11_reach
      rw [j0, if_neg c0, a1, bnd_some, a2 52 (by omega), show f_X8_setOut n 40 (M 52 4) 0 0 M1 = _ from b1, bnd_some]
      simp only [letv_ap]
      exact k1
    · unfold f_X12_reach
      rw [chk_pos (by decide), show (jw 0).toNat = 0 by decide, e168, if_neg (by rw [jw_of (x := M 168 0) (by omega) (by omega)]; exact c0), g3 _ e168, bnd_some, l1, bnd_some]
      rfl
end PSTAY

section PSOON
variable {n : Nat} {M : JMem}
theorem JR.sa (h : JR M) : SA (M 168) := SA.of h.cur.1 h.cur.2.1
/-- the set of the trains that are stopped -/
theorem JR.cl (h : JR M) : S8 (M 52 4) := h.cur.2.1.heads.2.2.2.2.1.1
theorem JR.ord (h : JR M) (hf : 100 ≤ n) : ∃ M1, f_X8_order n 40 M = some (0, M1) ∧ (∀ c : Nat, c ≠ 78 → M1 c = M c) ∧ OrdK (M 168) (M 168 1).toNat (M1 78) := c_order hf h.cur.1
theorem JR.seto (h : JR M) (hf : 100 ≤ n) {x2 k : Int} (hx : S8 x2) {p0 : Nat} (hp0 : p0 < 6) (hh : 0 ≤ k ∧ k ≤ 64) {M1 : JMem} (hF : ∀ c : Nat, c ≠ 77 → c ≠ 78 → M1 c = M c) (hO : OrdK (M 168) (M 168 1).toNat (M1 78)) :
    ∃ M2, f_X8_setOut n 40 x2 (p0 : Int) k M1 = some (0, M2) ∧ (∀ c : Nat, c ≠ 77 → M2 c = M1 c) ∧ EA (M 168) (fun t => ¬ bit x2 t = true) p0 k (M2 77) := by
  refine c_setOut hf h.sa hx hp0 hh ?_ hO
  rw [blk_congr (by decide) (M := M) (M' := M1) (a := 40) (z := 12) (fun j hj => hF _ (by omega) (by omega))]
  exact h.cur.1
theorem JR.soon (h : JR M) (hf : 100 ≤ n) {x2 k : Int} (hx : S8 x2) {p0 to : Nat} (hp0 : p0 < 6) (t6 : to < 6) (hh : 0 ≤ k ∧ k ≤ 64) {M1 : JMem} (hF : ∀ c : Nat, c ≠ 77 → c ≠ 78 → M1 c = M c) (hO : OrdK (M 168) (M 168 1).toNat (M1 78)) :
    ∃ M2, f_X8_soon n 40 x2 (p0 : Int) k (to : Int) M1 = some (M2 77 to, M2) ∧ (∀ c : Nat, c ≠ 77 → M2 c = M1 c) ∧ EA (M 168) (fun t => ¬ bit x2 t = true) p0 k (M2 77) := by
  obtain ⟨M2, a1, a2, a3⟩ := h.seto (n := n) hf hx hp0 hh hF hO
  refine ⟨M2, ?_, a2, a3⟩
  unfold f_X8_soon
  rw [a1, bnd_some, chk_pos (jin_of (by omega) (by omega) (by omega)), show (jw (to : Int)).toNat = to from jwb (by omega)]
theorem JR.ea (h : JR M) {x2 k : Int} (hx : S8 x2) {p0 : Nat} (hp0 : p0 < 6) (hh : 0 ≤ k ∧ k ≤ 64) : ∃ V, EA (M 168) (fun t => ¬ bit x2 t = true) p0 k V := by
  obtain ⟨M1, a1, a2, a3⟩ := h.ord (n := 100) (Nat.le_refl _)
  obtain ⟨M2, b1, b2, b3⟩ := h.seto (n := 100) (Nat.le_refl _) hx hp0 hh (M1 := M1) (fun c _ c2 => a2 c c2) a3
  exact ⟨_, b3⟩
/-- how soon with a train first -/
def SWi (A : Nat → Int) (cl : Int) (t to : Nat) (r : Int) : Prop := ((bit cl t = true ∨ 64 < A (10 + 6 * t) + A (11 + 6 * t)) ∧ r = 65) ∨ (¬ bit cl t = true ∧ A (10 + 6 * t) + A (11 + 6 * t) ≤ 64 ∧ ∃ V, EA A (fun t => ¬ bit cl t = true) (A (9 + 6 * t)).toNat (A (10 + 6 * t) + A (11 + 6 * t)) V ∧ r = V to)
theorem JR.soonW (h : JR M) (hf : 100 ≤ n) {x2 : Int} (hx : S8 x2) {t to : Nat} (t8 : t < 8) (tl : (t : Int) < M 168 1) (t6 : to < 6) {M1 : JMem} (hF : ∀ c : Nat, c ≠ 77 → c ≠ 78 → M1 c = M c) (hO : OrdK (M 168) (M 168 1).toNat (M1 78)) :
    ∃ r M2, f_X8_soonWith n 40 x2 (t : Int) (to : Int) M1 = some (r, M2) ∧ (∀ c : Nat, c ≠ 77 → M2 c = M1 c) ∧ SWi (M 168) x2 t to r := by
  obtain ⟨p1, p2, p3, p4, p5⟩ := h.cur.1.2.2.2.2.2.1 t t8 tl
  have n0 := h.sa.1
  have e5 : M1 (40 + 5) t = M 168 (9 + 6 * t) := by rw [hF (40 + 5) (by omega) (by omega)]; exact p2.1
  have e6 : M1 (40 + 6) t = M 168 (10 + 6 * t) := by rw [hF (40 + 6) (by omega) (by omega)]; exact p3.1
  have e7 : M1 (40 + 7) t = M 168 (11 + 6 * t) := by rw [hF (40 + 7) (by omega) (by omega)]; exact p4.1
  obtain ⟨o, o6, eo⟩ := natOf (x := M 168 (9 + 6 * t)) (k := 6) (by omega) (by omega)
  have ut : f_X8_soonWith n 40 x2 (t : Int) (to : Int) M1 = if bit x2 t = true then some (65, M1) else if M 168 (10 + 6 * t) + M 168 (11 + 6 * t) ≤ 64 then bnd (f_X8_soon n 40 x2 (o : Int) (M 168 (10 + 6 * t) + M 168 (11 + 6 * t)) (to : Int) M1) fun r4 M5 => some (r4, M5) else some (65, M1) := by
    unfold f_X8_soonWith
    simp only [letv_ap]
    rw [chk_pos (jin_of (by omega) (by omega) (by omega)), chk_pos (jin_of (by omega) (by omega) (by omega)), show (jw (t : Int)).toNat = t from jwb (by omega), e6, e7, q_isIn hx t8, bnd_some]
    by_cases c1 : bit x2 t = true
    · rw [if_pos c1, if_neg (by decide), if_pos c1]
    · rw [if_neg c1, if_pos (by decide), if_neg c1, jw_of (x := M 168 (10 + 6 * t) + M 168 (11 + 6 * t)) (by omega) (by omega), show jw 64 = 64 by decide, chk_pos (jin_of (by omega) (by omega) (by omega)), e5, eo]
  rw [ut]
  by_cases c1 : bit x2 t = true
  · exact ⟨65, M1, if_pos c1, fun _ _ => rfl, Or.inl ⟨Or.inl c1, rfl⟩⟩
  · rw [if_neg c1]
    by_cases c2 : M 168 (10 + 6 * t) + M 168 (11 + 6 * t) ≤ 64
    · obtain ⟨M2, a1, a2, a3⟩ := h.soon (n := n) hf hx o6 t6 (k := M 168 (10 + 6 * t) + M 168 (11 + 6 * t)) ⟨by omega, c2⟩ hF hO
      refine ⟨M2 77 to, M2, ?_, a2, Or.inr ⟨c1, c2, M2 77, ?_, rfl⟩⟩
      · rw [if_pos c2, a1, bnd_some]
      · rw [eo, Int.toNat_natCast]; exact a3
    · exact ⟨65, M1, if_neg c2, fun _ _ => rfl, Or.inl ⟨Or.inr (by omega), rfl⟩⟩
/-- the reference's set of trains that go -/
theorem JR.going (h : JR M) (hf : 100 ≤ n) : ∃ g, S8 g ∧ (∀ t : Nat, t < 8 → (bit g t = true ↔ (t : Int) < M 168 1 ∧ ¬ bit (M 52 4) t = true)) ∧ ∀ M1 : JMem, M1 168 = M 168 → f_X12_going n M1 = some (g, M1) := by
  obtain ⟨g, g1, g2, g3⟩ := q_going (n := n) (M := M) hf h.cur.2.1 h.sa.2.1
  refine ⟨g, g2, g3, fun M1 e => ?_⟩
  obtain ⟨g', k1, k2, k3⟩ := q_going (n := n) (M := M1) (N := blk M 52 8) hf (by rw [e]; exact h.cur.2.1) (by rw [e]; exact h.sa.2.1)
  rw [k1]
  have : g' = g := S8.ext k2 g2 fun t t8 => by rw [Bool.eq_iff_iff, k3 t t8, g3 t t8, e]
  rw [this]
theorem JR.lays (h : JR M) (hf : 100 ≤ n) {cl x k : Int} (hx : S8 x) (hg : ∀ t : Nat, t < 8 → (t : Int) < M 168 1 → (bit x t = true ↔ ¬ bit cl t = true)) {p0 : Nat} (hp0 : p0 < 6) (hh : 0 ≤ k ∧ k ≤ 64) {V : Nat → Int} (hV : EA (M 168) (fun t => ¬ bit cl t = true) p0 k V) {M1 : JMem} (e : M1 168 = M 168) :
    ∃ M2, f_X12_laysSoon n (p0 : Int) k x M1 = some (0, M2) ∧ (∀ c : Nat, c ≠ 179 → M2 c = M1 c) ∧ ∀ p : Nat, p < 6 → M2 179 p = if V p ≤ 64 then V p else 1000000 :=
  q_laysSoon h.sa hx hp0 hh (hV.congr hg) hf e
theorem Pr.way {f g : JMem → Option (Int × JMem)} {r s x : Int} {M1 M2 : JMem} (h : JR M) (hf : f M = some (r, jup M1 0 0 x)) (h1 : ∀ c : Nat, c ≠ 77 → c ≠ 78 → M1 c = M c) (hg : g (jup M1 0 0 x) = some (s, jup M2 167 2 x)) (h2 : ∀ c : Nat, c ≠ 179 → M2 c = jup M1 0 0 x c) (hrs : jw r = jw s) : ∃ r M1 s M2, f M = some (r, M1) ∧ g M1 = some (s, M2) ∧ jw r = jw s ∧ JR M2 := by
  refine Pr.fin h hf hg hrs ⟨fun c hc => ?_, fun j hj => ?_, fun j hj _ => ?_, fun i _ => ?_⟩ ?_
  · rw [jup_cell (by omega), h2 c (by omega), jup_cell (by omega), h1 c (by omega) (by omega)]
  · rw [jup_cell (by omega), h2 0 (by omega), jup_at, if_neg (fun q => hj q.2), h1 0 (by omega) (by omega)]
  · rw [jup_at, if_neg (fun q => hj q.2), h2 167 (by omega), jup_cell (by omega), h1 167 (by omega) (by omega)]
  · rw [jup_cell (by omega), h2 168 (by omega), jup_cell (by omega), h1 168 (by omega) (by omega)]
  · rw [jup_cell (by omega), h2 0 (by omega), jup_at, if_pos ⟨rfl, rfl⟩, jup_at, if_pos ⟨rfl, rfl⟩]
theorem JR.isWay (h : JR M) {x1 x2 x3 : Int} (hx1 : I32 x1) (hx2 : I32 x2) (hx3 : I32 x3) (M' : JMem) (e : M' 168 = M 168) : f_X12_isWay n x1 x2 x3 M' = some (if (0 ≤ x1 ∧ x1 < M 168 0) ∧ (0 ≤ x3 ∧ x3 < M 168 0) ∧ 0 ≤ x2 ∧ x2 ≤ 63 then 1 else 0, M') := by
  unfold f_X12_isWay
  rw [h.isPM hx1 M' e, bnd_some]
  by_cases c1 : 0 ≤ x1 ∧ x1 < M 168 0
  · rw [if_pos c1, if_neg (by decide), h.isPM hx3 M' e, bnd_some]
    by_cases c3 : 0 ≤ x3 ∧ x3 < M 168 0
    · rw [if_pos c3, if_neg (by decide), jwI hx2, q_isFrom ⟨by have := hx2.1; omega, by have := hx2.2; omega⟩ (by omega) (by omega), bnd_some]
      by_cases c2 : 0 ≤ x2 ∧ x2 ≤ 63
      · rw [if_pos c2, if_neg (by decide), if_pos ⟨c1, c3, c2⟩]
      · rw [if_neg c2, if_pos (by decide), if_neg (fun q => c2 q.2.2)]
    · rw [if_neg c3, if_pos (by decide), if_neg (fun q => c3 q.2.1)]
  · rw [if_neg c1, if_pos (by decide), if_neg (fun q => c1 q.1)]
theorem p_soonest (hf : 200 ≤ n) : jO_soonest JR n := by
  intro x1 x2 x3 hx1 hx2 hx3 M h
  have e1 := jwI hx1
  have e2 := jwI hx2
  have e3 := jwI hx3
  have np := h.np
  have c64 : jw 64 = 64 := by decide
  by_cases hw : (0 ≤ x1 ∧ x1 < M 168 0) ∧ (0 ≤ x3 ∧ x3 < M 168 0) ∧ 0 ≤ x2 ∧ x2 ≤ 63
  · have hw0 := hw
    obtain ⟨w1, w3, w2⟩ := hw
    obtain ⟨p, p6, ep⟩ := natOf (x := x1) (k := 6) (by omega) (by omega)
    obtain ⟨q, q6, eq⟩ := natOf (x := x3) (k := 6) (by omega) (by omega)
    obtain ⟨M1, a1, a2, a3⟩ := h.ord (n := n) (by omega)
    obtain ⟨M2, b1, b2, b3⟩ := h.soon (n := n) (by omega) h.cl p6 q6 (k := x2) ⟨w2.1, by omega⟩ (M1 := M1) (fun c _ c2 => a2 c c2) a3
    have hF : ∀ c : Nat, c ≠ 77 → c ≠ 78 → M2 c = M c := fun c c1 c2 => by rw [b2 c c1, a2 c c2]
    have vb := b3.2.1 q q6
    obtain ⟨g, g1, g2, g3⟩ := h.going (n := n) (by omega)
    have fcl : f_X11_soonest n x1 x2 x3 M = if M2 77 q ≤ 64 then some (M2 77 q, jup M2 0 0 0) else some (-1, jup M2 0 0 6) := by
      unfold f_X11_soonest
      rw [h.isP hx1, bnd_some, if_pos w1, if_neg (by decide), h.isP hx3, bnd_some, if_pos w3, if_neg (by decide), e2, if_neg (by omega), c64, if_pos (by omega), a1, bnd_some, a2 52 (by omega), ep, eq, b1, bnd_some]
      simp only [letv_ap]
      rw [jw_of (x := M2 77 q) (by omega) (by omega)]
      by_cases c : M2 77 q ≤ 64
      · rw [if_pos c, if_pos c]; rfl
      · rw [if_neg c, if_neg c]; rfl
    have fre : ∀ v : Int, ∃ M3, (∀ c : Nat, c ≠ 179 → M3 c = jup M2 0 0 v c) ∧ f_X12_soonest n x1 x2 x3 (jup M2 0 0 v) = if M2 77 q ≤ 64 then some (M2 77 q, jup M3 167 2 0) else some (-1, jup M3 167 2 6) := fun v => by
      obtain ⟨M3, d1, d2, d3⟩ := h.lays (n := n) (by omega) g1 (cl := M 52 4) (fun t t8 tl => (g2 t t8).trans ⟨fun q => q.2, fun q => ⟨tl, q⟩⟩) p6 (k := x2) ⟨w2.1, by omega⟩ b3 (M1 := jup M2 0 0 v) (by rw [jup_cell (by omega), hF 168 (by omega) (by omega)])
      refine ⟨M3, d2, ?_⟩
      unfold f_X12_soonest
      rw [h.isWay hx1 hx2 hx3 _ (by rw [jup_cell (by omega), hF 168 (by omega) (by omega)]), bnd_some, if_pos hw0, if_neg (by decide), g3 _ (by rw [jup_cell (by omega), hF 168 (by omega) (by omega)]), bnd_some, ep, eq, d1, bnd_some, chk_pos (jin_of (by omega) (by omega) (by omega)), chk_pos (jin_of (by omega) (by omega) (by omega)), show (jw (q : Int)).toNat = q from jwb (by omega), d3 q q6, show jw 1000000 = 1000000 by decide]
      by_cases c : M2 77 q ≤ 64
      · rw [if_pos c, if_neg (by rw [jw_of (x := M2 77 q) (by omega) (by omega)]; omega), if_pos c]; rfl
      · rw [if_neg c, if_pos (by decide), if_neg c]; rfl
    by_cases c : M2 77 q ≤ 64
    · obtain ⟨M3, d1, d2⟩ := fre 0
      exact Pr.way h (by rw [fcl, if_pos c]) hF (by rw [d2, if_pos c]) d1 rfl
    · obtain ⟨M3, d1, d2⟩ := fre 6
      exact Pr.way h (by rw [fcl, if_neg c]) hF (by rw [d2, if_neg c]) d1 rfl
  · refine Pr.end (r := -1) (s := -1) (x := 1) (y := 1) h ?_ ?_ rfl rfl
    · unfold f_X11_soonest f_X11_soonest_L26
      rw [h.isP hx1, bnd_some]
      by_cases w1 : 0 ≤ x1 ∧ x1 < M 168 0
      · rw [if_pos w1, if_neg (by decide), h.isP hx3, bnd_some]
        by_cases w3 : 0 ≤ x3 ∧ x3 < M 168 0
        · rw [if_pos w3, if_neg (by decide), e2, c64]
          by_cases c : x2 < 0
          · rw [if_pos c]; rfl
          · rw [if_neg c, if_neg (by omega)]; rfl
        · rw [if_neg w3, if_pos (by decide)]; rfl
      · rw [if_neg w1, if_pos (by decide)]; rfl
    · unfold f_X12_soonest
      rw [h.isWay hx1 hx2 hx3 (jup M 0 0 1) rfl, bnd_some, if_neg hw, if_pos (by decide)]; rfl
/-- the first train of a kind -/
def FT (nt : Int) (G : Nat → Prop) (r : Int) : Prop := (r = -1 ∧ ∀ t : Nat, (t : Int) < nt → ¬ G t) ∨ ∃ t : Nat, r = t ∧ (t : Int) < nt ∧ G t ∧ ∀ u : Nat, u < t → ¬ G u
theorem FT.uniq {nt : Int} {G : Nat → Prop} {r s : Int} (h : FT nt G r) (h2 : FT nt G s) : r = s := by
  rcases h with ⟨a, b⟩ | ⟨t, a, b, c, d⟩
  · rcases h2 with ⟨a', b'⟩ | ⟨t', a', b', c', d'⟩
    · rw [a, a']
    · exact absurd c' (b t' b')
  · rcases h2 with ⟨a', b'⟩ | ⟨t', a', b', c', d'⟩
    · exact absurd c (b' t b)
    · by_cases e : t < t'
      · exact absurd c (d' t e)
      · by_cases e2 : t' < t
        · exact absurd c' (d t' e2)
        · rw [a, a', show t = t' by omega]
def GT (A : Nat → Int) (cl : Int) (p : Nat) (k : Int) (to : Nat) (s : Int) (t : Nat) : Prop := A (8 + 6 * t) = p ∧ k ≤ A (10 + 6 * t) ∧ ¬ bit cl t = true ∧ A (10 + 6 * t) + A (11 + 6 * t) ≤ 64 ∧ ∃ V, EA A (fun t => ¬ bit cl t = true) (A (9 + 6 * t)).toNat (A (10 + 6 * t) + A (11 + 6 * t)) V ∧ V to = s
end PSOON

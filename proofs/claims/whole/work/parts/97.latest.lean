section PLATEST
variable {n : Nat} {M : JMem}
/-- who gets somewhere begins with a train -/
theorem EA.first {A : Nat → Int} {g : Nat → Prop} {p0 : Nat} {h : Int} {V : Nat → Int} (hA : SA A) (hV : EA A g p0 h V) (hex : ∀ (p : Nat) (k : Int), p < 6 → 0 ≤ k ∧ k ≤ 64 → ∃ W, EA A g p k W) :
    ∀ (d to : Nat), to < 6 → to ≠ p0 → V to ≤ d → V to ≤ 64 → ∃ t : Nat, (t : Int) < A 1 ∧ g t ∧ A (8 + 6 * t) = p0 ∧ h ≤ A (10 + 6 * t) ∧ A (10 + 6 * t) + A (11 + 6 * t) ≤ 64 ∧ ∃ W, EA A g (A (9 + 6 * t)).toNat (A (10 + 6 * t) + A (11 + 6 * t)) W ∧ W to ≤ V to := by
  have n0 := hA.1
  have base : ∀ t : Nat, t < 8 → (t : Int) < A 1 → g t → V (A (8 + 6 * t)).toNat ≤ A (10 + 6 * t) → A (10 + 6 * t) + A (11 + 6 * t) ≤ 64 → (A (8 + 6 * t)).toNat = p0 → ∃ t' : Nat, (t' : Int) < A 1 ∧ g t' ∧ A (8 + 6 * t') = p0 ∧ h ≤ A (10 + 6 * t') ∧ A (10 + 6 * t') + A (11 + 6 * t') ≤ 64 ∧ ∃ W, EA A g (A (9 + 6 * t')).toNat (A (10 + 6 * t') + A (11 + 6 * t')) W ∧ W (A (9 + 6 * t)).toNat ≤ A (10 + 6 * t) + A (11 + 6 * t) := fun t t8 tl tg t1 t2 e => by
    obtain ⟨s1, s2, s3, s4, s5, s6⟩ := hA.2.2.2.2.2.1 t t8 tl
    obtain ⟨W, w⟩ := hex (A (9 + 6 * t)).toNat (A (10 + 6 * t) + A (11 + 6 * t)) (by omega) ⟨by omega, t2⟩
    rw [e, hV.1] at t1
    exact ⟨t, tl, tg, by omega, t1, t2, W, w, by rw [w.1]; exact Int.le_refl _⟩
  intro d
  induction d with
  | zero =>
    intro to t6 hne hd hv
    obtain ⟨t, t8, tl, tg, t1, t2, t3, t4⟩ := hV.2.2.2 to t6 hne hv
    obtain ⟨s1, s2, s3, s4, s5, s6⟩ := hA.2.2.2.2.2.1 t t8 tl
    omega
  | succ d ih =>
    intro to t6 hne hd hv
    obtain ⟨t, t8, tl, tg, t1, t2, t3, t4⟩ := hV.2.2.2 to t6 hne hv
    obtain ⟨s1, s2, s3, s4, s5, s6⟩ := hA.2.2.2.2.2.1 t t8 tl
    by_cases e : (A (8 + 6 * t)).toNat = p0
    · have := base t t8 tl tg t1 t2 e
      rw [t3, ← t4] at this
      exact this
    · obtain ⟨u, ul, ug, u1, u2, u3, W, w1, w2⟩ := ih (A (8 + 6 * t)).toNat (by omega) e (by omega) (by omega)
      refine ⟨u, ul, ug, u1, u2, u3, W, w1, ?_⟩
      have := w1.2.2.1 t t8 tl tg (Int.le_trans w2 t1) t2
      rw [t3] at this
      rw [t4]; exact this
def LG (A : Nat → Int) (cl : Int) (p to : Nat) (b : Int) (t : Nat) : Prop := A (8 + 6 * t) = p ∧ ¬ bit cl t = true ∧ A (10 + 6 * t) + A (11 + 6 * t) ≤ 64 ∧ ∃ V, EA A (fun t => ¬ bit cl t = true) (A (9 + 6 * t)).toNat (A (10 + 6 * t) + A (11 + 6 * t)) V ∧ V to ≤ b
def LsT (A : Nat → Int) (nt : Int) (G : Nat → Prop) (r : Int) : Prop := (r = -1 ∧ ∀ t : Nat, (t : Int) < nt → ¬ G t) ∨ ((∃ t : Nat, (t : Int) < nt ∧ G t ∧ r = A (10 + 6 * t)) ∧ ∀ t : Nat, (t : Int) < nt → G t → A (10 + 6 * t) ≤ r)
theorem LsT.uniq {A : Nat → Int} {nt : Int} {G : Nat → Prop} {r s : Int} (h : LsT A nt G r) (h2 : LsT A nt G s) : r = s := by
  rcases h with ⟨a, b⟩ | ⟨⟨t, t1, t2, t3⟩, b⟩
  · rcases h2 with ⟨a', b'⟩ | ⟨⟨u, u1, u2, u3⟩, b'⟩
    · rw [a, a']
    · exact absurd u2 (b u u1)
  · rcases h2 with ⟨a', b'⟩ | ⟨⟨u, u1, u2, u3⟩, b'⟩
    · exact absurd t2 (b' t t1)
    · have := b u u1 u2
      have := b' t t1 t2
      omega
theorem SWi.lg {A : Nat → Int} (hA : SA A) {cl b r : Int} {t to p : Nat} (t6 : to < 6) (hw : SWi A cl t to r) (hs : b ≤ 64) (c1 : A (8 + 6 * t) = p) : r ≤ b ↔ LG A cl p to b t := by
  constructor
  · intro e
    rcases hw with ⟨a, a'⟩ | ⟨a, a', V, v1, v2⟩
    · omega
    · exact ⟨c1, a, a', V, v1, by rw [← v2]; exact e⟩
  · rintro ⟨a1, a3, a4, V, v1, v2⟩
    rcases hw with ⟨a, a'⟩ | ⟨a, a', W, w1, w2⟩
    · rcases a with a | a
      · exact absurd a a3
      · omega
    · rw [w2, EA.uniq hA w1 v1 t6]
      exact v2
theorem JR.lastT (h : JR M) (hf : 100 ≤ n) {x2 b : Int} (hx : S8 x2) {p0 to : Nat} (hp0 : p0 < 6) (t6 : to < 6) (hb : 0 ≤ b ∧ b ≤ 64) :
    ∀ (d i q : Nat) (v : Int) (M1 : JMem), i + d = (M 168 1).toNat → d < q → (∀ c : Nat, c ≠ 77 → c ≠ 78 → M1 c = M c) → OrdK (M 168) (M 168 1).toNat (M1 78) → LsT (M 168) (i : Int) (LG (M 168) x2 p0 to b) v → (-1 ≤ v ∧ v ≤ 63) →
    ∃ r M2, f_X8_lastStart_L6 n 40 q x2 (p0 : Int) (to : Int) b v (i : Int) M1 = some (r, M2) ∧ (∀ c : Nat, c ≠ 77 → M2 c = M1 c) ∧ LsT (M 168) (M 168 1) (LG (M 168) x2 p0 to b) r ∧ -1 ≤ r ∧ r ≤ 63 := by
  have n1 := h.sa.2.1
  have n0 := h.sa.1
  intro d
  induction d with
  | zero =>
    intro i q v M1 hi hq hF hO hL hv
    obtain ⟨q, rfl⟩ : ∃ z, q = z + 1 := ⟨q - 1, by omega⟩
    have e1 : M1 40 1 = M 168 1 := by rw [hF 40 (by omega) (by omega)]; exact h.nt.1
    refine ⟨v, M1, ?_, fun _ _ => rfl, ?_, hv⟩
    · rw [f_X8_lastStart_L6, e1, if_pos (by rw [jw_of (x := M 168 1) (by omega) (by omega), jw_of (x := (i : Int)) (by omega) (by omega)]; omega)]
      rfl
    · rw [show M 168 1 = (i : Int) by omega]; exact hL
  | succ d ih =>
    intro i q v M1 hi hq hF hO hL hv
    obtain ⟨q, rfl⟩ : ∃ z, q = z + 1 := ⟨q - 1, by omega⟩
    have e1 : M1 40 1 = M 168 1 := by rw [hF 40 (by omega) (by omega)]; exact h.nt.1
    have i8 : i < 8 := by omega
    have il : (i : Int) < M 168 1 := by omega
    obtain ⟨p1, p2, p3, p4, p5⟩ := h.cur.1.2.2.2.2.2.1 i i8 il
    have e4 : M1 (40 + 4) i = M 168 (8 + 6 * i) := by rw [hF (40 + 4) (by omega) (by omega)]; exact p1.1
    have e6 : M1 (40 + 6) i = M 168 (10 + 6 * i) := by rw [hF (40 + 6) (by omega) (by omega)]; exact p3.1
    have go : ∀ (w : Int) (M2 : JMem), (∀ c : Nat, c ≠ 77 → M2 c = M1 c) → LsT (M 168) ((i + 1 : Nat) : Int) (LG (M 168) x2 p0 to b) w → (-1 ≤ w ∧ w ≤ 63) → ∃ r M3, f_X8_lastStart_L62 n 40 (f_X8_lastStart_L6 n 40 q) x2 (p0 : Int) (to : Int) b w (i : Int) M2 = some (r, M3) ∧ (∀ c : Nat, c ≠ 77 → M3 c = M1 c) ∧ LsT (M 168) (M 168 1) (LG (M 168) x2 p0 to b) r ∧ -1 ≤ r ∧ r ≤ 63 := fun w M2 h2 hl hw => by
      obtain ⟨r, M3, r1, r2, r3⟩ := ih (i + 1) q w M2 (by omega) (by omega) (fun c c1 c2 => by rw [h2 c c1, hF c c1 c2]) (by rw [h2 78 (by omega)]; exact hO) hl hw
      refine ⟨r, M3, ?_, fun c hc => by rw [r2 c hc, h2 c hc], r3⟩
      unfold f_X8_lastStart_L62
      simp only [letv_ap]
      exact r1
    have keep : (LG (M 168) x2 p0 to b i → M 168 (10 + 6 * i) ≤ v) → LsT (M 168) ((i + 1 : Nat) : Int) (LG (M 168) x2 p0 to b) v := fun hg => by
      rcases hL with ⟨a, a'⟩ | ⟨⟨t, t1, t2, t3⟩, a'⟩
      · refine Or.inl ⟨a, fun t tl tg => ?_⟩
        by_cases e : t = i
        · rw [e] at tg
          have := hg tg
          omega
        · exact a' t (by omega) tg
      · refine Or.inr ⟨⟨t, by omega, t2, t3⟩, fun u ul ug => ?_⟩
        by_cases e : u = i
        · rw [e] at ug ⊢
          exact hg ug
        · exact a' u (by omega) ug
    rw [f_X8_lastStart_L6, e1, if_neg (by rw [jw_of (x := M 168 1) (by omega) (by omega), jw_of (x := (i : Int)) (by omega) (by omega)]; omega), chk_pos (jin_of (by omega) (by omega) (by omega)), chk_pos (jin_of (by omega) (by omega) (by omega)), show (jw (i : Int)).toNat = i from jwb (by omega), e4, e6, jw_of (x := M 168 (8 + 6 * i)) (by omega) (by omega), jw_of (x := (p0 : Int)) (by omega) (by omega), jw_of (x := M 168 (10 + 6 * i)) (by omega) (by omega), jw_of (x := v) (by omega) (by omega)]
    by_cases c1 : M 168 (8 + 6 * i) = p0
    · rw [if_pos c1]
      by_cases c2 : M 168 (10 + 6 * i) ≤ v
      · rw [if_pos c2]
        exact go v M1 (fun _ _ => rfl) (keep (fun _ => c2)) hv
      · rw [if_neg c2]
        obtain ⟨r, M2, a1, a2, a3⟩ := h.soonW (n := n) hf hx i8 il t6 hF hO
        have gt := a3.lg h.sa t6 hb.2 c1
        have rb : 0 ≤ r ∧ r ≤ 65 := by
          rcases a3 with ⟨a, a'⟩ | ⟨a, a', V, v1, v2⟩
          · omega
          · have := v1.2.1 to t6
            omega
        rw [a1, bnd_some, jw_of (x := r) (by omega) (by omega), jw_of (x := b) (by omega) (by omega)]
        by_cases c3 : b < r
        · rw [if_pos c3]
          exact go v M2 a2 (keep (fun g => by have := gt.2 g; omega)) hv
        · rw [if_neg c3, chk_pos (jin_of (by omega) (by omega) (by omega))]
          simp only [letv_ap]
          rw [a2 (40 + 6) (by omega), e6]
          refine go _ M2 a2 (Or.inr ⟨⟨i, by omega, gt.1 (by omega), rfl⟩, fun u ul ug => ?_⟩) (by omega)
          by_cases e : u = i
          · rw [e]; exact Int.le_refl _
          · rcases hL with ⟨a, a'⟩ | ⟨_, a'⟩
            · exact absurd ug (a' u (by omega))
            · have := a' u (by omega) ug
              omega
    · rw [if_neg c1]
      exact go v M1 (fun _ _ => rfl) (keep (fun g => absurd g.1 c1)) hv
theorem JR.lastStart (h : JR M) (hf : 100 ≤ n) {x2 b : Int} (hx : S8 x2) {p0 to : Nat} (hp0 : p0 < 6) (t6 : to < 6) (hb : 0 ≤ b ∧ b ≤ 64) {M1 : JMem} (hF : ∀ c : Nat, c ≠ 77 → c ≠ 78 → M1 c = M c) (hO : OrdK (M 168) (M 168 1).toNat (M1 78)) :
    ∃ r M2, f_X8_lastStart n 40 x2 (p0 : Int) (to : Int) b M1 = some (r, M2) ∧ (∀ c : Nat, c ≠ 77 → M2 c = M1 c) ∧ LsT (M 168) (M 168 1) (LG (M 168) x2 p0 to b) r ∧ -1 ≤ r ∧ r ≤ 63 := by
  obtain ⟨r, M2, r1, r2⟩ := h.lastT (n := n) hf hx hp0 t6 hb (M 168 1).toNat 0 n (-1) M1 (by omega) (by have := h.nt; omega) hF hO (Or.inl ⟨rfl, fun t tl => by omega⟩) (by omega)
  exact ⟨r, M2, r1, r2⟩
theorem JR.lastM (h : JR M) (hf : 100 ≤ n) {g b : Int} (g1 : S8 g) (g2 : ∀ t : Nat, t < 8 → (bit g t = true ↔ (t : Int) < M 168 1 ∧ ¬ bit (M 52 4) t = true)) (g3 : ∀ M1 : JMem, M1 168 = M 168 → f_X12_going n M1 = some (g, M1)) {p0 to : Nat} (hp0 : p0 < 6) (t6 : to < 6) (hne : p0 ≠ to) (hb : 0 ≤ b ∧ b ≤ 64) {M0 : JMem} (h168 : M0 168 = M 168) :
    ∀ (d q : Nat) (v : Int) (M1 : JMem), v = (d : Int) - 1 → d ≤ 64 → d < q → (∀ c : Nat, c ≠ 179 → M1 c = M0 c) → (∀ t : Nat, (t : Int) < M 168 1 → LG (M 168) (M 52 4) p0 to b t → M 168 (10 + 6 * t) ≤ v) →
    ∃ r M2, f_X12_latestOf_L15 n q (p0 : Int) (to : Int) b v M1 = some (r, M2) ∧ (∀ c : Nat, c ≠ 179 → M2 c = M0 c) ∧ LsT (M 168) (M 168 1) (LG (M 168) (M 52 4) p0 to b) r := by
  have n1 := h.sa.2.1
  have n0 := h.sa.1
  intro d
  induction d with
  | zero =>
    intro q v M1 hv hd hq hF hn
    obtain ⟨q, rfl⟩ : ∃ z, q = z + 1 := ⟨q - 1, by omega⟩
    refine ⟨-1, M1, ?_, hF, Or.inl ⟨rfl, fun t tl tg => ?_⟩⟩
    · rw [f_X12_latestOf_L15, if_pos (by rw [jw_of (x := v) (by omega) (by omega)]; omega)]
    · have := hn t tl tg
      obtain ⟨s1, s2, s3, s4, s5, s6⟩ := h.sa.2.2.2.2.2.1 t (by omega) tl
      omega
  | succ d ih =>
    intro q v M1 hv hd hq hF hn
    obtain ⟨q, rfl⟩ : ∃ z, q = z + 1 := ⟨q - 1, by omega⟩
    have e1 : M1 168 = M 168 := by rw [hF 168 (by omega)]; exact h168
    obtain ⟨V, hV⟩ := h.ea h.cl hp0 (k := v) ⟨by omega, by omega⟩
    obtain ⟨M2, a1, a2, a3⟩ := h.lays (n := n) hf g1 (cl := M 52 4) (fun t t8 tl => (g2 t t8).trans ⟨fun q => q.2, fun q => ⟨tl, q⟩⟩) hp0 (k := v) ⟨by omega, by omega⟩ hV (M1 := M1) e1
    have vb := hV.2.1 to t6
    rw [f_X12_latestOf_L15, if_neg (by rw [jw_of (x := v) (by omega) (by omega)]; omega), g3 M1 e1, bnd_some, a1, bnd_some, chk_pos (jin_of (by omega) (by omega) (by omega)), show (jw (to : Int)).toNat = to from jwb (by omega), a3 to t6, jw_of (x := b) (by omega) (by omega)]
    by_cases c : V to ≤ b
    · rw [if_pos (show V to ≤ 64 by omega), jw_of (x := V to) (by omega) (by omega), if_neg (by omega)]
      refine ⟨v, M2, rfl, fun c hc => by rw [a2 c hc, hF c hc], Or.inr ⟨?_, hn⟩⟩
      obtain ⟨t, tl, tg, t1, t2, t3, W, w1, w2⟩ := EA.first h.sa hV (fun p k hp hk => h.ea h.cl hp hk) 64 to t6 (fun e => hne e.symm) (by omega) (by omega)
      have lg : LG (M 168) (M 52 4) p0 to b t := ⟨t1, tg, t3, W, w1, by omega⟩
      exact ⟨t, tl, lg, by have := hn t tl lg; omega⟩
    · have : b < jw (if V to ≤ 64 then V to else 1000000) := by
        by_cases c5 : V to ≤ 64
        · rw [if_pos c5, jw_of (x := V to) (by omega) (by omega)]; omega
        · rw [if_neg c5, show jw 1000000 = 1000000 by decide]; omega
      rw [if_pos this]
      simp only [letv_ap]
      refine ih q (v + -1) M2 (by omega) (by omega) (by omega) (fun c hc => by rw [a2 c hc, hF c hc]) (fun t tl tg => ?_)
      have old := hn t tl tg
      by_cases e : M 168 (10 + 6 * t) ≤ v - 1
      · omega
      · exfalso
        obtain ⟨t1, t2, t3, W, w1, w2⟩ := tg
        obtain ⟨s1, s2, s3, s4, s5, s6⟩ := h.sa.2.2.2.2.2.1 t (by omega) tl
        apply c
        have r := hV.2.2.1 t (by omega) tl t2 (by rw [t1, Int.toNat_natCast, hV.1]; omega) t3
        have wb := w1.2.1 to t6
        have := EA.le h.sa hV w1 r 65 to t6 wb.2
        omega
theorem JR.latestOf (h : JR M) (hf : 100 ≤ n) {g b : Int} (g1 : S8 g) (g2 : ∀ t : Nat, t < 8 → (bit g t = true ↔ (t : Int) < M 168 1 ∧ ¬ bit (M 52 4) t = true)) (g3 : ∀ M1 : JMem, M1 168 = M 168 → f_X12_going n M1 = some (g, M1)) {p0 to : Nat} (hp0 : p0 < 6) (t6 : to < 6) (hne : p0 ≠ to) (hb : 0 ≤ b ∧ b ≤ 64) {M1 : JMem} (h168 : M1 168 = M 168) :
    ∃ r M2, f_X12_latestOf n (p0 : Int) (to : Int) b M1 = some (r, M2) ∧ (∀ c : Nat, c ≠ 179 → M2 c = M1 c) ∧ LsT (M 168) (M 168 1) (LG (M 168) (M 52 4) p0 to b) r := by
  have em : jmin b 63 = if 63 < b then 63 else b := by
    unfold jmin
    rw [jw_of (x := b) (by omega) (by omega), show jw 63 = 63 by decide]
  have eb : 0 ≤ jmin b 63 ∧ jmin b 63 ≤ 63 ∧ (jmin b 63 = 63 ∨ jmin b 63 = b) := by
    rw [em]
    by_cases c : 63 < b
    · rw [if_pos c]; omega
    · rw [if_neg c]; omega
  obtain ⟨r, M2, r1, r2, r3⟩ := h.lastM (n := n) hf g1 g2 g3 hp0 t6 hne hb (M0 := M1) h168 ((jmin b 63).toNat + 1) n (jmin b 63) M1 (by omega) (by omega) (by omega) (fun _ _ => rfl) (fun t tl tg => by
    obtain ⟨t1, t2, t3, W, w1, w2⟩ := tg
    have n1 := h.sa.2.1
    obtain ⟨s1, s2, s3, s4, s5, s6⟩ := h.sa.2.2.2.2.2.1 t (by omega) tl
    have wb := w1.2.1 to t6
    omega)
  refine ⟨r, M2, ?_, r2, r3⟩
  unfold f_X12_latestOf
  rw [if_neg (by rw [jw_of (x := (p0 : Int)) (by omega) (by omega), jw_of (x := (to : Int)) (by omega) (by omega)]; omega)]
  simp only [letv_ap]
  exact r1
end PLATEST

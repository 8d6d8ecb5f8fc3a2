section PCUT
variable {n : Nat} {M : JMem}
/-- the least set of a kind, the first of the least -/
def LC (i : Nat) (C : Nat → Prop) (v : Int) : Prop := (v = -1 ∧ ∀ j : Nat, j < i → ¬ C j) ∨ ∃ m : Nat, v = (m : Int) ∧ m < i ∧ C m ∧ ∀ j : Nat, j < i → C j → pcI (m : Int) < pcI (j : Int) ∨ (pcI (m : Int) = pcI (j : Int) ∧ m ≤ j)
theorem LC.uniq {i : Nat} {C : Nat → Prop} {v w : Int} (h : LC i C v) (h2 : LC i C w) : v = w := by
  rcases h with ⟨a, b⟩ | ⟨m, a, b, c, d⟩
  · rcases h2 with ⟨a', b'⟩ | ⟨m', a', b', c', d'⟩
    · rw [a, a']
    · exact absurd c' (b m' b')
  · rcases h2 with ⟨a', b'⟩ | ⟨m', a', b', c', d'⟩
    · exact absurd c (b' m b)
    · have := d m' b' c'
      have := d' m b c
      omega
theorem LC.new {i : Nat} {C : Nat → Prop} {v : Int} (h : LC i C v) (hc : C i) (hv : v = -1 ∨ pcI (i : Int) < pcI v) : LC (i + 1) C (i : Int) := by
  refine Or.inr ⟨i, rfl, by omega, hc, fun j hj cj => ?_⟩
  by_cases e : j = i
  · rw [e]; exact Or.inr ⟨rfl, Nat.le_refl _⟩
  · rcases h with ⟨a, b⟩ | ⟨m, a, b, c, d⟩
    · exact absurd cj (b j (by omega))
    · have := d j (by omega) cj
      rw [a] at hv
      omega
theorem LC.keep {i : Nat} {C : Nat → Prop} {v : Int} (h : LC i C v) (hc : C i → v ≠ -1 ∧ pcI v ≤ pcI (i : Int)) : LC (i + 1) C v := by
  rcases h with ⟨a, b⟩ | ⟨m, a, b, c, d⟩
  · refine Or.inl ⟨a, fun j hj cj => ?_⟩
    by_cases e : j = i
    · rw [e] at cj; exact (hc cj).1 a
    · exact b j (by omega) cj
  · refine Or.inr ⟨m, a, by omega, c, fun j hj cj => ?_⟩
    by_cases e : j = i
    · rw [e] at cj ⊢
      have := (hc cj).2
      rw [a] at this
      omega
    · exact d j (by omega) cj
def CS (A : Nat → Int) (cl : Int) (pl : Nat) (m : Nat) : Prop := jand (m : Int) cl = 0 ∧ ∃ V, EA A (fun t => ¬ bit (jor cl (m : Int)) t = true) 0 0 V ∧ 64 < V pl
theorem LC.s8 {i : Nat} {C : Nat → Prop} {v : Int} (h : LC i C v) (hi : i ≤ 256) (hv : ¬ v = -1) : S8 v := by
  rcases h with ⟨a, b⟩ | ⟨m, a, b, c, d⟩
  · exact absurd a hv
  · rw [a]; exact ⟨by omega, by omega⟩
theorem JR.cutL (h : JR M) (hf : 1000 ≤ n) {pl : Nat} (p6 : pl < 6) :
    ∀ (d i q : Nat) (v : Int) (M1 : JMem), i + d = 2 ^ (M 168 1).toNat → d < q → (∀ c : Nat, c ≠ 77 → c ≠ 78 → M1 c = M c) → OrdK (M 168) (M 168 1).toNat (M1 78) → LC i (CS (M 168) (M 52 4) pl) v →
    ∃ r M2, f_X11_leastCut_L15 n q (pl : Int) v (i : Int) M1 = some (r, M2) ∧ (∀ c : Nat, c ≠ 77 → M2 c = M1 c) ∧ LC (2 ^ (M 168 1).toNat) (CS (M 168) (M 52 4) pl) r := by
  have nt := h.nt
  have sp := jsh_pow (nb := M 168 1) ⟨by omega, by omega⟩
  have p8 := pow8 (M 168 1).toNat (by omega)
  have hcl := h.cl
  intro d
  induction d with
  | zero =>
    intro i q v M1 hi hq hF hO hL
    obtain ⟨q, rfl⟩ : ∃ z, q = z + 1 := ⟨q - 1, by omega⟩
    have e1 : M1 40 1 = M 168 1 := by rw [hF 40 (by omega) (by omega)]; exact nt.1
    refine ⟨v, M1, ?_, fun _ _ => rfl, by rw [← hi]; exact hL⟩
    rw [f_X11_leastCut_L15, e1, sp.2, if_pos (by rw [jw_of (x := (i : Int)) (by omega) (by omega)]; omega)]
  | succ d ih =>
    intro i q v M1 hi hq hF hO hL
    obtain ⟨q, rfl⟩ : ∃ z, q = z + 1 := ⟨q - 1, by omega⟩
    have e1 : M1 40 1 = M 168 1 := by rw [hF 40 (by omega) (by omega)]; exact nt.1
    have i8 : S8 (i : Int) := ⟨by omega, by omega⟩
    have go : ∀ (w : Int) (M2 : JMem), (∀ c : Nat, c ≠ 77 → M2 c = M1 c) → LC (i + 1) (CS (M 168) (M 52 4) pl) w → ∃ r M3, f_X11_leastCut_L98 n (f_X11_leastCut_L15 n q) (pl : Int) w (i : Int) M2 = some (r, M3) ∧ (∀ c : Nat, c ≠ 77 → M3 c = M1 c) ∧ LC (2 ^ (M 168 1).toNat) (CS (M 168) (M 52 4) pl) r := fun w M2 h2 hl => by
      obtain ⟨r, M3, r1, r2, r3⟩ := ih (i + 1) q w M2 (by omega) (by omega) (fun c c1 c2 => by rw [h2 c c1, hF c c1 c2]) (by rw [h2 78 (by omega)]; exact hO) hl
      refine ⟨r, M3, ?_, fun c hc => by rw [r2 c hc, h2 c hc], r3⟩
      unfold f_X11_leastCut_L98
      simp only [letv_ap]
      exact r1
    have look : (v = -1 ∨ pcI (i : Int) < pcI v) → ∃ r M3, f_X11_leastCut_L44 n (f_X11_leastCut_L15 n q) (pl : Int) v (i : Int) M1 = some (r, M3) ∧ (∀ c : Nat, c ≠ 77 → M3 c = M1 c) ∧ LC (2 ^ (M 168 1).toNat) (CS (M 168) (M 52 4) pl) r := fun hv => by
      have ja := (jandS i8 hcl).1
      have jo := (jorS hcl i8).1
      unfold f_X11_leastCut_L44 f_X11_leastCut_L49
      simp only [letv_ap]
      rw [if_neg (by decide), hF 52 (by omega) (by omega), jw_of (x := jand (i : Int) (M 52 4)) (by have := ja.1; omega) (by have := ja.2; omega)]
      by_cases c1 : jand (i : Int) (M 52 4) = 0
      · obtain ⟨M2, a1, a2, a3⟩ := h.soon (n := n) (by omega) jo (p0 := 0) (to := pl) (by omega) p6 (k := 0) ⟨by omega, by omega⟩ (M1 := M1) hF hO
        have vb := a3.2.1 pl p6
        rw [if_pos c1, show f_X8_soon n 40 (jor (M 52 4) (i : Int)) 0 0 (pl : Int) M1 = _ from a1, bnd_some, jw_of (x := M2 77 pl) (by omega) (by omega), show jw 64 = 64 by decide]
        by_cases c2 : M2 77 pl ≤ 64
        · rw [if_pos c2]
          refine go v M2 a2 (hL.keep fun hc => ?_)
          obtain ⟨_, V, v1, v2⟩ := hc
          have := EA.uniq h.sa v1 a3 p6
          omega
        · rw [if_neg c2]
          exact go (i : Int) M2 a2 (hL.new ⟨c1, M2 77, a3, by omega⟩ hv)
      · rw [if_neg c1]
        exact go v M1 (fun _ _ => rfl) (hL.keep fun hc => absurd hc.1 c1)
    rw [f_X11_leastCut_L15, e1, sp.2, if_neg (by rw [jw_of (x := (i : Int)) (by omega) (by omega)]; omega)]
    by_cases cv : v = -1
    · rw [if_pos (by rw [cv])]
      exact look (Or.inl cv)
    · have sv := hL.s8 (by omega) cv
      rw [if_neg (by rw [jw_of (x := v) (by have := sv.1; omega) (by have := sv.2; omega), show jw (-1) = -1 by decide]; exact cv), q_bc i8, bnd_some, q_bc sv, bnd_some]
      have b1 := pcI_range i8
      have b2 := pcI_range sv
      rw [jw_of (x := pcI v) (by omega) (by omega), jw_of (x := pcI (i : Int)) (by omega) (by omega)]
      by_cases c : pcI v ≤ pcI (i : Int)
      · rw [if_pos c]
        unfold f_X11_leastCut_L49
        simp only [letv_ap]
        rw [if_pos (by decide)]
        exact go v M1 (fun _ _ => rfl) (hL.keep fun _ => ⟨cv, c⟩)
      · rw [if_neg c]
        exact look (Or.inr (by omega))
theorem JR.cutM (h : JR M) (hf : 1000 ≤ n) {g : Int} (g1 : S8 g) (g2 : ∀ t : Nat, t < 8 → (bit g t = true ↔ (t : Int) < M 168 1 ∧ ¬ bit (M 52 4) t = true)) (g3 : ∀ M1 : JMem, M1 168 = M 168 → f_X12_going n M1 = some (g, M1)) {pl : Nat} (p6 : pl < 6) (pl0 : (pl : Int) < M 168 0) {M0 : JMem} (h168 : M0 168 = M 168) :
    ∀ (d i q : Nat) (v : Int) (M1 : JMem), i + d = 2 ^ (M 168 1).toNat → d < q → (∀ c : Nat, c ≠ 179 → M1 c = M0 c) → LC i (CS (M 168) (M 52 4) pl) v →
    ∃ r M2, f_X12_cutting_L4 n q (pl : Int) v (i : Int) M1 = some (r, M2) ∧ (∀ c : Nat, c ≠ 179 → M2 c = M0 c) ∧ LC (2 ^ (M 168 1).toNat) (CS (M 168) (M 52 4) pl) r := by
  have nt := h.nt
  have sp := jsh_pow (nb := M 168 1) ⟨by omega, by omega⟩
  have p8 := pow8 (M 168 1).toNat (by omega)
  have hcl := h.cl
  intro d
  induction d with
  | zero =>
    intro i q v M1 hi hq hF hL
    obtain ⟨q, rfl⟩ : ∃ z, q = z + 1 := ⟨q - 1, by omega⟩
    have e1 : M1 168 = M 168 := by rw [hF 168 (by omega)]; exact h168
    refine ⟨v, M1, ?_, hF, by rw [← hi]; exact hL⟩
    rw [f_X12_cutting_L4, chk_pos (by decide), show (jw 1).toNat = 1 by decide, e1, sp.2, if_pos (by rw [jw_of (x := (i : Int)) (by omega) (by omega)]; omega)]
  | succ d ih =>
    intro i q v M1 hi hq hF hL
    obtain ⟨q, rfl⟩ : ∃ z, q = z + 1 := ⟨q - 1, by omega⟩
    have e1 : M1 168 = M 168 := by rw [hF 168 (by omega)]; exact h168
    have i8 : S8 (i : Int) := ⟨by omega, by omega⟩
    have il := low_set (nb := M 168 1) ⟨by omega, by omega⟩ (i := i) (by omega)
    have jg := jandn i8 g1
    have ja := jandS i8 hcl
    have same : jand (i : Int) (jxor g (-1)) = 0 ↔ jand (i : Int) (M 52 4) = 0 := by
      rw [zero_of jg.1, zero_of ja.1]
      constructor
      · intro q b b8 hb
        rw [ja.2 b, Bool.and_eq_true] at hb
        exact q b b8 ((jg.2 b b8).2 ⟨hb.1, fun z => ((g2 b b8).1 z).2 hb.2⟩)
      · intro q b b8 hb
        have z := (jg.2 b b8).1 hb
        refine q b b8 ?_
        rw [ja.2 b, Bool.and_eq_true]
        refine ⟨z.1, ?_⟩
        by_cases c : bit (M 52 4) b = true
        · exact c
        · exact absurd ((g2 b b8).2 ⟨il.2 b b8 z.1, c⟩) z.2
    have go : ∀ (w : Int) (M2 : JMem), (∀ c : Nat, c ≠ 179 → M2 c = M0 c) → LC (i + 1) (CS (M 168) (M 52 4) pl) w → ∃ r M3, f_X12_cutting_L68 n (f_X12_cutting_L4 n q) (pl : Int) w (i : Int) M2 = some (r, M3) ∧ (∀ c : Nat, c ≠ 179 → M3 c = M0 c) ∧ LC (2 ^ (M 168 1).toNat) (CS (M 168) (M 52 4) pl) r := fun w M2 h2 hl => by
      obtain ⟨r, M3, r1, r2, r3⟩ := ih (i + 1) q w M2 (by omega) (by omega) h2 hl
      refine ⟨r, M3, ?_, r2, r3⟩
      unfold f_X12_cutting_L68
      simp only [letv_ap]
      exact r1
    have look : jand (i : Int) (M 52 4) = 0 → (v = -1 ∨ pcI (i : Int) < pcI v) → ∃ r M3, f_X12_cutting_L46 n (f_X12_cutting_L4 n q) (pl : Int) v (i : Int) M1 = some (r, M3) ∧ (∀ c : Nat, c ≠ 179 → M3 c = M0 c) ∧ LC (2 ^ (M 168 1).toNat) (CS (M 168) (M 52 4) pl) r := fun c1 hv => by
      have jo := jorS hcl i8
      have jd := jandn g1 i8
      obtain ⟨V, hV⟩ := h.ea jo.1 (p0 := 0) (by omega) (k := 0) ⟨by omega, by omega⟩
      obtain ⟨r, M2, a1, a2, a3, a4⟩ := h.reachBy (n := n) (by omega) jd.1 (cl := jor (M 52 4) (i : Int)) (fun t t8 tl => by
        rw [jd.2 t t8, g2 t t8, jo.2 t, Bool.or_eq_true]
        constructor
        · rintro ⟨⟨_, q1⟩, q2⟩ (z | z)
          · exact q1 z
          · exact q2 z
        · exact fun q => ⟨⟨tl, fun z => q (Or.inl z)⟩, fun z => q (Or.inr z)⟩) hV (M1 := M1) e1
      unfold f_X12_cutting_L46
      rw [g3 M1 e1, bnd_some, a1, bnd_some, q_isInM a3 (by omega), bnd_some]
      have ab := a4 pl (by omega)
      by_cases c2 : bit r pl = true
      · rw [if_pos c2, if_neg (by decide)]
        refine go v M2 (fun c hc => by rw [a2 c hc, hF c hc]) (hL.keep fun hc => ?_)
        obtain ⟨_, W, w1, w2⟩ := hc
        have := EA.uniq h.sa w1 hV p6
        have := (ab.1 c2).2
        omega
      · rw [if_neg c2, if_pos (by decide)]
        simp only [letv_ap]
        have : 64 < V pl := by
          by_cases z : V pl ≤ 64
          · exact absurd (ab.2 ⟨pl0, z⟩) c2
          · omega
        exact go (i : Int) M2 (fun c hc => by rw [a2 c hc, hF c hc]) (hL.new ⟨c1, V, hV, this⟩ hv)
    rw [f_X12_cutting_L4, chk_pos (by decide), show (jw 1).toNat = 1 by decide, show M1 168 1 = M 168 1 by rw [e1], sp.2, if_neg (by rw [jw_of (x := (i : Int)) (by omega) (by omega)]; omega), g3 M1 e1, bnd_some, jw_of (x := jand (i : Int) (jxor g (-1))) (by have := jg.1.1; omega) (by have := jg.1.2; omega)]
    by_cases c1 : jand (i : Int) (M 52 4) = 0
    · rw [if_pos (same.2 c1)]
      by_cases cv : v = -1
      · rw [if_pos (by rw [cv])]
        exact look c1 (Or.inl cv)
      · have sv := hL.s8 (by omega) cv
        rw [if_neg (by rw [jw_of (x := v) (by have := sv.1; omega) (by have := sv.2; omega), show jw (-1) = -1 by decide]; exact cv), q_bits (by omega) i8, bnd_some, q_bits (by omega) sv, bnd_some]
        have b1 := pcI_range i8
        have b2 := pcI_range sv
        rw [jw_of (x := pcI v) (by omega) (by omega), jw_of (x := pcI (i : Int)) (by omega) (by omega)]
        by_cases c : pcI (i : Int) < pcI v
        · rw [if_pos c]
          exact look c1 (Or.inr c)
        · rw [if_neg c]
          exact go v M1 hF (hL.keep fun _ => ⟨cv, by omega⟩)
    · rw [if_neg (fun q => c1 (same.1 q))]
      exact go v M1 hF (hL.keep fun hc => absurd hc.1 c1)
/-- stopping every train that goes is enough -/
theorem JR.cutAll (h : JR M) {pl : Nat} (p6 : pl < 6) (p0 : pl ≠ 0) {v : Int} (hL : LC (2 ^ (M 168 1).toNat) (CS (M 168) (M 52 4) pl) v) : ¬ v = -1 := by
  intro e
  rcases hL with ⟨a, b⟩ | ⟨m, a, _⟩
  · obtain ⟨g, g1, g2, _⟩ := h.going (n := 100) (Nat.le_refl _)
    have nt := h.nt
    have hcl := h.cl
    obtain ⟨m, hm, rfl⟩ := g1.nat
    have lt : m < 2 ^ (M 168 1).toNat := Nat.lt_pow_two_of_testBit m fun i hi => by
      by_cases c : i < 8
      · rw [← bit_nat]
        cases hb : bit (m : Int) i with
        | false => rfl
        | true => have := ((g2 i c).1 hb).1; omega
      · exact Nat.testBit_lt_two_pow (Nat.lt_of_lt_of_le hm (Nat.pow_le_pow_right (n := 2) (by decide) (show 8 ≤ i by omega)))
    have ja := jandS g1 hcl
    have jo := jorS hcl g1
    obtain ⟨V, hV⟩ := h.ea jo.1 (p0 := 0) (by omega) (k := 0) ⟨by omega, by omega⟩
    refine b m lt ⟨?_, V, hV, ?_⟩
    · rw [zero_of ja.1]
      intro t t8 ht
      rw [ja.2 t, Bool.and_eq_true] at ht
      exact ((g2 t t8).1 ht.1).2 ht.2
    · by_cases c : V pl ≤ 64
      · obtain ⟨t, t8, tl, tg, _⟩ := hV.2.2.2 pl p6 p0 c
        exfalso
        apply tg
        rw [jo.2 t, Bool.or_eq_true]
        by_cases q : bit (M 52 4) t = true
        · exact Or.inl q
        · exact Or.inr ((g2 t t8).2 ⟨tl, q⟩)
      · omega
  · omega
theorem JR.cuts (h : JR M) (hf : 1000 ≤ n) {pl : Nat} (p6 : pl < 6) (p0 : pl ≠ 0) (pl0 : (pl : Int) < M 168 0) : ∃ v M1, f_X11_leastCut n (pl : Int) M = some (v, M1) ∧ (∀ c : Nat, c ≠ 77 → c ≠ 78 → M1 c = M c) ∧ S8 v ∧ ∀ x : Int, ∃ M2, f_X12_cutting n (pl : Int) (jup M1 0 0 x) = some (v, M2) ∧ ∀ c : Nat, c ≠ 179 → M2 c = jup M1 0 0 x c := by
  have nt := h.nt
  have p8 := pow8 (M 168 1).toNat (by omega)
  obtain ⟨M1, a1, a2, a3⟩ := h.ord (n := n) (by omega)
  obtain ⟨v, M2, b1, b2, b3⟩ := h.cutL (n := n) hf p6 (2 ^ (M 168 1).toNat) 0 n (-1) M1 (by omega) (by omega) (fun c _ c2 => a2 c c2) a3 (Or.inl ⟨rfl, fun j hj => by omega⟩)
  have hF : ∀ c : Nat, c ≠ 77 → c ≠ 78 → M2 c = M c := fun c c1 c2 => by rw [b2 c c1, a2 c c2]
  refine ⟨v, M2, ?_, hF, b3.s8 (by omega) (h.cutAll p6 p0 b3), fun x => ?_⟩
  · unfold f_X11_leastCut
    rw [a1, bnd_some]
    simp only [letv_ap]
    exact b1
  · obtain ⟨g, g1, g2, g3⟩ := h.going (n := n) (by omega)
    obtain ⟨w, M3, d1, d2, d3⟩ := h.cutM (n := n) hf g1 g2 g3 p6 pl0 (M0 := jup M2 0 0 x) (by rw [jup_cell (by omega), hF 168 (by omega) (by omega)]) (2 ^ (M 168 1).toNat) 0 n (-1) (jup M2 0 0 x) (by omega) (by omega) (fun _ _ => rfl) (Or.inl ⟨rfl, fun j hj => by omega⟩)
    have ew : w = v := d3.uniq b3
    rw [ew] at d1
    refine ⟨M3, ?_, d2⟩
    unfold f_X12_cutting
    simp only [letv_ap]
    exact d1
theorem p_cut (hf : 1000 ≤ n) : jO_cut JR n := by
  intro x1 hx1 M h
  have e1 := jwI hx1
  have np := h.np
  by_cases w1 : 0 ≤ x1 ∧ x1 < M 168 0
  · by_cases w0 : x1 = 0
    · refine Pr.end (r := -1) (s := -1) (x := 1) (y := 1) h ?_ ?_ rfl rfl
      · unfold f_X11_cut f_X11_cut_L12
        rw [h.isP hx1, bnd_some, if_pos w1, if_neg (by decide), e1, if_pos w0]; rfl
      · unfold f_X12_cut f_X12_cut_L27
        rw [h.isPM hx1 (jup M 0 0 1) rfl, bnd_some, if_pos w1, if_neg (by decide), e1, if_pos (by omega)]; rfl
    · obtain ⟨p, p6, ep⟩ := natOf (x := x1) (k := 6) (by omega) (by omega)
      obtain ⟨v, M1, a1, a2, a3, a4⟩ := h.cuts (n := n) hf p6 (by omega) (by omega)
      obtain ⟨M2, b1, b2⟩ := a4 0
      refine Pr.way h (r := pcI v) (s := pcI v) (x := 0) (M1 := M1) (M2 := M2) ?_ a2 ?_ b2 rfl
      · unfold f_X11_cut
        rw [h.isP hx1, bnd_some, if_pos w1, if_neg (by decide), e1, if_neg w0, ep, a1, bnd_some, q_bc a3, bnd_some]; rfl
      · unfold f_X12_cut
        rw [h.isPM hx1 (jup M1 0 0 0) (by rw [jup_cell (by omega), a2 168 (by omega) (by omega)]), bnd_some, if_pos w1, if_neg (by decide), e1, if_neg (by omega), ep, b1, bnd_some, q_bits (by omega) a3, bnd_some]; rfl
  · refine Pr.end (r := -1) (s := -1) (x := 1) (y := 1) h ?_ ?_ rfl rfl
    · unfold f_X11_cut f_X11_cut_L12
      rw [h.isP hx1, bnd_some, if_neg w1, if_pos (by decide)]; rfl
    · unfold f_X12_cut f_X12_cut_L27
      rw [h.isPM hx1 (jup M 0 0 1) rfl, bnd_some, if_neg w1, if_pos (by decide)]; rfl
theorem p_cutSet (hf : 1000 ≤ n) : jO_cutSet JR n := by
  intro x1 hx1 M h
  have e1 := jwI hx1
  have np := h.np
  by_cases w1 : 0 ≤ x1 ∧ x1 < M 168 0
  · by_cases w0 : x1 = 0
    · refine Pr.end (r := -1) (s := -1) (x := 1) (y := 1) h ?_ ?_ rfl rfl
      · unfold f_X11_cutSet f_X11_cutSet_L12
        rw [h.isP hx1, bnd_some, if_pos w1, if_neg (by decide), e1, if_pos w0]; rfl
      · unfold f_X12_cutSet f_X12_cutSet_L24
        rw [h.isPM hx1 (jup M 0 0 1) rfl, bnd_some, if_pos w1, if_neg (by decide), e1, if_pos (by omega)]; rfl
    · obtain ⟨p, p6, ep⟩ := natOf (x := x1) (k := 6) (by omega) (by omega)
      obtain ⟨v, M1, a1, a2, a3, a4⟩ := h.cuts (n := n) hf p6 (by omega) (by omega)
      obtain ⟨M2, b1, b2⟩ := a4 0
      refine Pr.way h (r := v) (s := v) (x := 0) (M1 := M1) (M2 := M2) ?_ a2 ?_ b2 rfl
      · unfold f_X11_cutSet
        rw [h.isP hx1, bnd_some, if_pos w1, if_neg (by decide), e1, if_neg w0, ep, a1, bnd_some]; rfl
      · unfold f_X12_cutSet
        rw [h.isPM hx1 (jup M1 0 0 0) (by rw [jup_cell (by omega), a2 168 (by omega) (by omega)]), bnd_some, if_pos w1, if_neg (by decide), e1, if_neg (by omega), ep, b1, bnd_some]; rfl
  · refine Pr.end (r := -1) (s := -1) (x := 1) (y := 1) h ?_ ?_ rfl rfl
    · unfold f_X11_cutSet f_X11_cutSet_L12
      rw [h.isP hx1, bnd_some, if_neg w1, if_pos (by decide)]; rfl
    · unfold f_X12_cutSet f_X12_cutSet_L24
      rw [h.isPM hx1 (jup M 0 0 1) rfl, bnd_some, if_neg w1, if_pos (by decide)]; rfl
end PCUT

section PSNOW2
variable {n : Nat} {M : JMem}
theorem JR.snowM (h : JR M) (hf : 1000 ≤ n) {gN : Nat} (g1 : S8 (gN : Int)) (g2 : ∀ t : Nat, t < 8 → (bit (gN : Int) t = true ↔ (t : Int) < M 168 1 ∧ ¬ bit (M 52 4) t = true)) (g3 : ∀ M1 : JMem, M1 168 = M 168 → f_X12_going n M1 = some ((gN : Int), M1)) {pl : Nat} (p6 : pl < 6) (pl0 : (pl : Int) < M 168 0) {R : Nat → Bool} (hR : ∀ m : Nat, m < 2 ^ (M 168 1).toNat → (R m = true ↔ jand (m : Int) (M 52 4) = 0 ∧ ∃ V, EA (M 168) (fun t => ¬ bit (jor (M 52 4) (m : Int)) t = true) 0 0 V ∧ V pl ≤ 64))
    (hgN : gN < 2 ^ (M 168 1).toNat) {all : Int} {M0 : JMem} (h168 : M0 168 = M 168) :
    ∀ (d i q : Nat) (M1 : JMem), i + d = 2 ^ (M 168 1).toNat → d < q → (∀ c : Nat, c ≠ 179 → M1 c = M0 c) →
    ∃ M2, f_X12_snow_L67 n q (pl : Int) (sumT (fun s => snF R (M 168 3) (cntN (gN : Int) 8) (s ^^^ gN)) i) all (i : Int) M1 = f_X12_snow_L196 n (sumT (fun s => snF R (M 168 3) (cntN (gN : Int) 8) (s ^^^ gN)) (2 ^ (M 168 1).toNat)) all M2 ∧ (∀ c : Nat, c ≠ 179 → M2 c = M0 c) := by
  have nt := h.nt
  have od := h.cur.1.2.2.2.1
  have sp := jsh_pow (nb := M 168 1) ⟨by omega, by omega⟩
  have p8 := pow8 (M 168 1).toNat (by omega)
  have hcl := h.cl
  intro d
  induction d with
  | zero =>
    intro i q M1 hi hq hF
    obtain ⟨q, rfl⟩ : ∃ z, q = z + 1 := ⟨q - 1, by omega⟩
    have e1 : M1 168 = M 168 := by rw [hF 168 (by omega)]; exact h168
    refine ⟨M1, ?_, hF⟩
    rw [f_X12_snow_L67, chk_pos (by decide), show (jw 1).toNat = 1 by decide, e1, sp.2, if_pos (by rw [jw_of (x := (i : Int)) (by omega) (by omega)]; omega), show i = 2 ^ (M 168 1).toNat by omega]
  | succ d ih =>
    intro i q M1 hi hq hF
    obtain ⟨q, rfl⟩ : ∃ z, q = z + 1 := ⟨q - 1, by omega⟩
    have e1 : M1 168 = M 168 := by rw [hF 168 (by omega)]; exact h168
    have i8 : S8 (i : Int) := ⟨by omega, by omega⟩
    have jg := jandn i8 g1
    have ml : i ^^^ gN < 2 ^ (M 168 1).toNat := Nat.xor_lt_two_pow (by omega) hgN
    have m8 : S8 ((i ^^^ gN : Nat) : Int) := ⟨by omega, by omega⟩
    have ja := jandS m8 hcl
    have bx : ∀ t : Nat, bit ((i ^^^ gN : Nat) : Int) t = (bit (i : Int) t ^^ bit (gN : Int) t) := fun t => by
      rw [bit_nat, bit_nat, bit_nat, Nat.testBit_xor]
    have il := low_set (nb := M 168 1) ⟨by omega, by omega⟩ (i := i) (by omega)
    have go : ∀ (w : Int) (M2 : JMem), (∀ c : Nat, c ≠ 179 → M2 c = M0 c) → w = sumT (fun s => snF R (M 168 3) (cntN (gN : Int) 8) (s ^^^ gN)) (i + 1) → ∃ M3, f_X12_snow_L190 n (f_X12_snow_L67 n q) (pl : Int) w all (i : Int) M2 = f_X12_snow_L196 n (sumT (fun s => snF R (M 168 3) (cntN (gN : Int) 8) (s ^^^ gN)) (2 ^ (M 168 1).toNat)) all M3 ∧ (∀ c : Nat, c ≠ 179 → M3 c = M0 c) := fun w M2 h2 hw => by
      obtain ⟨M3, r1, r2⟩ := ih (i + 1) q M2 (by omega) (by omega) h2
      refine ⟨M3, ?_, r2⟩
      unfold f_X12_snow_L190
      simp only [letv_ap]
      rw [hw]
      exact r1
    have no : ¬ R (i ^^^ gN) = true → sumT (fun s => snF R (M 168 3) (cntN (gN : Int) 8) (s ^^^ gN)) i = sumT (fun s => snF R (M 168 3) (cntN (gN : Int) 8) (s ^^^ gN)) (i + 1) := fun hr => by
      show _ = sumT (fun s => snF R (M 168 3) (cntN (gN : Int) 8) (s ^^^ gN)) i + snF R (M 168 3) (cntN (gN : Int) 8) (i ^^^ gN)
      rw [show snF R (M 168 3) (cntN (gN : Int) 8) (i ^^^ gN) = 0 from if_neg hr]
      omega
    have Ri := hR (i ^^^ gN) ml
    have same : jand (i : Int) (jxor (gN : Int) (-1)) = 0 ↔ jand ((i ^^^ gN : Nat) : Int) (M 52 4) = 0 := by
      rw [zero_of jg.1, zero_of ja.1]
      constructor
      · intro q b b8 hb
        rw [ja.2 b, Bool.and_eq_true, bx b] at hb
        have gb : ¬ bit (gN : Int) b = true := fun z => ((g2 b b8).1 z).2 hb.2
        rw [Bool.not_eq_true] at gb
        have hb1 := hb.1
        rw [gb, Bool.xor_false] at hb1
        exact q b b8 ((jg.2 b b8).2 ⟨hb1, by rw [gb]; decide⟩)
      · intro q b b8 hb
        have z := (jg.2 b b8).1 hb
        refine q b b8 ?_
        rw [ja.2 b, Bool.and_eq_true, bx b, z.1, Bool.eq_false_iff.2 z.2]
        refine ⟨rfl, ?_⟩
        by_cases c : bit (M 52 4) b = true
        · exact c
        · exact absurd ((g2 b b8).2 ⟨il.2 b b8 z.1, c⟩) z.2
    rw [f_X12_snow_L67, chk_pos (by decide), show (jw 1).toNat = 1 by decide, show M1 168 1 = M 168 1 by rw [e1], sp.2, if_neg (by rw [jw_of (x := (i : Int)) (by omega) (by omega)]; omega), g3 M1 e1, bnd_some, jw_of (x := jand (i : Int) (jxor (gN : Int) (-1))) (by have := jg.1.1; omega) (by have := jg.1.2; omega)]
    by_cases c1 : jand (i : Int) (jxor (gN : Int) (-1)) = 0
    · have cm := same.1 c1
      have sub : ∀ t : Nat, t < 8 → bit (i : Int) t = true → bit (gN : Int) t = true := fun t t8 ht => by
        by_cases z : bit (gN : Int) t = true
        · exact z
        · exact absurd ((jg.2 t t8).2 ⟨ht, z⟩) ((zero_of jg.1).1 c1 t t8)
      have bm : ∀ t : Nat, t < 8 → (bit ((i ^^^ gN : Nat) : Int) t = true ↔ bit (gN : Int) t = true ∧ ¬ bit (i : Int) t = true) := fun t t8 => by
        rw [bx t]
        have := sub t t8
        cases hi : bit (i : Int) t <;> cases hg : bit (gN : Int) t <;> simp_all
      have jo := jorS hcl m8
      obtain ⟨V, hV⟩ := h.ea jo.1 (p0 := 0) (by omega) (k := 0) ⟨by omega, by omega⟩
      obtain ⟨r, M2, a1, a2, a3, a4⟩ := h.reachBy (n := n) (by omega) i8 (cl := jor (M 52 4) ((i ^^^ gN : Nat) : Int)) (fun t t8 tl => by
        rw [jo.2 t, Bool.or_eq_true, bm t t8]
        constructor
        · rintro ht (z | z)
          · exact ((g2 t t8).1 (sub t t8 ht)).2 z
          · exact z.2 ht
        · intro q
          by_cases z : bit (i : Int) t = true
          · exact z
          · exact absurd (Or.inr ⟨(g2 t t8).2 ⟨tl, fun y => q (Or.inl y)⟩, z⟩) q) hV (M1 := M1) e1
      have e2 : M2 168 = M 168 := by rw [a2 168 (by omega)]; exact e1
      have ab := a4 pl (by omega)
      rw [if_pos c1, a1, bnd_some, q_isInM a3 (by omega), bnd_some]
      by_cases c2 : bit r pl = true
      · have hr : R (i ^^^ gN) = true := Ri.2 ⟨cm, V, hV, (ab.1 c2).2⟩
        rw [if_pos c2, if_neg (by decide)]
        simp only [letv_ap]
        have sp2 := h.snowP (n := n) hf g1 g3 e2 (pl := (pl : Int)) (its := sumT (fun s => snF R (M 168 3) (cntN (gN : Int) 8) (s ^^^ gN)) i) (all := all) (s := (i : Int)) (m := ((i ^^^ gN : Nat) : Int)) i8 (fun t t8 tg => by
          rw [bm t t8]
          constructor
          · exact fun q z => z.2 q
          · intro q
            by_cases z : bit (i : Int) t = true
            · exact z
            · exact absurd ⟨tg, z⟩ q) (fun t t8 tm => ((bm t t8).1 tm).1) (r67 := f_X12_snow_L67 n q) (M 168 1).toNat 0 n (by omega) (by omega)
        have z0 : (M 168 3) ^ (cntN ((i ^^^ gN : Nat) : Int) 0) * (16 - M 168 3) ^ (cntN (gN : Int) 0 - cntN ((i ^^^ gN : Nat) : Int) 0) = 1 := by
          show (M 168 3) ^ 0 * (16 - M 168 3) ^ 0 = 1
          rw [Int.pow_zero, Int.pow_zero]
          rfl
        rw [z0] at sp2
        rw [show f_X12_snow_L115 n (f_X12_snow_L67 n q) n (pl : Int) (sumT (fun s => snF R (M 168 3) (cntN (gN : Int) 8) (s ^^^ gN)) i) all (i : Int) 1 0 M2 = _ from sp2]
        unfold f_X12_snow_L185
        simp only [letv_ap]
        refine go _ M2 (fun c hc => by rw [a2 c hc, hF c hc]) ?_
        have l1 : cntN (gN : Int) 8 = cntN (gN : Int) (M 168 1).toNat := by
          have := cntN_low (x := (gN : Int)) (k := (M 168 1).toNat) (fun t t8 ht => by have := ((g2 t t8).1 ht).1; omega) (8 - (M 168 1).toNat) (by omega)
          rw [← this, show (M 168 1).toNat + (8 - (M 168 1).toNat) = 8 by omega]
        have l2 : cntN ((i ^^^ gN : Nat) : Int) 8 = cntN ((i ^^^ gN : Nat) : Int) (M 168 1).toNat := by
          have := cntN_low (x := ((i ^^^ gN : Nat) : Int)) (k := (M 168 1).toNat) (fun t t8 ht => by have := ((g2 t t8).1 ((bm t t8).1 ht).1).1; omega) (8 - (M 168 1).toNat) (by omega)
          rw [← this, show (M 168 1).toNat + (8 - (M 168 1).toNat) = 8 by omega]
        show _ = sumT (fun s => snF R (M 168 3) (cntN (gN : Int) 8) (s ^^^ gN)) i + snF R (M 168 3) (cntN (gN : Int) 8) (i ^^^ gN)
        rw [show snF R (M 168 3) (cntN (gN : Int) 8) (i ^^^ gN) = (M 168 3) ^ (cntN ((i ^^^ gN : Nat) : Int) 8) * (16 - M 168 3) ^ (cntN (gN : Int) 8 - cntN ((i ^^^ gN : Nat) : Int) 8) from if_pos hr, ← l1, ← l2]
      · rw [if_neg c2, if_pos (by decide)]
        refine go _ M2 (fun c hc => by rw [a2 c hc, hF c hc]) (no fun hr => ?_)
        obtain ⟨_, W, w1, w2⟩ := Ri.1 hr
        have := EA.uniq h.sa w1 hV p6
        exact c2 (ab.2 ⟨pl0, by omega⟩)
    · rw [if_neg c1]
      exact go _ M1 hF (no fun hr => c1 (same.2 (Ri.1 hr).1))
theorem JR.snowA (h : JR M) (hf : 1000 ≤ n) {g : Int} (g1 : S8 g) (g3 : ∀ M1 : JMem, M1 168 = M 168 → f_X12_going n M1 = some (g, M1)) {M1 : JMem} (e168 : M1 168 = M 168) {pl its : Int} :
    ∀ (d i q : Nat), i + d = (M 168 1).toNat → d < q → f_X12_snow_L22 n q pl its (16 ^ (cntN g i)) (i : Int) M1 = f_X12_snow_L64 n pl its (16 ^ (cntN g (M 168 1).toNat)) M1 := by
  have nt := h.nt
  intro d
  induction d with
  | zero =>
    intro i q hi hq
    obtain ⟨q, rfl⟩ : ∃ z, q = z + 1 := ⟨q - 1, by omega⟩
    rw [f_X12_snow_L22, chk_pos (by decide), show (jw 1).toNat = 1 by decide, show M1 168 1 = M 168 1 by rw [e168], if_pos (by rw [jw_of (x := M 168 1) (by omega) (by omega), jw_of (x := (i : Int)) (by omega) (by omega)]; omega), show i = (M 168 1).toNat by omega]
  | succ d ih =>
    intro i q hi hq
    obtain ⟨q, rfl⟩ : ∃ z, q = z + 1 := ⟨q - 1, by omega⟩
    have i8 : i < 8 := by omega
    have r := ih (i + 1) q (by omega) (by omega)
    rw [f_X12_snow_L22, chk_pos (by decide), show (jw 1).toNat = 1 by decide, show M1 168 1 = M 168 1 by rw [e168], if_neg (by rw [jw_of (x := M 168 1) (by omega) (by omega), jw_of (x := (i : Int)) (by omega) (by omega)]; omega), g3 M1 e168, bnd_some, q_isInM g1 i8, bnd_some]
    unfold f_X12_snow_L55
    simp only [letv_ap]
    by_cases c : bit g i = true
    · rw [if_pos c, if_neg (by decide)]
      rw [show cntN g (i + 1) = cntN g i + 1 from by rw [cntN, if_pos c], Int.pow_succ] at r
      exact r
    · rw [if_neg c, if_pos (by decide), Int.mul_one]
      rw [show cntN g (i + 1) = cntN g i from by rw [cntN, if_neg c]; rfl] at r
      exact r
theorem pow16 : ∀ k : Nat, k < 9 → 0 < (16 : Int) ^ k ∧ (16 : Int) ^ k ≤ 4294967296 := by decide
theorem snF_le {R : Nat → Bool} {od : Int} {gn : Nat} (g8 : gn ≤ 8) (ho : 0 ≤ od ∧ od ≤ 16) (m : Nat) (hm : R m = true → cntN (m : Int) 8 ≤ gn) : 0 ≤ snF R od gn m ∧ snF R od gn m ≤ 4294967296 := by
  unfold snF
  by_cases c : R m = true
  · rw [if_pos c]
    have p := powb ho (y := 16 - od) ⟨by omega, by omega⟩ (gn - cntN (m : Int) 8) (cntN (m : Int) 8)
    have := hm c
    rw [show cntN (m : Int) 8 + (gn - cntN (m : Int) 8) = gn by omega] at p
    have q := (pow16 gn (by omega)).2
    have e : ((16 ^ gn : Nat) : Int) = (16 : Int) ^ gn := by simp
    rw [e] at p
    exact ⟨p.1, Int.le_trans p.2 q⟩
  · rw [if_neg c]; omega
theorem sumT_le {f : Nat → Int} {b : Int} : ∀ k : Nat, (∀ i : Nat, i < k → 0 ≤ f i ∧ f i ≤ b) → 0 ≤ sumT f k ∧ sumT f k ≤ k * b := by
  intro k
  induction k with
  | zero => intro _; exact ⟨Int.le_refl _, by rw [show ((0 : Nat) : Int) = 0 from rfl, Int.zero_mul]; exact Int.le_refl _⟩
  | succ k ih =>
    intro h
    have a := ih (fun i hi => h i (by omega))
    have c := h k (by omega)
    have e : ((k + 1 : Nat) : Int) * b = k * b + b := by rw [Int.natCast_succ, Int.add_mul, Int.one_mul]
    rw [e]
    unfold sumT
    omega
theorem p_snow (hf : 1000 ≤ n) : jO_snow JR n := by
  intro x1 hx1 M h
  have np := h.np
  have nt := h.nt
  have od := h.cur.1.2.2.2.1
  have p8 := pow8 (M 168 1).toNat (by omega)
  by_cases w1 : 0 ≤ x1 ∧ x1 < M 168 0
  · obtain ⟨pl, p6, ep⟩ := natOf (x := x1) (k := 6) (by omega) (by omega)
    have hcl := h.cl
    have hd := h.cur.2.1.heads.2.2.2.2.1.2
    obtain ⟨g, g1, g2, g3⟩ := h.going (n := n) (by omega)
    obtain ⟨gN, hgN, rfl⟩ := g1.nat
    have lt : gN < 2 ^ (M 168 1).toNat := Nat.lt_pow_two_of_testBit gN fun i hi => by
      by_cases c : i < 8
      · rw [← bit_nat]
        cases hb : bit (gN : Int) i with
        | false => rfl
        | true => have := ((g2 i c).1 hb).1; omega
      · exact Nat.testBit_lt_two_pow (Nat.lt_of_lt_of_le hgN (Nat.pow_le_pow_right (n := 2) (by decide) (show 8 ≤ i by omega)))
    obtain ⟨R, hR⟩ : ∃ R : Nat → Bool, ∀ m : Nat, m < 2 ^ (M 168 1).toNat → (R m = true ↔ jand (m : Int) (M 52 4) = 0 ∧ ∃ V, EA (M 168) (fun t => ¬ bit (jor (M 52 4) (m : Int)) t = true) 0 0 V ∧ V pl ≤ 64) :=
      ⟨fun m => @decide (jand (m : Int) (M 52 4) = 0 ∧ ∃ V, EA (M 168) (fun t => ¬ bit (jor (M 52 4) (m : Int)) t = true) 0 0 V ∧ V pl ≤ 64) (Classical.propDecidable _), fun m _ => ⟨fun q => @of_decide_eq_true _ (Classical.propDecidable _) q, fun q => @decide_eq_true _ (Classical.propDecidable _) q⟩⟩
    have c8 : cntN (gN : Int) 8 ≤ 8 := by
      have := cntN_8 g1
      have := pcI_range g1
      omega
    have hg : ∀ m : Nat, m < 2 ^ (M 168 1).toNat → R m = true → cntN (m : Int) 8 ≤ cntN (gN : Int) 8 := fun m hm hr => by
      have m8 : S8 (m : Int) := ⟨by omega, by omega⟩
      have ja := jandS m8 hcl
      have ml := low_set (nb := M 168 1) ⟨by omega, by omega⟩ (i := m) hm
      refine cntN_le (fun t t8 ht => (g2 t t8).2 ⟨ml.2 t t8 ht, fun z => ?_⟩) 8 (Nat.le_refl _)
      exact (zero_of ja.1).1 ((hR m hm).1 hr).1 t t8 (by rw [ja.2 t, ht, z]; rfl)
    -- how many go
    have l1 : cntN (gN : Int) 8 = cntN (gN : Int) (M 168 1).toNat := by
      have := cntN_low (x := (gN : Int)) (k := (M 168 1).toNat) (fun t t8 ht => by have := ((g2 t t8).1 ht).1; omega) (8 - (M 168 1).toNat) (by omega)
      rw [← this, show (M 168 1).toNat + (8 - (M 168 1).toNat) = 8 by omega]
    have l2 : cntN (M 52 4) 8 = cntN (M 52 4) (M 168 1).toNat := by
      have := cntN_low (x := M 52 4) (k := (M 168 1).toNat) (fun t t8 ht => by have := ((hd t t8).1 ht).1; omega) (8 - (M 168 1).toNat) (by omega)
      rw [← this, show (M 168 1).toNat + (8 - (M 168 1).toNat) = 8 by omega]
    have l3 := cntN_two (x := (gN : Int)) (y := M 52 4) (k := (M 168 1).toNat) (fun t ht => by
      rw [g2 t (by omega)]
      exact ⟨fun q => q.2, fun q => ⟨by omega, q⟩⟩) (M 168 1).toNat (Nat.le_refl _)
    have l4 : M 40 1 - pcI (M 52 4) = (cntN (gN : Int) 8 : Int) := by
      rw [cntN_8 hcl, nt.1]; omega
    have sb := sumT_le (f := snF R (M 168 3) (cntN (gN : Int) 8)) (b := 4294967296) (2 ^ (M 168 1).toNat) (fun i hi => snF_le c8 ⟨by omega, by omega⟩ i (hg i hi))
    have inv := sumT_inv (snF R (M 168 3) (cntN (gN : Int) 8)) (fun s => s ^^^ gN) (2 ^ (M 168 1).toNat) (fun i hi => Nat.xor_lt_two_pow hi lt) (fun i hi => by show (i ^^^ gN) ^^^ gN = i; rw [Nat.xor_assoc, Nat.xor_self, Nat.xor_zero])
    have b16 := pow16 (cntN (gN : Int) 8) (by omega)
    obtain ⟨M1, a1, a2, a3⟩ := h.ord (n := n) (by omega)
    obtain ⟨M2, b1, b2⟩ := h.snowL (n := n) hf p6 c8 hR hg (2 ^ (M 168 1).toNat) 0 n M1 (by omega) (by omega) (fun c _ c2 => a2 c c2) a3
    have hF : ∀ c : Nat, c ≠ 77 → c ≠ 78 → M2 c = M c := fun c c1 c2 => by rw [b2 c c1, a2 c c2]
    refine Pr.tell h hf (a := sumT (snF R (M 168 3) (cntN (gN : Int) 8)) (2 ^ (M 168 1).toNat)) (b := 16 ^ (cntN (gN : Int) 8)) (M1 := M2) ⟨sb.1, by omega⟩ ⟨b16.1, by omega⟩ ?_ ⟨fun c hc => hF c (by omega) (by omega), fun j _ => by rw [hF 0 (by omega) (by omega)], fun j _ _ => by rw [hF 167 (by omega) (by omega)], fun i _ => by rw [hF 168 (by omega) (by omega)]⟩ (fun M1' k => ?_)
    · unfold f_X11_snow
      rw [h.isP hx1, bnd_some, if_pos w1, if_neg (by decide), a1, bnd_some, a2 52 (by omega), q_bc hcl, bnd_some]
      simp only [letv_ap]
      rw [a2 40 (by omega), l4, ep, show f_X11_snow_L49 n n (pl : Int) (cntN (gN : Int) 8 : Int) 0 0 M1 = _ from b1]
      unfold f_X11_snow_L153
      rw [q_power (by omega) (by omega), bnd_some]
    · have e168 : M1' 168 = M 168 := by rw [k 168 (by omega), hF 168 (by omega) (by omega)]
      have A := h.snowA (n := n) hf g1 g3 e168 (pl := (pl : Int)) (its := 0) (M 168 1).toNat 0 n (by omega) (by omega)
      rw [show cntN (gN : Int) 0 = 0 from rfl, Int.pow_zero, ← l1] at A
      obtain ⟨M3, d1, d2⟩ := h.snowM (n := n) hf g1 g2 g3 p6 (by omega) hR lt (all := 16 ^ (cntN (gN : Int) 8)) e168 (2 ^ (M 168 1).toNat) 0 n M1' (by omega) (by omega) (fun _ _ => rfl)
      refine ⟨M3, ⟨fun c hc => d2 c (by omega), fun j _ => by rw [d2 0 (by omega)], fun j _ _ => by rw [d2 167 (by omega)], fun i _ => by rw [d2 168 (by omega)]⟩, d2 0 (by omega), ?_⟩
      unfold f_X12_snow
      rw [h.isPM hx1 M1' e168, bnd_some, if_pos w1, if_neg (by decide)]
      simp only [letv_ap]
      rw [ep, show f_X12_snow_L22 n n (pl : Int) 0 1 0 M1' = _ from A]
      unfold f_X12_snow_L64
      simp only [letv_ap]
      rw [show f_X12_snow_L67 n n (pl : Int) 0 (16 ^ (cntN (gN : Int) 8)) 0 M1' = _ from d1, inv]
      rfl
  · refine Pr.end (r := 0) (s := 0) (x := 1) (y := 1) h ?_ ?_ rfl rfl
    · unfold f_X11_snow
      rw [h.isP hx1, bnd_some, if_neg w1, if_pos (by decide)]; rfl
    · unfold f_X12_snow
      rw [h.isPM hx1 (jup M 0 0 1) rfl, bnd_some, if_neg w1, if_pos (by decide)]; rfl
end PSNOW2

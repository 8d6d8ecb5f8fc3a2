section PBACK2
variable {n : Nat} {M : JMem}
theorem sub_le {m : Nat} (hm : m < 256) {S : Int} (hS : S8 S) (h : jand (m : Int) (jxor S (-1)) = 0) : (m : Int) ≤ S := by
  have h8 : S8 (m : Int) := ⟨by omega, by omega⟩
  have jg := jandn h8 hS
  obtain ⟨k, hk, rfl⟩ := hS.nat
  have e : m &&& k = m := Nat.eq_of_testBit_eq fun i => by
    rw [Nat.testBit_and]
    by_cases c : i < 8
    · cases hb : m.testBit i with
      | false => rfl
      | true =>
        cases hk2 : k.testBit i with
        | true => rfl
        | false => exact absurd ((jg.2 i c).2 ⟨hb, by rw [bit_nat, hk2]; decide⟩) ((zero_of jg.1).1 h i c)
    · rw [Nat.testBit_lt_two_pow (Nat.lt_of_lt_of_le hm (Nat.pow_le_pow_right (n := 2) (by decide) (show 8 ≤ i by omega)))]; rfl
  have := Nat.and_le_right (n := m) (m := k)
  omega
theorem c_chances {S : Int} (hS : S8 S) {h : Nat} (h8 : S8 (h : Int)) (hsub : ∀ t : Nat, t < 8 → bit (h : Int) t = true → bit S t = true) (hf : 1000 ≤ n) {A : Nat → Int} (hP : RP (blk M 40 12) A) : f_X11_chancesOf n S (h : Int) M = some (uN (fun b => A (57 + 10 * b)) S (h : Int) (A 2).toNat, M) := by
  have hn : M 40 2 = A 2 ∧ 0 ≤ A 2 ∧ A 2 ≤ 8 := hP.2.2.1
  have key : ∀ (d i q : Nat), i + d = (A 2).toNat → d < q → f_X11_chancesOf_L5 n q S (h : Int) (uN (fun b => A (57 + 10 * b)) S (h : Int) i) (i : Int) M = some (uN (fun b => A (57 + 10 * b)) S (h : Int) (A 2).toNat, M) := fun d => by
    induction d with
    | zero =>
      intro i q hi hq
      obtain ⟨q, rfl⟩ : ∃ z, q = z + 1 := ⟨q - 1, by omega⟩
      rw [f_X11_chancesOf_L5, hn.1, if_pos (by rw [jw_of (x := A 2) (by omega) (by omega), jw_of (x := (i : Int)) (by omega) (by omega)]; omega), show (A 2).toNat = i by omega]
    | succ d ih =>
      intro i q hi hq
      obtain ⟨q, rfl⟩ : ∃ z, q = z + 1 := ⟨q - 1, by omega⟩
      have i8 : i < 8 := by omega
      have r := ih (i + 1) q (by omega) (by omega)
      rw [show ((i + 1 : Nat) : Int) = (i : Int) + 1 by omega, show uN (fun b => A (57 + 10 * b)) S (h : Int) (i + 1) = uN (fun b => A (57 + 10 * b)) S (h : Int) i * uF (fun b => A (57 + 10 * b)) S i (bit (h : Int) i) from rfl] at r
      obtain ⟨p1, p2, p3⟩ := hP.2.2.2.2.2.2 i i8 (by omega)
      have e10 : M (40 + 10) i = A (57 + 10 * i) := p2.1
      rw [f_X11_chancesOf_L5, hn.1, if_neg (by rw [jw_of (x := A 2) (by omega) (by omega), jw_of (x := (i : Int)) (by omega) (by omega)]; omega), q_isIn hS i8, bnd_some]
      unfold f_X11_chancesOf_L64 f_X11_chancesOf_L66
      simp only [letv_ap]
      by_cases c : bit S i = true
      · rw [if_pos c, if_neg (by decide), q_isIn h8 i8, bnd_some, chk_pos (jin_of (by omega) (by omega) (by omega)), chk_pos (jin_of (by omega) (by omega) (by omega)), show (jw (i : Int)).toNat = i from jwb (by omega), e10, jw_of (x := 16 - A (57 + 10 * i)) (by omega) (by omega), jw_of (x := A (57 + 10 * i)) (by omega) (by omega)]
        cases hb : bit (h : Int) i with
        | true =>
          rw [hb, (uF_1 c).2] at r
          rw [if_pos rfl, if_neg (by decide)]
          exact r
        | false =>
          rw [hb, (uF_1 c).1] at r
          rw [if_pos (by decide)]
          exact r
      · have hb : bit (h : Int) i = false := Bool.eq_false_iff.2 fun q => c (hsub i i8 q)
        rw [hb, (uF_0 c).1, Int.mul_one] at r
        rw [if_neg c, if_pos (by decide)]
        exact r
  unfold f_X11_chancesOf
  simp only [letv_ap]
  exact key (A 2).toNat 0 n (by omega) (by omega)
def bF (tr : Nat → Int) (S : Int) (nb k h : Nat) : Int := if k ≤ cntN (h : Int) nb then uN tr S (h : Int) nb else 0
theorem c_back_L {S : Int} (hS : S8 S) {k : Nat} (k8 : k ≤ 8) (hf : 1000 ≤ n) {A : Nat → Int} (hP : RP (blk M 40 12) A) (hlt : S < ((2 ^ (A 2).toNat : Nat) : Int)) :
    ∀ (d i q : Nat), i + d = S.toNat + 1 → d < q → f_X11_back_L29 n q S (k : Int) (sumT (bF (fun b => A (57 + 10 * b)) S (A 2).toNat k) i) (i : Int) M = f_X11_back_L69 n S (sumT (bF (fun b => A (57 + 10 * b)) S (A 2).toNat k) (S.toNat + 1)) M := by
  have hn : M 40 2 = A 2 ∧ 0 ≤ A 2 ∧ A 2 ≤ 8 := hP.2.2.1
  have s0 := hS.1
  have s1 := hS.2
  intro d
  induction d with
  | zero =>
    intro i q hi hq
    obtain ⟨q, rfl⟩ : ∃ z, q = z + 1 := ⟨q - 1, by omega⟩
    rw [f_X11_back_L29, if_pos (by rw [jw_of (x := S) (by omega) (by omega), jw_of (x := (i : Int)) (by omega) (by omega)]; omega), show S.toNat + 1 = i by omega]
  | succ d ih =>
    intro i q hi hq
    obtain ⟨q, rfl⟩ : ∃ z, q = z + 1 := ⟨q - 1, by omega⟩
    have i8 : S8 (i : Int) := ⟨by omega, by omega⟩
    have il := low_set (nb := A 2) hn.2 (i := i) (by omega)
    have jg := jandn i8 hS
    have r := ih (i + 1) q (by omega) (by omega)
    rw [show ((i + 1 : Nat) : Int) = (i : Int) + 1 by omega, show sumT (bF (fun b => A (57 + 10 * b)) S (A 2).toNat k) (i + 1) = sumT (bF (fun b => A (57 + 10 * b)) S (A 2).toNat k) i + bF (fun b => A (57 + 10 * b)) S (A 2).toNat k i from rfl] at r
    have cn : pcI (i : Int) = (cntN (i : Int) (A 2).toNat : Int) := by
      have := cntN_low (x := (i : Int)) (k := (A 2).toNat) (fun t t8 ht => by have := il.2 t t8 ht; omega) (8 - (A 2).toNat) (by omega)
      rw [cntN_8 i8, ← this, show (A 2).toNat + (8 - (A 2).toNat) = 8 by omega]
    have pr := pcI_range i8
    rw [f_X11_back_L29, if_neg (by rw [jw_of (x := S) (by omega) (by omega), jw_of (x := (i : Int)) (by omega) (by omega)]; omega), jw_of (x := jand (i : Int) (jxor S (-1))) (by have := jg.1.1; omega) (by have := jg.1.2; omega)]
    unfold f_X11_back_L63
    simp only [letv_ap]
    by_cases c1 : jand (i : Int) (jxor S (-1)) = 0
    · rw [if_pos c1, q_bc i8, bnd_some, jw_of (x := pcI (i : Int)) (by omega) (by omega), jw_of (x := (k : Int)) (by omega) (by omega)]
      by_cases c2 : pcI (i : Int) < (k : Int)
      · rw [if_pos c2]
        rw [show bF (fun b => A (57 + 10 * b)) S (A 2).toNat k i = 0 from if_neg (by omega), Int.add_zero] at r
        exact r
      · rw [if_neg c2, c_chances hS i8 (fun t t8 ht => by
          by_cases z : bit S t = true
          · exact z
          · exact absurd ((jg.2 t t8).2 ⟨ht, z⟩) ((zero_of jg.1).1 c1 t t8)) hf hP, bnd_some]
        rw [show bF (fun b => A (57 + 10 * b)) S (A 2).toNat k i = uN (fun b => A (57 + 10 * b)) S (i : Int) (A 2).toNat from if_pos (by omega)] at r
        exact r
    · rw [if_neg c1]
      have : ∃ t : Nat, t < 8 ∧ bit (jand (i : Int) (jxor S (-1))) t = true := by
        by_cases z : ∃ t : Nat, t < 8 ∧ bit (jand (i : Int) (jxor S (-1))) t = true
        · exact z
        · exact absurd ((zero_of jg.1).2 fun b b8 q => z ⟨b, b8, q⟩) c1
      obtain ⟨t, t8, ht⟩ := this
      have hb := (jg.2 t t8).1 ht
      have tl := il.2 t t8 hb.1
      rw [show bF (fun b => A (57 + 10 * b)) S (A 2).toNat k i = 0 from by
        unfold bF
        rw [uN_zero hb.1 hb.2 (A 2).toNat (by omega)]
        by_cases z : k ≤ cntN (i : Int) (A 2).toNat
        · rw [if_pos z]
        · rw [if_neg z], Int.add_zero] at r
      exact r
theorem sumT_more (f : Nat → Int) (a : Nat) : ∀ d : Nat, (∀ i : Nat, a ≤ i → i < a + d → f i = 0) → sumT f (a + d) = sumT f a := by
  intro d
  induction d with
  | zero => intro _; rfl
  | succ d ih =>
    intro h
    show sumT f (a + d) + f (a + d) = sumT f a
    rw [ih (fun i h1 h2 => h i h1 (by omega)), h (a + d) (by omega) (by omega), Int.add_zero]
theorem p_back (hf : 1000 ≤ n) : jO_back JR n := by
  intro x1 x2 hx1 hx2 M h
  have e2 := jwI hx2
  have nb := h.nb
  have p8 := pow8 (M 168 2).toNat (by omega)
  by_cases w1 : 0 ≤ x1 ∧ x1 < ((2 ^ (M 168 2).toNat : Nat) : Int)
  · by_cases w2 : 0 ≤ x2 ∧ x2 ≤ 8
    · have hS : S8 x1 := ⟨by omega, by omega⟩
      obtain ⟨k, k9, ek⟩ := natOf (x := x2) (k := 9) (by omega) (by omega)
      have hP := h.cur.1
      have htr : ∀ b : Nat, b < 8 → (b : Int) < M 168 2 → 0 ≤ M 168 (57 + 10 * b) ∧ M 168 (57 + 10 * b) ≤ 16 := fun b b8 hb => (hP.2.2.2.2.2.2 b b8 hb).2.1.2
      have C := c_back_L (n := n) (M := M) hS (k := k) (by omega) hf hP w1.2 (x1.toNat + 1) 0 n (by omega) (by omega)
      have more : sumT (bF (fun b => M 168 (57 + 10 * b)) x1 (M 168 2).toNat k) (2 ^ (M 168 2).toNat) = sumT (bF (fun b => M 168 (57 + 10 * b)) x1 (M 168 2).toNat k) (x1.toNat + 1) := by
        have := sumT_more (bF (fun b => M 168 (57 + 10 * b)) x1 (M 168 2).toNat k) (x1.toNat + 1) (2 ^ (M 168 2).toNat - (x1.toNat + 1)) (fun i i1 i2 => by
          have i8 : S8 (i : Int) := ⟨by omega, by omega⟩
          have il := low_set (nb := M 168 2) nb.2 (i := i) (by omega)
          have jg := jandn i8 hS
          have : ∃ t : Nat, t < 8 ∧ bit (jand (i : Int) (jxor x1 (-1))) t = true := by
            by_cases z : ∃ t : Nat, t < 8 ∧ bit (jand (i : Int) (jxor x1 (-1))) t = true
            · exact z
            · have := sub_le (m := i) (by omega) hS ((zero_of jg.1).2 fun b b8 q => z ⟨b, b8, q⟩)
              omega
          obtain ⟨t, t8, ht⟩ := this
          have hb := (jg.2 t t8).1 ht
          have tl := il.2 t t8 hb.1
          unfold bF
          rw [uN_zero hb.1 hb.2 (M 168 2).toNat (by omega)]
          by_cases z : k ≤ cntN (i : Int) (M 168 2).toNat
          · rw [if_pos z]
          · rw [if_neg z])
        rw [← this, show x1.toNat + 1 + (2 ^ (M 168 2).toNat - (x1.toNat + 1)) = 2 ^ (M 168 2).toNat by omega]
      have cle : ∀ h : Nat, cntN (h : Int) (M 168 2).toNat ≤ 8 := fun h => by
        have : ∀ i : Nat, cntN (h : Int) i ≤ i := fun i => by
          induction i with
          | zero => exact Nat.le_refl _
          | succ i ih =>
            unfold cntN
            by_cases z : bit (h : Int) i = true
            · rw [if_pos z]; omega
            · rw [if_neg z]; omega
        have := this (M 168 2).toNat
        omega
      have same : sumT (fun j => dS (fun b => M 168 (57 + 10 * b)) x1 (M 168 2).toNat (k + j)) (9 - k) = sumT (bF (fun b => M 168 (57 + 10 * b)) x1 (M 168 2).toNat k) (2 ^ (M 168 2).toNat) := by
        unfold dS
        rw [sumT_swap]
        refine sumT_congr _ (fun h hh => ?_)
        rw [sumT_in]
        unfold bF
        by_cases z : k ≤ cntN (h : Int) (M 168 2).toNat
        · rw [if_pos z, if_pos ⟨z, by have := cle h; omega⟩]
        · rw [if_neg z, if_neg (fun q => z q.1)]
      have sb := sumT_le (f := bF (fun b => M 168 (57 + 10 * b)) x1 (M 168 2).toNat k) (b := 4294967296) (2 ^ (M 168 2).toNat) (fun i hi => by
        have u := uN_le (tr := fun b => M 168 (57 + 10 * b)) (S := x1) (h := (i : Int)) (M 168 2).toNat (fun t ht => htr t (by omega) (by omega))
        have q := (pow16 (M 168 2).toNat (by omega)).2
        rw [show ((16 ^ (M 168 2).toNat : Nat) : Int) = (16 : Int) ^ (M 168 2).toNat by simp] at u
        unfold bF
        by_cases z : k ≤ cntN (i : Int) (M 168 2).toNat
        · rw [if_pos z]; omega
        · rw [if_neg z]; omega)
      have c8 : cntN x1 8 ≤ 8 := by
        have := cntN_8 hS
        have := pcI_range hS
        omega
      have b16 := pow16 (cntN x1 8) (by omega)
      have xl : cntN x1 8 = cntN x1 (M 168 2).toNat := by
        obtain ⟨m, hm, rfl⟩ := hS.nat
        have il := low_set (nb := M 168 2) nb.2 (i := m) (by omega)
        have := cntN_low (x := (m : Int)) (k := (M 168 2).toNat) (fun t t8 ht => by have := il.2 t t8 ht; omega) (8 - (M 168 2).toNat) (by omega)
        rw [← this, show (M 168 2).toNat + (8 - (M 168 2).toNat) = 8 by omega]
      refine Pr.tell h hf (a := sumT (bF (fun b => M 168 (57 + 10 * b)) x1 (M 168 2).toNat k) (x1.toNat + 1)) (b := 16 ^ (cntN x1 8)) (M1 := M) ⟨by rw [← more]; exact sb.1, by rw [← more]; omega⟩ ⟨b16.1, by omega⟩ ?_ Pf.refl (fun M1' kk => ?_)
      · unfold f_X11_back
        rw [h.isS hx1, bnd_some, if_pos w1, if_neg (by decide), e2, if_neg (by omega), show jw 8 = 8 by decide, if_pos w2.2]
        simp only [letv_ap]
        rw [ek, show f_X11_back_L29 n n x1 (k : Int) 0 0 M = _ from C]
        unfold f_X11_back_L69
        rw [q_bc hS, bnd_some, cntN_8 hS, q_power (by omega) (by omega), bnd_some]
      · have e168 : M1' 168 = M 168 := kk 168 (by omega)
        obtain ⟨M2, a1, a2, a3⟩ := q_backI (n := n) (v1 := x1) (v2 := (k : Int)) (v3 := 1) 9 0 n M1' (by omega) (by omega)
        obtain ⟨M3, b1, b2, b3⟩ := q_backB (n := n) (S := x1) (k := (k : Int)) hS (A := M 168) nb.2 htr hf (M0 := M2) (by rw [a2 168 (by omega)]; exact e168) (M 168 2).toNat 0 n M2 (by omega) (by omega) (fun _ _ => rfl) (fun p p9 => by rw [a3 p, if_pos (by omega), dS_0])
        rw [show cntN x1 0 = 0 from rfl, Int.pow_zero] at b1
        have D := q_backS (n := n) (M := M3) (all := 16 ^ (cntN x1 (M 168 2).toNat)) (D := fun p => dS (fun b => M 168 (57 + 10 * b)) x1 (M 168 2).toNat p) b3 (k := k) (by omega) (9 - k) 0 n (by omega) (by omega)
        refine ⟨M3, ⟨fun c hc => by rw [b2 c (by omega), a2 c (by omega)], fun j _ => by rw [b2 0 (by omega), a2 0 (by omega)], fun j _ _ => by rw [b2 167 (by omega), a2 167 (by omega)], fun i _ => by rw [b2 168 (by omega), a2 168 (by omega)]⟩, by rw [b2 0 (by omega), a2 0 (by omega)], ?_⟩
        unfold f_X12_back
        rw [h.isSM hx1 M1' e168, bnd_some, if_pos w1, if_neg (by decide), e2, q_isFrom (by omega) (by omega) (by omega), bnd_some, if_pos w2, if_neg (by decide)]
        simp only [letv_ap]
        rw [ek, show f_X12_back_L31 n n x1 (k : Int) 1 0 M1' = _ from a1]
        unfold f_X12_back_L61
        simp only [letv_ap]
        rw [show f_X12_back_L64 n n x1 (k : Int) 1 0 M2 = _ from b1]
        unfold f_X12_back_L168
        simp only [letv_ap]
        rw [show f_X12_back_L174 n n (16 ^ (cntN x1 (M 168 2).toNat)) 0 (k : Int) M3 = _ from D, same, more, xl]
        rfl
    · refine Pr.end (r := 0) (s := 0) (x := 1) (y := 1) h ?_ ?_ rfl rfl
      · unfold f_X11_back f_X11_back_L18
        rw [h.isS hx1, bnd_some, if_pos w1, if_neg (by decide), e2, show jw 8 = 8 by decide]
        by_cases c : x2 < 0
        · rw [if_pos c]; rfl
        · rw [if_neg c, if_neg (by omega)]; rfl
      · unfold f_X12_back f_X12_back_L20
        rw [h.isSM hx1 (jup M 0 0 1) rfl, bnd_some, if_pos w1, if_neg (by decide), e2, q_isFrom ⟨by have := hx2.1; omega, by have := hx2.2; omega⟩ (by omega) (by omega), bnd_some, if_neg w2, if_pos (by decide)]; rfl
  · refine Pr.end (r := 0) (s := 0) (x := 1) (y := 1) h ?_ ?_ rfl rfl
    · unfold f_X11_back f_X11_back_L18
      rw [h.isS hx1, bnd_some, if_neg w1, if_pos (by decide)]; rfl
    · unfold f_X12_back f_X12_back_L20
      rw [h.isSM hx1 (jup M 0 0 1) rfl, bnd_some, if_neg w1, if_pos (by decide)]; rfl
end PBACK2

section PSLIPS
variable {n : Nat} {M : JMem}
theorem jw_ex (x : Int) : ∃ k : Int, x = jw x + 4294967296 * k := by
  unfold jw
  rw [Int.bmod_def]
  split
  · exact ⟨x / 4294967296, by omega⟩
  · exact ⟨x / 4294967296 + 1, by omega⟩
theorem jw_is {z w k : Int} (h : z = w + 4294967296 * k) (h0 : -2147483648 ≤ w) (h1 : w < 2147483648) : jw z = w := by
  obtain ⟨q, hq⟩ := jw_ex z
  have := jw_I32 z
  unfold I32 at this
  omega
theorem jin_w {i : Int} {N k : Nat} (h : jw i = k) (h1 : k < N) : jin i N := by
  unfold jin
  rw [h]
  exact ⟨by omega, by omega⟩
/-- the threes that a tray tells -/
def trT (M : JMem) (t k : Nat) : Int × Int × Int := (jwl (M 172 (60 * t + 3 * k)), jwl (M 172 (60 * t + 3 * k + 1)), jwl (M 172 (60 * t + 3 * k + 2)))
theorem c_hears_L (hf : 100 ≤ n) {np nb : Int} (hnp : 0 ≤ np ∧ np ≤ 6) (hnb : 0 ≤ nb ∧ nb ≤ 8) {T : Nat → Int × Int × Int} {N r : Nat} (hN : N ≤ 20) (hr : r < 68) {M0 : JMem} (hp : M0 40 0 = np ∧ M0 40 2 = nb) (hT : ∀ k : Nat, k < N → T k = (jwl (M0 r (3 * k)), jwl (M0 r (3 * k + 1)), jwl (M0 r (3 * k + 2)))) :
    ∀ (d i k : Nat) (M : JMem), i + d = N → d < k → (∀ c : Nat, c < 82 ∨ 86 ≤ c → M c = M0 c) → TR np nb T i M → (∀ j : Nat, j < i → okT np nb (T j)) →
    (∃ M', f_X3_hears_L8 n 40 r k (N : Int) (i : Int) M = some (0, M') ∧ (∀ c : Nat, c < 82 ∨ 86 ≤ c → M' c = M0 c) ∧ ∃ j : Nat, j < N ∧ ¬ okT np nb (T j)) ∨ (∃ M', f_X3_hears_L8 n 40 r k (N : Int) (i : Int) M = some (1, M') ∧ (∀ c : Nat, c < 82 ∨ 86 ≤ c → M' c = M0 c) ∧ TR np nb T N M' ∧ ∀ j : Nat, j < N → okT np nb (T j)) := by
  intro d
  induction d with
  | zero =>
    intro i k M hi hk hF hR ho
    obtain ⟨k, rfl⟩ : ∃ q, k = q + 1 := ⟨k - 1, by omega⟩
    obtain rfl : i = N := by omega
    refine Or.inr ⟨M, ?_, hF, hR, ho⟩
    rw [f_X3_hears_L8, if_pos (Int.le_refl _)]
  | succ d ih =>
    intro i k M hi hk hF hR ho
    obtain ⟨k, rfl⟩ : ∃ q, k = q + 1 := ⟨k - 1, by omega⟩
    have e0 : jwl (jw (M 40 0)) = np := by rw [hF 40 (by omega), hp.1, jw_of (x := np) (by omega) (by omega)]; exact jwl_of (by omega) (by omega)
    have e2 : jwl (jw (M 40 2)) = nb := by rw [hF 40 (by omega), hp.2, jw_of (x := nb) (by omega) (by omega)]; exact jwl_of (by omega) (by omega)
    have er : M r = M0 r := hF r (by omega)
    have ht := hT i (by omega)
    have l0 : jwl 0 = 0 := by decide
    have l1 : jwl 1 = 1 := by decide
    have l64 : jwl 64 = 64 := by decide
    have a1 : jwl (M0 r (3 * i)) = (T i).1 := by rw [ht]
    have a2 : jwl (M0 r (3 * i + 1)) = (T i).2.1 := by rw [ht]
    have a3 : jwl (M0 r (3 * i + 2)) = (T i).2.2 := by rw [ht]
    have s1 := (@jcmp_sign (M0 r (3 * i)) 0).1
    have s2 := (@jcmp_sign (M0 r (3 * i)) 64).2.1
    have s3 := (@jcmp_sign (M0 r (3 * i + 1)) 1).1
    have s4 := (@jcmp_sign (M0 r (3 * i + 1)) (jw (M 40 0))).1
    have s5 := (@jcmp_sign (M0 r (3 * i + 2)) 0).1
    have s6 := (@jcmp_sign (M0 r (3 * i + 2)) (jw (M 40 2))).1
    rw [a1, l0] at s1
    rw [a1, l64] at s2
    rw [a2, l1] at s3
    rw [a2, e0] at s4
    rw [a3, l0] at s5
    rw [a3, e2] at s6
    have bad : ¬ okT np nb (T i) → ∃ j : Nat, j < N ∧ ¬ okT np nb (T j) := fun h => ⟨i, by omega, h⟩
    rw [f_X3_hears_L8, if_neg (by rw [jw_of (x := (N : Int)) (by omega) (by omega), jw_of (x := (i : Int)) (by omega) (by omega)]; omega), show 3 * (i : Int) + 2 = ((3 * i + 2 : Nat) : Int) by omega, if_neg (by rw [show jw 60 = 60 by decide, jw_of (x := ((3 * i + 2 : Nat) : Int)) (by omega) (by omega)]; omega), show 3 * (i : Int) + 1 = ((3 * i + 1 : Nat) : Int) by omega, show 3 * (i : Int) = ((3 * i : Nat) : Int) by omega]
    simp only [letv_ap]
    rw [chk_pos (jin_of (by omega) (by omega) (by omega)), chk_pos (jin_of (by omega) (by omega) (by omega)), chk_pos (jin_of (by omega) (by omega) (by omega)), show (jw ((3 * i : Nat) : Int)).toNat = 3 * i from jwb (by omega), show (jw ((3 * i + 1 : Nat) : Int)).toNat = 3 * i + 1 from jwb (by omega), show (jw ((3 * i + 2 : Nat) : Int)).toNat = 3 * i + 2 from jwb (by omega), er]
    by_cases c1 : (T i).1 < 0
    · rw [if_pos (s1.2 c1)]
      exact Or.inl ⟨M, rfl, hF, bad (fun q => by have := q.1.1; omega)⟩
    rw [if_neg (fun q => c1 (s1.1 q))]
    by_cases c2 : 64 < (T i).1
    · rw [if_pos (s2.2 c2)]
      exact Or.inl ⟨M, rfl, hF, bad (fun q => by have := q.1.2; omega)⟩
    rw [if_neg (fun q => c2 (s2.1 q))]
    by_cases c3 : (T i).2.1 < 1
    · rw [if_pos (s3.2 c3)]
      exact Or.inl ⟨M, rfl, hF, bad (fun q => by have := q.2.1.1; omega)⟩
    rw [if_neg (fun q => c3 (s3.1 q))]
    by_cases c4 : (T i).2.1 < np
    · rw [if_neg (by have := s4.2 c4; omega)]
      by_cases c5 : (T i).2.2 < 0
      · rw [if_pos (s5.2 c5)]
        exact Or.inl ⟨M, rfl, hF, bad (fun q => by have := q.2.2.1; omega)⟩
      rw [if_neg (fun q => c5 (s5.1 q))]
      by_cases c6 : (T i).2.2 < nb
      · have ok : okT np nb (T i) := ⟨⟨by omega, by omega⟩, ⟨by omega, c4⟩, ⟨by omega, c6⟩⟩
        have w1 : jw (M0 r (3 * i)) = (T i).1 := by rw [← a1]; exact jw_ofL (by omega) (by omega)
        have w2 : jw (M0 r (3 * i + 1)) = (T i).2.1 := by rw [← a2]; exact jw_ofL (by omega) (by omega)
        have w3 : jw (M0 r (3 * i + 2)) = (T i).2.2 := by rw [← a3]; exact jw_ofL (by omega) (by omega)
        obtain ⟨M', r1, r2, r3⟩ := c_insert (n := n) (M := M) (t := i) (by omega) hf hR (x1 := M0 r (3 * i)) (x2 := M0 r (3 * i + 1)) (x3 := M0 r (3 * i + 2)) (by rw [w1, w2, w3]) ok
        rw [if_pos (s6.2 c6), r1, bnd_some]
        exact ih (i + 1) k M' (by omega) (by omega) (fun c hc => by rw [r2 c hc, hF c hc]) r3 (fun j hj => by
          by_cases e : j = i
          · rw [e]; exact ok
          · exact ho j (by omega))
      · rw [if_neg (fun q => c6 (s6.1 q))]
        exact Or.inl ⟨M, rfl, hF, bad (fun q => c6 q.2.2.2)⟩
    · rw [if_pos (by have := mt s4.1 c4; omega)]
      exact Or.inl ⟨M, rfl, hF, bad (fun q => c4 q.2.1.2)⟩
theorem q_wrongP_L {np nb : Int} (hnp : 0 ≤ np ∧ np ≤ 6) (hnb : 0 ≤ nb ∧ nb ≤ 8) {t N : Nat} (ht : t < 4) (hN : N ≤ 20) (hp : M 168 0 = np ∧ M 168 2 = nb) :
    ∀ (d i k : Nat), i + d = N → d < k → (f_X12_wrongParrot_L62 n k (t : Int) (N : Int) (i : Int) M = some (5, M) ∧ ∃ j : Nat, i ≤ j ∧ j < N ∧ ¬ okT np nb (trT M t j)) ∨ (f_X12_wrongParrot_L62 n k (t : Int) (N : Int) (i : Int) M = some (0, M) ∧ ∀ j : Nat, i ≤ j → j < N → okT np nb (trT M t j)) := by
  intro d
  induction d with
  | zero =>
    intro i k hi hk
    obtain ⟨k, rfl⟩ : ∃ q, k = q + 1 := ⟨k - 1, by omega⟩
    obtain rfl : i = N := by omega
    refine Or.inr ⟨?_, fun j h1 h2 => by omega⟩
    rw [f_X12_wrongParrot_L62, if_pos (Int.le_refl _)]
  | succ d ih =>
    intro i k hi hk
    obtain ⟨k, rfl⟩ : ∃ q, k = q + 1 := ⟨k - 1, by omega⟩
    have j0 : jw np = np := jw_of (by omega) (by omega)
    have j2 : jw nb = nb := jw_of (by omega) (by omega)
    rw [f_X12_wrongParrot_L62, if_neg (by rw [jw_of (x := (N : Int)) (by omega) (by omega), jw_of (x := (i : Int)) (by omega) (by omega)]; omega)]
    simp only [letv_ap]
    rw [show 60 * (t : Int) + 3 * (i : Int) = ((60 * t + 3 * i : Nat) : Int) by omega, chk_pos (jin_of (by omega) (by omega) (by omega)), show (jw ((60 * t + 3 * i : Nat) : Int)).toNat = 60 * t + 3 * i from jwb (by omega), q_isFromL (by omega) (by omega), bnd_some]
    by_cases c1 : 0 ≤ jwl (M 172 (60 * t + 3 * i)) ∧ jwl (M 172 (60 * t + 3 * i)) ≤ 64
    · rw [if_pos c1, if_neg (by decide), show ((60 * t + 3 * i : Nat) : Int) + 1 = ((60 * t + 3 * i + 1 : Nat) : Int) by omega, chk_pos (jin_of (by omega) (by omega) (by omega)), show (jw ((60 * t + 3 * i + 1 : Nat) : Int)).toNat = 60 * t + 3 * i + 1 from jwb (by omega), chk_pos (by decide), show (jw 0).toNat = 0 by decide, hp.1, j0, q_isFromL (by omega) (by omega), bnd_some]
      by_cases c2 : 1 ≤ jwl (M 172 (60 * t + 3 * i + 1)) ∧ jwl (M 172 (60 * t + 3 * i + 1)) ≤ np - 1
      · rw [if_pos c2, if_neg (by decide), show ((60 * t + 3 * i : Nat) : Int) + 2 = ((60 * t + 3 * i + 2 : Nat) : Int) by omega, chk_pos (jin_of (by omega) (by omega) (by omega)), show (jw ((60 * t + 3 * i + 2 : Nat) : Int)).toNat = 60 * t + 3 * i + 2 from jwb (by omega), chk_pos (by decide), show (jw 2).toNat = 2 by decide, hp.2, j2, q_isFromL (by omega) (by omega), bnd_some]
        by_cases c3 : 0 ≤ jwl (M 172 (60 * t + 3 * i + 2)) ∧ jwl (M 172 (60 * t + 3 * i + 2)) ≤ nb - 1
        · rw [if_pos c3, if_neg (by decide)]
          have ok : okT np nb (trT M t i) := ⟨c1, ⟨c2.1, by show jwl (M 172 (60 * t + 3 * i + 1)) < np; omega⟩, ⟨c3.1, by show jwl (M 172 (60 * t + 3 * i + 2)) < nb; omega⟩⟩
          rcases ih (i + 1) k (by omega) (by omega) with ⟨a, j, b1, b2, b3⟩ | ⟨a, b⟩
          · exact Or.inl ⟨a, j, by omega, b2, b3⟩
          · refine Or.inr ⟨a, fun j q1 q2 => ?_⟩
            by_cases e : j = i
            · rw [e]; exact ok
            · exact b j (by omega) q2
        · rw [if_neg c3, if_pos (by decide)]
          exact Or.inl ⟨rfl, i, Nat.le_refl i, by omega, fun q => c3 ⟨q.2.2.1, by have : jwl (M 172 (60 * t + 3 * i + 2)) < nb := q.2.2.2; omega⟩⟩
      · rw [if_neg c2, if_pos (by decide)]
        exact Or.inl ⟨rfl, i, Nat.le_refl i, by omega, fun q => c2 ⟨q.2.1.1, by have : jwl (M 172 (60 * t + 3 * i + 1)) < np := q.2.1.2; omega⟩⟩
    · rw [if_neg c1, if_pos (by decide)]
      exact Or.inl ⟨rfl, i, Nat.le_refl i, by omega, fun q => c1 q.1⟩
/-- a three that is not so, when a set is let out -/
def pS (B : Nat → Int) (x : Int) (q : Int × Int × Int) : Bool := !decide (wh (itA (letA B x (B 2).toNat) q.1.toNat) q.2.2.toNat = q.2.1)
theorem c_slips_L (hf : 200 ≤ n) {B : Nat → Int} {x : Int} {M0 : JMem} (hPL : RP (blk M0 40 12) (letA B x (B 2).toNat)) {N : Nat} (hN : N ≤ 20) {T : Nat → Int × Int × Int} (hT : TR (B 0) (B 2) T N M0) (h0 : B 0 ≤ 6) (h2 : 0 ≤ B 2 ∧ B 2 ≤ 8) :
    ∀ (d i k cur : Nat) (M : JMem), i + d = N → d < k → (∀ c : Nat, c < 68 ∨ 76 ≤ c → M c = M0 c) → RN (blk M 68 8) (itA (letA B x (B 2).toNat) cur) → cur ≤ 64 → (∀ j : Nat, i ≤ j → j < N → (cur : Int) ≤ jw (M0 83 j)) →
    ∃ M', f_X3_slipsIf_L14 n 40 52 68 k (cnt (pS B x) (tri M0) i) (i : Int) M = some (cnt (pS B x) (tri M0) N, M') ∧ (∀ c : Nat, c < 68 ∨ 76 ≤ c → M' c = M0 c) := by
  have l2 : letA B x (B 2).toNat 2 = B 2 := letA_ne (by omega) (by omega)
  have l5 : letA B x (B 2).toNat 5 = 0 := letA_5
  obtain ⟨t1, t2, t3, t4⟩ := hT
  intro d
  induction d with
  | zero =>
    intro i k cur M hi hk hF hR hc hm
    obtain ⟨k, rfl⟩ : ∃ q, k = q + 1 := ⟨k - 1, by omega⟩
    obtain rfl : i = N := by omega
    refine ⟨M, ?_, hF⟩
    rw [f_X3_slipsIf_L14, hF 82 (by omega), t1, if_pos (Int.le_refl _)]; rfl
  | succ d ih =>
    intro i k cur M hi hk hF hR hc hm
    obtain ⟨k, rfl⟩ : ∃ q, k = q + 1 := ⟨k - 1, by omega⟩
    obtain ⟨⟨u1, u2⟩, ⟨u3, u4⟩, ⟨u5, u6⟩⟩ := t2 i (by omega)
    have hmi := hm i (Nat.le_refl i) (by omega)
    obtain ⟨hh, hh64, ehh⟩ := natOf (x := jw (M0 83 i)) (k := 65) u1 (by omega)
    obtain ⟨pp, pp6, epp⟩ := natOf (x := jw (M0 84 i)) (k := 6) (by omega) (by omega)
    obtain ⟨bb, bb8, ebb⟩ := natOf (x := jw (M0 85 i)) (k := 8) u5 (by omega)
    have hPc : RP (blk M 40 12) (itA (letA B x (B 2).toNat) cur) := by
      rw [blk_congr (by decide) (M := M0) (M' := M) (a := 40) (z := 12) (fun j hj => hF _ (by omega))]
      exact hPL.same (fun q q1 q2 => itA_ne (by rw [l2]; exact h2) cur q q1 q2)
    have c5 := itA_5 (letA B x (B 2).toNat) cur
    obtain ⟨r, M1, r1, r2, r3⟩ := c_passW (n := n) (M := M) (th := 68) (p := 40) (by omega) (by omega) hPc hR (m := hh - cur) (by rw [c5, l5]; omega) (x := M0 83 i) (by rw [c5, l5, ehh]; omega)
    rw [itA_add, show cur + (hh - cur) = hh by omega] at r3
    have hF1 : ∀ c : Nat, c < 68 ∨ 76 ≤ c → M1 c = M0 c := fun c hc => by rw [r2 c hc, hF c hc]
    obtain ⟨q13, q14, q15, q16⟩ := r3.spots
    have s3 : S8 (M1 (68 + 3) pp) ∧ ∀ b : Nat, b < 8 → (bit (M1 (68 + 3) pp) b = true ↔ (b : Int) < itA (letA B x (B 2).toNat) hh 2 ∧ ¬ itA (letA B x (B 2).toNat) hh (59 + 10 * b) = 1 ∧ itA (letA B x (B 2).toNat) hh (63 + 10 * b) = pp) := q13 pp pp6
    have i2 : itA (letA B x (B 2).toNat) hh 2 = B 2 := by rw [itA_ne (by rw [l2]; exact h2) hh 2 (by omega) (by omega), l2]
    have eb : bit (M1 (68 + 3) pp) bb = true ↔ wh (itA (letA B x (B 2).toNat) hh) bb = pp := by
      rw [s3.2 bb bb8, i2]
      unfold wh
      by_cases he : itA (letA B x (B 2).toNat) hh (59 + 10 * bb) = 1
      · rw [if_pos he]
        exact ⟨fun q => absurd he q.2.1, fun q => by omega⟩
      · rw [if_neg he]
        exact ⟨fun q => q.2.2, fun q => ⟨by omega, he, q⟩⟩
    have ep : pS B x (tri M0 i) = !decide (wh (itA (letA B x (B 2).toNat) hh) bb = pp) := by
      unfold pS tri
      rw [ehh, epp, ebb]
      rfl
    have e82 : M 82 = M0 82 := hF 82 (by omega)
    have e83 : M 83 = M0 83 := hF 83 (by omega)
    have e84 : M1 84 = M0 84 := hF1 84 (by omega)
    have e85 : M1 85 = M0 85 := hF1 85 (by omega)
    have next := fun (v : Int) (hv : v = cnt (pS B x) (tri M0) (i + 1)) => ih (i + 1) k hh M1 (by omega) (by omega) hF1 r3 (by omega) (fun j j1 j2 => by
      have := t3 i j (by omega) j2
      omega)
    rw [f_X3_slipsIf_L14, e82, t1, if_neg (by rw [jw_of (x := (N : Int)) (by omega) (by omega), jw_of (x := (i : Int)) (by omega) (by omega)]; omega), chk_pos (jin_of (by omega) (by omega) (by omega)), show (jw (i : Int)).toNat = i from jwb (by omega), e83, r1, bnd_some, chk_pos (jin_of (by omega) (by omega) (by omega)), e84, chk_pos (jin_w epp pp6), chk_pos (jin_of (by omega) (by omega) (by omega)), epp, show ((pp : Int)).toNat = pp from Int.toNat_natCast pp, e85, q_isInW s3.1 bb8 ebb, bnd_some]
    unfold f_X3_slipsIf_L64
    simp only [letv_ap]
    by_cases c : bit (M1 (68 + 3) pp) bb = true
    · have ev : cnt (pS B x) (tri M0) i = cnt (pS B x) (tri M0) (i + 1) := by
        rw [cnt, ep, decide_eq_true (eb.1 c), if_neg (by decide)]; omega
      rw [if_pos c, if_neg (by decide), ev]
      exact next _ ev
    · have ev : cnt (pS B x) (tri M0) i + 1 = cnt (pS B x) (tri M0) (i + 1) := by
        rw [cnt, ep, decide_eq_false (fun q => c (eb.2 q)), if_pos (by decide)]
      rw [if_neg c, if_pos (by decide), ev]
      exact next _ ev
theorem c_slips (hf : 200 ≤ n) {B : Nat → Int} (hP : RP (blk M 40 12) B) (hR : RN (blk M 52 8) B) {x : Int} (hx : S8 x) (hx2 : ∀ b : Nat, b < 8 → bit x b = true → (b : Int) < B 2) {N : Nat} (hN : N ≤ 20) {T : Nat → Int × Int × Int} (hT : TR (B 0) (B 2) T N M) : ∃ M', f_X3_slipsIf n 40 52 68 x M = some (cnt (pS B x) T N, M') ∧ (∀ c : Nat, c < 68 ∨ 76 ≤ c → M' c = M c) := by
  have hB := SA.of hP hR
  obtain ⟨M1, a1, a2, a3⟩ := c_letOut (n := n) hf hP hR hx hx2
  have hP1 : RP (blk M 40 12) (letA B x (B 2).toNat) := hP.congr2 (fun k hk => letA_ne (by omega) (by have := hB.2.2.1; omega)) (fun t k ht hk => letA_ne (by omega) (by have := hB.2.2.1; omega)) (fun b hb => ⟨letA_ne (by omega) (by have := hB.2.2.1; omega), letA_ne (by omega) (by have := hB.2.2.1; omega), letA_ne (by omega) (by have := hB.2.2.1; omega)⟩)
  obtain ⟨M2, b1, b2⟩ := c_slips_L (n := n) hf (x := x) hP1 hN hT hB.1.2 hB.2.2.1 N 0 n 0 M1 (by omega) (by omega) a2 a3 (by omega) (fun j _ hj => (hT.2.1 j hj).1.1)
  rw [← hT.2.2.2 (pS B x)]
  refine ⟨M2, ?_, b2⟩
  unfold f_X3_slipsIf
  rw [a1, bnd_some]
  simp only [letv_ap]
  exact b1
end PSLIPS

section PLAYS
variable {n : Nat} {M : JMem}
/-! the reference lays a week out -/
theorem q_laysW {r : Int → JMem → Option (Int × JMem)} {nb H : Nat} (hnb : nb ≤ 8) (hH : H ≤ 64) {v : Int} : ∀ (d i k : Nat) (M : JMem), i + d = nb → d < k → SA (M 168) → M 168 2 = nb → M 168 5 = H →
    ∃ M', f_X12_laysOn_L32 n r k v (i : Int) M = f_X12_laysOn_L69 n r v M' ∧ (∀ c : Nat, c ≠ 176 → M' c = M c) ∧ ∀ q : Nat, M' 176 q = if 8 * H + i ≤ q ∧ q < 8 * H + nb then wh (M 168) (q - 8 * H) else M 176 q := by
  intro d
  induction d with
  | zero =>
    intro i k M hi hk hS h2 h5
    obtain ⟨k, rfl⟩ : ∃ q, k = q + 1 := ⟨k - 1, by omega⟩
    refine ⟨M, ?_, fun _ _ => rfl, fun q => by rw [if_neg (by omega)]⟩
    rw [f_X12_laysOn_L32, chk_pos (by decide), show (jw 2).toNat = 2 by decide, h2, if_pos (by rw [jw_of (x := (nb : Int)) (by omega) (by omega), jw_of (x := (i : Int)) (by omega) (by omega)]; omega)]
  | succ d ih =>
    intro i k M hi hk hS h2 h5
    obtain ⟨k, rfl⟩ : ∃ q, k = q + 1 := ⟨k - 1, by omega⟩
    rw [f_X12_laysOn_L32, chk_pos (by decide), show (jw 2).toNat = 2 by decide, h2, if_neg (by rw [jw_of (x := (nb : Int)) (by omega) (by omega), jw_of (x := (i : Int)) (by omega) (by omega)]; omega), chk_pos (by decide), show (jw 5).toNat = 5 by decide, h5, q_whS hS (by omega) (by omega), bnd_some, show 8 * (H : Int) + (i : Int) = ((8 * H + i : Nat) : Int) by omega, chk_pos (jin_of (by omega) (by omega) (by omega)), jwb (by omega)]
    simp only [letv_ap, letm_ap]
    obtain ⟨M', r1, r2, r3⟩ := ih (i + 1) k (jup M 176 (8 * H + i) (wh (M 168) i)) (by omega) (by omega) hS h2 h5
    refine ⟨M', r1, fun c hc => by rw [r2 c hc, jup_cell hc], fun q => ?_⟩
    rw [r3 q, show jup M 176 (8 * H + i) (wh (M 168) i) 168 = M 168 from jup_cell (by omega), jup_at]
    by_cases e : q = 8 * H + i
    · rw [if_neg (by omega), if_pos ⟨rfl, e⟩, if_pos (by omega), show q - 8 * H = i by omega]
    · by_cases c : 8 * H + (i + 1) ≤ q ∧ q < 8 * H + nb
      · rw [if_pos c, if_pos (by omega)]
      · rw [if_neg c, if_neg (fun w => e w.2), if_neg (by omega)]
theorem q_laysE {r : Int → JMem → Option (Int × JMem)} {nb : Nat} (hnb : nb ≤ 8) {v H e : Int} (he : S8 e) : ∀ (d i k : Nat) (M : JMem), i + d = nb → d < k → M 168 2 = nb →
    ∃ M', f_X12_laysOn_L102 n r k v H e (i : Int) M = r v M' ∧ (∀ c : Nat, c ≠ 177 → c ≠ 178 → M' c = M c) ∧ ∀ b : Nat, (M' 177 b = if i ≤ b ∧ b < nb ∧ bit e b = true then H else M 177 b) ∧ (M' 178 b = if i ≤ b ∧ b < nb ∧ bit e b = true then M 168 (65 + 10 * b) else M 178 b) := by
  intro d
  induction d with
  | zero =>
    intro i k M hi hk h2
    obtain ⟨k, rfl⟩ : ∃ q, k = q + 1 := ⟨k - 1, by omega⟩
    refine ⟨M, ?_, fun _ _ _ => rfl, fun b => ⟨by rw [if_neg (by omega)], by rw [if_neg (by omega)]⟩⟩
    rw [f_X12_laysOn_L102, chk_pos (by decide), show (jw 2).toNat = 2 by decide, h2, if_pos (by rw [jw_of (x := (nb : Int)) (by omega) (by omega), jw_of (x := (i : Int)) (by omega) (by omega)]; omega)]
    rfl
  | succ d ih =>
    intro i k M hi hk h2
    obtain ⟨k, rfl⟩ : ∃ q, k = q + 1 := ⟨k - 1, by omega⟩
    have i8 : i < 8 := by omega
    rw [f_X12_laysOn_L102, chk_pos (by decide), show (jw 2).toNat = 2 by decide, h2, if_neg (by rw [jw_of (x := (nb : Int)) (by omega) (by omega), jw_of (x := (i : Int)) (by omega) (by omega)]; omega), q_isInM he i8, bnd_some]
    unfold f_X12_laysOn_L149
    simp only [letv_ap, letm_ap]
    by_cases c : bit e i = true
    · rw [if_pos c, if_neg (by decide), chk_pos (jin_of (by omega) (by omega) (by omega)), jwb (by omega), q_bo9 i8, bnd_some, chk_pos (jin_of (by omega) (by omega) (by omega)), show jup M 177 i H 168 = M 168 from jup_cell (by omega)]
      obtain ⟨M', r1, r2, r3⟩ := ih (i + 1) k (jup (jup M 177 i H) 178 i (M 168 (65 + 10 * i))) (by omega) (by omega) h2
      refine ⟨M', r1, fun a ha hb => by rw [r2 a ha hb, jup_cell hb, jup_cell ha], fun b => ?_⟩
      have e168 : jup (jup M 177 i H) 178 i (M 168 (65 + 10 * i)) 168 = M 168 := by rw [jup_cell (by omega), jup_cell (by omega)]
      rw [(r3 b).1, (r3 b).2, e168, jup_cell (b := 177) (by omega), jup_at, jup_at, jup_cell (b := 178) (a := 177) (by omega)]
      by_cases eb : b = i
      · subst eb
        refine ⟨?_, ?_⟩
        · rw [if_neg (by omega), if_pos ⟨rfl, rfl⟩, if_pos ⟨Nat.le_refl b, by omega, c⟩]
        · rw [if_neg (by omega), if_pos ⟨rfl, rfl⟩, if_pos ⟨Nat.le_refl b, by omega, c⟩]
      · by_cases w : i + 1 ≤ b ∧ b < nb ∧ bit e b = true
        · refine ⟨?_, ?_⟩
          · rw [if_pos w, if_pos ⟨by omega, w.2⟩]
          · rw [if_pos w, if_pos ⟨by omega, w.2⟩]
        · refine ⟨?_, ?_⟩
          · rw [if_neg w, if_neg (fun w => eb w.2), if_neg (fun z => w ⟨by omega, z.2⟩)]
          · rw [if_neg w, if_neg (fun w => eb w.2), if_neg (fun z => w ⟨by omega, z.2⟩)]
    · rw [if_neg c, if_pos (by decide)]
      obtain ⟨M', r1, r2, r3⟩ := ih (i + 1) k M (by omega) (by omega) h2
      refine ⟨M', r1, r2, fun b => ?_⟩
      rw [(r3 b).1, (r3 b).2]
      by_cases eb : b = i
      · subst eb
        refine ⟨?_, ?_⟩
        · rw [if_neg (by omega), if_neg (fun z => c z.2.2)]
        · rw [if_neg (by omega), if_neg (fun z => c z.2.2)]
      · by_cases w : i + 1 ≤ b ∧ b < nb ∧ bit e b = true
        · refine ⟨?_, ?_⟩
          · rw [if_pos w, if_pos ⟨by omega, w.2⟩]
          · rw [if_pos w, if_pos ⟨by omega, w.2⟩]
        · refine ⟨?_, ?_⟩
          · rw [if_neg w, if_neg (fun z => w ⟨by omega, z.2⟩)]
          · rw [if_neg w, if_neg (fun z => w ⟨by omega, z.2⟩)]
theorem q_laysO {A : Nat → Int} (hA : SA A) {v : Int} : ∀ (d i k : Nat) (M : JMem), i + d = (A 2).toNat → d < k → M 168 = offs A i → f_X12_laysOn_L160 n k v (i : Int) M = f_X12_laysOn_L181 n v (jrow M 168 (offs A (A 2).toNat)) := by
  have h := hA
  obtain ⟨s0, s1, s2, s4, s5, st, sb⟩ := h
  intro d
  induction d with
  | zero =>
    intro i k M hi hk hM
    obtain ⟨k, rfl⟩ : ∃ q, k = q + 1 := ⟨k - 1, by omega⟩
    have e2 : M 168 2 = A 2 := by rw [hM]; exact offs_ne (by omega)
    rw [f_X12_laysOn_L160, chk_pos (by decide), show (jw 2).toNat = 2 by decide, e2, if_pos (by rw [jw_of (x := A 2) (by omega) (by omega), jw_of (x := (i : Int)) (by omega) (by omega)]; omega), show (A 2).toNat = i by omega, ← hM, jrow_self]
  | succ d ih =>
    intro i k M hi hk hM
    obtain ⟨k, rfl⟩ : ∃ q, k = q + 1 := ⟨k - 1, by omega⟩
    have e2 : M 168 2 = A 2 := by rw [hM]; exact offs_ne (by omega)
    rw [f_X12_laysOn_L160, chk_pos (by decide), show (jw 2).toNat = 2 by decide, e2, if_neg (by rw [jw_of (x := A 2) (by omega) (by omega), jw_of (x := (i : Int)) (by omega) (by omega)]; omega), q_getsOff hA (by omega) (by omega) hM, bnd_some]
    simp only [letv_ap, letm_ap]
    rw [show ((i : Int) + 1) = ((i + 1 : Nat) : Int) by omega, ih (i + 1) k _ (by omega) (by omega) (jrow_same _ _), jrow_jrow]
theorem q_laysI : ∀ (d i k : Nat) (M : JMem), i + d = 8 → d < k → ∃ M', f_X12_laysOn_L2 n k (i : Int) M = f_X12_laysOn_L28 n M' ∧ (∀ c : Nat, c ≠ 177 → c ≠ 178 → M' c = M c) ∧ ∀ b : Nat, (M' 177 b = if i ≤ b ∧ b < 8 then -1 else M 177 b) ∧ (M' 178 b = if i ≤ b ∧ b < 8 then -1 else M 178 b) := by
  intro d
  induction d with
  | zero =>
    intro i k M hi hk
    obtain ⟨k, rfl⟩ : ∃ q, k = q + 1 := ⟨k - 1, by omega⟩
    refine ⟨M, ?_, fun _ _ _ => rfl, fun b => ⟨by rw [if_neg (by omega)], by rw [if_neg (by omega)]⟩⟩
    rw [f_X12_laysOn_L2, if_pos (by rw [show jw 8 = 8 by decide, jw_of (x := (i : Int)) (by omega) (by omega)]; omega)]
  | succ d ih =>
    intro i k M hi hk
    obtain ⟨k, rfl⟩ : ∃ q, k = q + 1 := ⟨k - 1, by omega⟩
    rw [f_X12_laysOn_L2, if_neg (by rw [show jw 8 = 8 by decide, jw_of (x := (i : Int)) (by omega) (by omega)]; omega), chk_pos (jin_of (by omega) (by omega) (by omega))]
    simp only [letv_ap, letm_ap]
    rw [chk_pos (jin_of (by omega) (by omega) (by omega)), jwb (by omega)]
    obtain ⟨M', r1, r2, r3⟩ := ih (i + 1) k (jup (jup M 177 i (-1)) 178 i (-1)) (by omega) (by omega)
    refine ⟨M', r1, fun a ha hb => by rw [r2 a ha hb, jup_cell hb, jup_cell ha], fun b => ?_⟩
    rw [(r3 b).1, (r3 b).2, jup_cell (b := 177) (by omega), jup_at, jup_at, jup_cell (b := 178) (a := 177) (by omega)]
    by_cases eb : b = i
    · subst eb
      refine ⟨?_, ?_⟩
      · rw [if_neg (by omega), if_pos ⟨rfl, rfl⟩, if_pos (by omega)]
      · rw [if_neg (by omega), if_pos ⟨rfl, rfl⟩, if_pos (by omega)]
    · by_cases w : i + 1 ≤ b ∧ b < 8
      · refine ⟨?_, ?_⟩
        · rw [if_pos w, if_pos (by omega)]
        · rw [if_pos w, if_pos (by omega)]
      · refine ⟨?_, ?_⟩
        · rw [if_neg w, if_neg (fun w => eb w.2), if_neg (by omega)]
        · rw [if_neg w, if_neg (fun w => eb w.2), if_neg (by omega)]
/-- what a week laid out shows, from B on, j hours of it -/
def LO (B : Nat → Int) (h0 j : Nat) (M : JMem) : Prop :=
  (∀ k : Nat, k < j → ∀ b : Nat, b < 8 → (b : Int) < B 2 → M 176 (8 * (h0 + k) + b) = wh (itA B k) b) ∧
  (∀ k : Nat, k < j → ∀ b : Nat, b < 8 → (b : Int) < B 2 → ¬ itA B k (59 + 10 * b) = 1 → itA B (k + 1) (59 + 10 * b) = 1 → M 177 b = h0 + k ∧ M 178 b = itA B (k + 1) (65 + 10 * b)) ∧
  (∀ b : Nat, b < 8 → (b : Int) < B 2 → ¬ (itA B j (59 + 10 * b) = 1 ∧ ¬ B (59 + 10 * b) = 1) → M 177 b = -1 ∧ M 178 b = -1)
theorem q_laysLoop (hf : 200 ≤ n) {B : Nat → Int} (hB : SA B) {h0 m : Nat} (h5 : B 5 = h0) (hm : h0 + m = 64) {M0 : JMem} : ∀ (d j k : Nat) (v : Int) (M : JMem), j + d = m → d < k → M 168 = itA B j → (∀ c : Nat, c ≠ 168 → c ≠ 176 → c ≠ 177 → c ≠ 178 → M c = M0 c) → S8 v → (∀ b : Nat, b < 8 → (bit v b = true ↔ itA B j (59 + 10 * b) = 1 ∧ ¬ B (59 + 10 * b) = 1)) → LO B h0 j M →
    ∃ r M', f_X12_laysOn_L30 n k v M = f_X12_laysOn_L80 n r M' ∧ M' 168 = itA B m ∧ (∀ c : Nat, c ≠ 168 → c ≠ 176 → c ≠ 177 → c ≠ 178 → M' c = M0 c) ∧ S8 r ∧ (∀ b : Nat, b < 8 → (bit r b = true ↔ itA B m (59 + 10 * b) = 1 ∧ ¬ B (59 + 10 * b) = 1)) ∧ LO B h0 m M' ∧ (∀ b : Nat, b < 8 → (b : Int) < B 2 → M' 176 (8 * 64 + b) = wh (itA B m) b) := by
  have h2 := hB.2.2.1
  obtain ⟨nb, nb9, enb⟩ := natOf (x := B 2) (k := 9) h2.1 (by omega)
  intro d
  induction d with
  | zero =>
    intro j k v M hj hk hM hF hv hb hL
    obtain ⟨k, rfl⟩ : ∃ q, k = q + 1 := ⟨k - 1, by omega⟩
    obtain rfl : j = m := by omega
    have hS : SA (M 168) := by rw [hM]; exact hB.it j (by omega)
    have e2 : M 168 2 = nb := by rw [hM, itA_ne h2 j 2 (by omega) (by omega)]; exact enb
    have e5 : M 168 5 = ((64 : Nat) : Int) := by rw [hM, itA_5, h5]; omega
    obtain ⟨M1, r1, r2, r3⟩ := q_laysW (n := n) (r := f_X12_laysOn_L30 n k) (nb := nb) (H := 64) (v := v) (by omega) (by omega) nb 0 n M (by omega) (by omega) hS e2 e5
    refine ⟨v, M1, ?_, by rw [r2 168 (by omega)]; exact hM, fun c c1 c2 c3 c4 => by rw [r2 c c2]; exact hF c c1 c2 c3 c4, hv, hb, ⟨fun q hq b b8 hb2 => ?_, fun q hq b b8 hb2 z1 z2 => ?_, fun b b8 hb2 z => ?_⟩, fun b b8 hb2 => ?_⟩
    · rw [f_X12_laysOn_L30]
      simp only [letv_ap]
      rw [show f_X12_laysOn_L32 n (f_X12_laysOn_L30 n k) n v 0 M = _ from r1]
      unfold f_X12_laysOn_L69
      rw [chk_pos (by decide), show (jw 5).toNat = 5 by decide, r2 168 (by omega), e5, if_pos (by decide)]
    · rw [r3 _, if_neg (by omega)]; exact hL.1 q hq b b8 hb2
    · rw [r2 177 (by omega), r2 178 (by omega)]; exact hL.2.1 q hq b b8 hb2 z1 z2
    · rw [r2 177 (by omega), r2 178 (by omega)]; exact hL.2.2 b b8 hb2 z
    · rw [r3 _, if_pos (by omega), hM, show 8 * 64 + b - 8 * 64 = b by omega]
  | succ d ih =>
    intro j k v M hj hk hM hF hv hb hL
    obtain ⟨k, rfl⟩ : ∃ q, k = q + 1 := ⟨k - 1, by omega⟩
    have hS : SA (M 168) := by rw [hM]; exact hB.it j (by omega)
    have e2 : M 168 2 = nb := by rw [hM, itA_ne h2 j 2 (by omega) (by omega)]; exact enb
    have e5 : M 168 5 = ((h0 + j : Nat) : Int) := by rw [hM, itA_5, h5]; omega
    obtain ⟨M1, r1, r2, r3⟩ := q_laysW (n := n) (r := f_X12_laysOn_L30 n k) (nb := nb) (H := h0 + j) (v := v) (by omega) (by omega) nb 0 n M (by omega) (by omega) hS e2 e5
    have x168 : M1 168 = itA B j := by rw [r2 168 (by omega)]; exact hM
    obtain ⟨e, g1, g2, g3⟩ := q_hourGoes (n := n) (M := M1) (by omega) (by rw [x168]; exact hB.it j (by omega)) (by rw [x168, itA_5, h5]; omega)
    rw [x168] at g1 g3
    have y168 : jrow M1 168 (hourA (itA B j)) 168 = itA B (j + 1) := jrow_same _ _
    obtain ⟨M2, k1, k2, k3⟩ := q_laysE (n := n) (r := f_X12_laysOn_L30 n k) (nb := nb) (by omega) (v := jor v e) (H := M1 168 5) g2 nb 0 n (jrow M1 168 (hourA (itA B j))) (by omega) (by omega) (by rw [y168, itA_ne h2 (j + 1) 2 (by omega) (by omega)]; exact enb)
    have s := jorS hv g2
    have ebit : ∀ b : Nat, b < 8 → (bit e b = true ↔ itA B (j + 1) (59 + 10 * b) = 1 ∧ ¬ itA B j (59 + 10 * b) = 1) := g3
    obtain ⟨w, M3, w1, w2⟩ := ih (j + 1) k (jor v e) M2 (by omega) (by omega) (by rw [k2 168 (by omega) (by omega)]; exact y168) (fun c c1 c2 c3 c4 => by rw [k2 c c3 c4, jrow_ne _ c1, r2 c c2]; exact hF c c1 c2 c3 c4) s.1 (fun b b8 => by
      rw [s.2 b, Bool.or_eq_true, hb b b8, ebit b b8]
      constructor
      · rintro (z | z)
        · exact ⟨itA_mono h2 z.1 1, z.2⟩
        · exact ⟨z.1, fun y => z.2 (by have := itA_mono (A := B) (k := 0) h2 y j; rw [Nat.zero_add] at this; exact this)⟩
      · rintro ⟨z1, z2⟩
        by_cases c : itA B j (59 + 10 * b) = 1
        · exact Or.inl ⟨c, z2⟩
        · exact Or.inr ⟨z1, c⟩) ⟨fun q hq b b8 hb2 => by
        rw [k2 176 (by omega) (by omega), jrow_ne _ (by omega), r3 _]
        by_cases c : q = j
        · subst c
          rw [if_pos (by omega), hM, show 8 * (h0 + q) + b - 8 * (h0 + q) = b by omega]
        · rw [if_neg (by omega)]
          exact hL.1 q (by omega) b b8 hb2, fun q hq b b8 hb2 z1 z2 => by
        rw [(k3 b).1, (k3 b).2, y168]
        by_cases c : q = j
        · subst c
          have hbe := (ebit b b8).2 ⟨z2, z1⟩
          rw [if_pos ⟨by omega, by omega, hbe⟩, if_pos ⟨by omega, by omega, hbe⟩, x168, itA_5, h5]
          exact ⟨rfl, rfl⟩
        · have hno : ¬ bit e b = true := fun y => ((ebit b b8).1 y).2 (by
            have := itA_mono h2 z2 (j - (q + 1))
            rw [show q + 1 + (j - (q + 1)) = j by omega] at this
            exact this)
          rw [if_neg (fun y => hno y.2.2), if_neg (fun y => hno y.2.2), jrow_ne _ (by omega), jrow_ne _ (by omega), r2 177 (by omega), r2 178 (by omega)]
          exact hL.2.1 q (by omega) b b8 hb2 z1 z2, fun b b8 hb2 z => by
        have hno : ¬ bit e b = true := fun y => z ⟨((ebit b b8).1 y).1, fun y2 => ((ebit b b8).1 y).2 (by
          have := itA_mono (A := B) (k := 0) h2 y2 j
          rw [Nat.zero_add] at this; exact this)⟩
        rw [(k3 b).1, (k3 b).2, if_neg (fun y => hno y.2.2), if_neg (fun y => hno y.2.2), jrow_ne _ (by omega), jrow_ne _ (by omega), r2 177 (by omega), r2 178 (by omega)]
        exact hL.2.2 b b8 hb2 (fun y => z ⟨itA_mono h2 y.1 1, y.2⟩)⟩
    refine ⟨w, M3, ?_, w2⟩
    rw [f_X12_laysOn_L30]
    simp only [letv_ap]
    rw [show f_X12_laysOn_L32 n (f_X12_laysOn_L30 n k) n v 0 M = _ from r1]
    unfold f_X12_laysOn_L69
    simp only [letv_ap]
    rw [chk_pos (by decide), show (jw 5).toNat = 5 by decide, chk_pos (by decide), g1, bnd_some, if_neg (by rw [r2 168 (by omega), e5, show jw 64 = 64 by decide, jw_of (by omega) (by omega)]; omega), show f_X12_laysOn_L102 n (f_X12_laysOn_L30 n k) n (jor v e) (M1 168 5) e 0 (jrow M1 168 (hourA (itA B j))) = _ from k1]
    exact w1
theorem q_laysOn (hf : 200 ≤ n) (hB : SA (M 168)) {h0 m : Nat} (h5 : M 168 5 = h0) (hm : h0 + m = 64) : ∃ r M', f_X12_laysOn n M = some (r, M') ∧ M' 168 = restA (M 168) 3024 ∧ (∀ c : Nat, c ≠ 167 → c ≠ 168 → c ≠ 176 → c ≠ 177 → c ≠ 178 → M' c = M c) ∧ (∀ j : Nat, j ≠ 27 → M' 167 j = M 167 j) ∧ S8 r ∧ (∀ b : Nat, b < 8 → (bit r b = true ↔ itA (M 168) m (59 + 10 * b) = 1 ∧ ¬ M 168 (59 + 10 * b) = 1)) ∧ LO (M 168) h0 m M' ∧ (∀ b : Nat, b < 8 → (b : Int) < M 168 2 → M' 176 (8 * 64 + b) = wh (itA (M 168) m) b) ∧
    S8 (M' 167 27) ∧ ∀ b : Nat, b < 8 → (bit (M' 167 27) b = true ↔ (b : Int) < M 168 2 ∧ 0 < wh (offs (itA (M 168) m) (M 168 2).toNat) b) := by
  have h2 := hB.2.2.1
  obtain ⟨M1, a1, a2, a3⟩ := q_laysI (n := n) 8 0 n M (by omega) (by omega)
  obtain ⟨r, M2, b1, b2, b3, b4, b5, b6, b7⟩ := q_laysLoop (n := n) hf hB h5 hm (M0 := M1) m 0 n 0 M1 (by omega) (by omega) (a2 168 (by omega) (by omega)) (fun c _ _ _ _ => rfl) S8_0 (fun b b8 => by rw [bit0]; exact ⟨fun q => absurd q (by decide), fun q => absurd q.1 q.2⟩) ⟨fun k hk => by omega, fun k hk => by omega, fun b b8 hb2 z => by
    rw [(a3 b).1, (a3 b).2, if_pos (by omega), if_pos (by omega)]; exact ⟨rfl, rfl⟩⟩
  have hS : SA (itA (M 168) m) := hB.it m (by omega)
  have i2 : itA (M 168) m 2 = M 168 2 := itA_ne h2 m 2 (by omega) (by omega)
  have c1 := q_laysO (n := n) hS (v := r) (M 168 2).toNat 0 n M2 (by rw [i2]; omega) (by omega) (by rw [b2]; exact (upB_0 _ _ _).symm)
  rw [i2] at c1
  have o2 : offs (itA (M 168) m) (M 168 2).toNat 2 = M 168 2 := by rw [offs_ne (by omega), i2]
  obtain ⟨s, d1, d2, d3⟩ := q_lateNow (n := n) (M := jrow M2 168 (offs (itA (M 168) m) (M 168 2).toNat)) (by omega) (by rw [jrow_same]; exact hS.offsK (by omega))
  rw [jrow_same, o2] at d3
  have er : restA (offs (itA (M 168) m) (M 168 2).toNat) 3024 = restA (M 168) 3024 := by
    funext i
    unfold restA
    by_cases c : i < 136
    · rw [if_pos c, if_pos c, offs_ne (by omega), itA_ne h2 _ _ (by omega) (by omega)]
    · rw [if_neg c, if_neg c, offs_ne (by omega), itA_ne h2 _ _ (by omega) (by omega)]
  have eM : ∀ c : Nat, c ≠ 167 → c ≠ 168 → jrow (jup (jrow M2 168 (offs (itA (M 168) m) (M 168 2).toNat)) 167 27 s) 168 (restA (M 168) 3024) c = M2 c := fun c c1 c2 => by rw [jrow_ne _ c2, jup_cell c1, jrow_ne _ c2]
  have e67 : ∀ j : Nat, j ≠ 27 → jrow (jup (jrow M2 168 (offs (itA (M 168) m) (M 168 2).toNat)) 167 27 s) 168 (restA (M 168) 3024) 167 j = M2 167 j := fun j hj => by rw [jrow_ne _ (by omega), jup_at, if_neg (by omega), jrow_ne _ (by omega)]
  have e27 : jrow (jup (jrow M2 168 (offs (itA (M 168) m) (M 168 2).toNat)) 167 27 s) 168 (restA (M 168) 3024) 167 27 = s := by rw [jrow_ne _ (by omega), jup_at, if_pos ⟨rfl, rfl⟩]
  refine ⟨r, jrow (jup (jrow M2 168 (offs (itA (M 168) m) (M 168 2).toNat)) 167 27 s) 168 (restA (M 168) 3024), ?_, jrow_same _ _, fun c q1 q2 q3 q4 q5 => ?_, fun j hj => ?_, b4, b5, ⟨fun k hk b b8 hb => ?_, fun k hk b b8 hb z1 z2 => ?_, fun b b8 hb z => ?_⟩, fun b b8 hb => ?_, by rw [e27]; exact d2, fun b b8 => by rw [e27]; exact d3 b b8⟩
  · unfold f_X12_laysOn
    simp only [letv_ap]
    rw [show f_X12_laysOn_L2 n n 0 M = _ from a1]
    unfold f_X12_laysOn_L28
    simp only [letv_ap]
    rw [b1]
    unfold f_X12_laysOn_L80
    simp only [letv_ap]
    rw [show f_X12_laysOn_L160 n n r 0 M2 = _ from c1]
    unfold f_X12_laysOn_L181
    simp only [letm_ap]
    have k1 := q_restores (n := n) (M := jup (jrow M2 168 (offs (itA (M 168) m) (M 168 2).toNat)) 167 27 s) (t := 3024) hf (by omega) (by omega)
    rw [show jup (jrow M2 168 (offs (itA (M 168) m) (M 168 2).toNat)) 167 27 s 168 = offs (itA (M 168) m) (M 168 2).toNat by rw [jup_cell (by omega), jrow_same], er] at k1
    rw [d1, bnd_some, show f_X12_restores n 3024 _ = _ from k1, bnd_some]
  · rw [eM c q1 q2, b3 c q2 q3 q4 q5, a2 c q4 q5]
  · rw [e67 j hj, b3 167 (by omega) (by omega) (by omega) (by omega), a2 167 (by omega) (by omega)]
  · rw [eM 176 (by omega) (by omega)]; exact b6.1 k hk b b8 hb
  · rw [eM 177 (by omega) (by omega), eM 178 (by omega) (by omega)]; exact b6.2.1 k hk b b8 hb z1 z2
  · rw [eM 177 (by omega) (by omega), eM 178 (by omega) (by omega)]; exact b6.2.2 b b8 hb z
  · rw [eM 176 (by omega) (by omega)]; exact b7 b b8 hb
end PLAYS

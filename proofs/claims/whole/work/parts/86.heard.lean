section PHEARD
variable {n : Nat} {M : JMem}
theorem c_fits (hf : 200 ≤ n) {B : Nat → Int} (hP : RP (blk M 40 12) B) (hR : RN (blk M 52 8) B) {x s : Int} (hx : S8 x) (hx2 : ∀ b : Nat, b < 8 → bit x b = true → (b : Int) < B 2) (hs : 0 ≤ s ∧ s ≤ 20) {N : Nat} (hN : N ≤ 20) {T : Nat → Int × Int × Int} (hT : TR (B 0) (B 2) T N M) : ∃ M', f_X11_fitsParrot n x s M = some (if slipV B (M 52 3) T N x ≤ s then 1 else 0, M') ∧ (∀ c : Nat, c < 68 ∨ 76 ≤ c → M' c = M c) := by
  have hE : S8 (M 52 3) := hR.heads.2.2.2.1.1
  have sa := jandS hx hE
  unfold f_X11_fitsParrot slipV
  rw [sa.1.jw]
  by_cases c : jand x (M 52 3) = 0
  · obtain ⟨M', r1, r2⟩ := c_slips (n := n) hf hP hR hx hx2 hN hT
    have cr := cnt_range (p := pS B x) (f := T) N
    refine ⟨M', ?_, r2⟩
    rw [if_pos c, if_pos c, r1, bnd_some, jw_of (x := s) (by omega) (by omega), jw_of (x := cnt (pS B x) T N) (by omega) (by omega)]
    by_cases c2 : cnt (pS B x) T N ≤ s
    · rw [if_neg (by omega), if_pos c2]
    · rw [if_pos (by omega), if_neg c2]
  · refine ⟨M, ?_, fun _ _ => rfl⟩
    rw [if_neg c, if_neg c, if_neg (by omega)]
/-- a set below the power is one of the park's beasts -/
theorem low_set {nb : Int} (h : 0 ≤ nb ∧ nb ≤ 8) {i : Nat} (hi : i < 2 ^ nb.toNat) : S8 (i : Int) ∧ ∀ b : Nat, b < 8 → bit (i : Int) b = true → (b : Int) < nb := by
  have p := pow8 nb.toNat (by omega)
  refine ⟨⟨by omega, by omega⟩, fun b b8 hb => ?_⟩
  apply Classical.byContradiction
  intro c
  rw [bit_nat, Nat.testBit_lt_two_pow (Nat.lt_of_lt_of_le hi (Nat.pow_le_pow_right (by decide) (by omega)))] at hb
  exact absurd hb (by decide)
theorem jsh_pow {nb : Int} (h : 0 ≤ nb ∧ nb ≤ 8) : jshl 1 nb = ((2 ^ nb.toNat : Nat) : Int) ∧ jw (jshl 1 nb) = ((2 ^ nb.toNat : Nat) : Int) := by
  obtain ⟨k, hk, rfl⟩ := natOf (x := nb) (k := 9) h.1 (by omega)
  have p := pow8 k hk
  rw [jshl1_nat k (by omega), show ((k : Int)).toNat = k from Int.toNat_natCast k]
  exact ⟨rfl, jw_of (by omega) (by omega)⟩
theorem TR.congr {np nb : Int} {T : Nat → Int × Int × Int} {N : Nat} {M' : JMem} (h : TR np nb T N M) (h2 : M' 82 = M 82 ∧ M' 83 = M 83 ∧ M' 84 = M 84 ∧ M' 85 = M 85) : TR np nb T N M' := by
  unfold TR tri at h ⊢
  rw [h2.1, h2.2.1, h2.2.2.1, h2.2.2.2]
  exact h
theorem sets_L (hf : 200 ≤ n) {B : Nat → Int} {M0 : JMem} (hP : RP (blk M0 40 12) B) (hR : RN (blk M0 52 8) B) {s : Int} (hs : 0 ≤ s ∧ s ≤ 20) {N : Nat} (hN : N ≤ 20) {T : Nat → Int × Int × Int} (hT : TR (B 0) (B 2) T N M0) {N2 : Nat} (hN2 : N2 = 2 ^ (B 2).toNat) :
    ∀ (d i k k' : Nat) (v : Int), i + d = N2 → d < k → d < k' →
    ∃ r, (∀ M : JMem, (∀ c : Nat, c < 68 ∨ 76 ≤ c → M c = M0 c) → ∃ M1, f_X11_sets_L27 n k s v (i : Int) M = some (r, jup M1 0 0 0) ∧ (∀ c : Nat, c < 68 ∨ 76 ≤ c → M1 c = M0 c)) ∧
      (∀ X : JMem, X 168 2 = B 2 → (∀ q : Nat, q < N2 → X 182 q = slipV B (M0 52 3) T N (q : Int)) → f_X12_sets_L33 n k' s v (i : Int) X = some (r, jup X 167 2 0)) := by
  have hB := SA.of hP hR
  have h2 := hB.2.2.1
  have hp := pow8 (B 2).toNat (by omega)
  have esh := (jsh_pow h2).2
  intro d
  induction d with
  | zero =>
    intro i k k' v hi hk hk'
    obtain ⟨k, rfl⟩ : ∃ q, k = q + 1 := ⟨k - 1, by omega⟩
    obtain ⟨k', rfl⟩ : ∃ q, k' = q + 1 := ⟨k' - 1, by omega⟩
    refine ⟨v, fun M hF => ⟨M, ?_, hF⟩, fun X hX hq => ?_⟩
    · have e2 : M 40 2 = B 2 := by rw [hF 40 (by omega)]; exact hP.2.2.1.1
      rw [f_X11_sets_L27, e2, if_pos (by rw [esh, jw_of (x := (i : Int)) (by omega) (by omega)]; omega)]; rfl
    · rw [f_X12_sets_L33, chk_pos (by decide), show (jw 2).toNat = 2 by decide, hX, if_pos (by rw [esh, jw_of (x := (i : Int)) (by omega) (by omega)]; omega)]; rfl
  | succ d ih =>
    intro i k k' v hi hk hk'
    obtain ⟨k, rfl⟩ : ∃ q, k = q + 1 := ⟨k - 1, by omega⟩
    obtain ⟨k', rfl⟩ : ∃ q, k' = q + 1 := ⟨k' - 1, by omega⟩
    obtain ⟨si, sb⟩ := low_set h2 (i := i) (by omega)
    have vr := slipV_range (B := B) (E := M0 52 3) (x := (i : Int)) (T := T) hN
    obtain ⟨r, g1, g2⟩ := ih (i + 1) k k' (if slipV B (M0 52 3) T N (i : Int) ≤ s then v + 1 else v) (by omega) (by omega) (by omega)
    refine ⟨r, fun M hF => ?_, fun X hX hq => ?_⟩
    · have e2 : M 40 2 = B 2 := by rw [hF 40 (by omega)]; exact hP.2.2.1.1
      have e3 : M 52 3 = M0 52 3 := by rw [hF 52 (by omega)]
      obtain ⟨M1, r1, r2⟩ := c_fits (n := n) (M := M) hf (by rw [blk_congr (by decide) (M := M0) (M' := M) (a := 40) (z := 12) (fun j hj => hF _ (by omega))]; exact hP) (by rw [blk_congr (by decide) (M := M0) (M' := M) (a := 52) (z := 8) (fun j hj => hF _ (by omega))]; exact hR) si sb hs hN (hT.congr ⟨hF 82 (by omega), hF 83 (by omega), hF 84 (by omega), hF 85 (by omega)⟩)
      rw [e3] at r1
      obtain ⟨M2, w1, w2⟩ := g1 M1 (fun c hc => by rw [r2 c hc, hF c hc])
      refine ⟨M2, ?_, w2⟩
      rw [f_X11_sets_L27, e2, if_neg (by rw [esh, jw_of (x := (i : Int)) (by omega) (by omega)]; omega), r1, bnd_some]
      unfold f_X11_sets_L54
      simp only [letv_ap]
      by_cases c : slipV B (M0 52 3) T N (i : Int) ≤ s
      · rw [if_pos c] at w1
        rw [if_pos c, if_neg (by decide)]; exact w1
      · rw [if_neg c] at w1
        rw [if_neg c, if_pos (by decide)]; exact w1
    · have w := g2 X hX hq
      rw [f_X12_sets_L33, chk_pos (by decide), show (jw 2).toNat = 2 by decide, hX, if_neg (by rw [esh, jw_of (x := (i : Int)) (by omega) (by omega)]; omega), chk_pos (jin_of (by omega) (by omega) (by omega)), show (jw (i : Int)).toNat = i from jwb (by omega), hq i (by omega), jw_of (x := s) (by omega) (by omega), jw_of (x := slipV B (M0 52 3) T N (i : Int)) (by omega) (by omega)]
      unfold f_X12_sets_L64
      simp only [letv_ap]
      by_cases c : slipV B (M0 52 3) T N (i : Int) ≤ s
      · rw [if_pos c] at w
        rw [if_neg (by omega)]; exact w
      · rw [if_neg c] at w
        rw [if_pos (by omega), Int.add_zero]; exact w
theorem jall0 : ∀ k : Nat, k < 9 → ∀ i : Nat, i < 256 → (!decide (i < 2 ^ k) || decide (jand ((2 ^ k : Nat) - 1 : Int) (i : Int) = (i : Int))) = true := by decide +kernel
theorem jall {nb : Int} (h : 0 ≤ nb ∧ nb ≤ 8) {i : Nat} (hi : i < 2 ^ nb.toNat) : jand (jshl 1 nb - 1) (i : Int) = i := by
  have p := pow8 nb.toNat (by omega)
  have r := jall0 nb.toNat (by omega) i (by omega)
  rw [decide_eq_true hi, Bool.not_true, Bool.false_or, decide_eq_true_eq] at r
  rw [(jsh_pow h).1]
  exact r
theorem sure_L (hf : 200 ≤ n) {B : Nat → Int} {M0 : JMem} (hP : RP (blk M0 40 12) B) (hR : RN (blk M0 52 8) B) {s : Int} (hs : 0 ≤ s ∧ s ≤ 20) {N : Nat} (hN : N ≤ 20) {T : Nat → Int × Int × Int} (hT : TR (B 0) (B 2) T N M0) {N2 : Nat} (hN2 : N2 = 2 ^ (B 2).toNat) :
    ∀ (d i k k' : Nat) (a v w : Int), i + d = N2 → d < k → d < k' → ((a = 0 ∧ v = jshl 1 (B 2) - 1 ∧ w = -1) ∨ (a = 1 ∧ v = w ∧ S8 w)) →
    ∃ r u, (∀ M : JMem, (∀ c : Nat, c < 68 ∨ 76 ≤ c → M c = M0 c) → ∃ M1, f_X11_sure_L40 n k s a v (i : Int) M = some (r, jup M1 0 0 u) ∧ (∀ c : Nat, c < 68 ∨ 76 ≤ c → M1 c = M0 c)) ∧
      (∀ X : JMem, X 168 2 = B 2 → (∀ q : Nat, q < N2 → X 182 q = slipV B (M0 52 3) T N (q : Int)) → f_X12_sure_L33 n k' s w (i : Int) X = some (r, jup X 167 2 u)) := by
  have hB := SA.of hP hR
  have h2 := hB.2.2.1
  have hp := pow8 (B 2).toNat (by omega)
  have esh := (jsh_pow h2).2
  have em : jw (-1) = -1 := by decide
  intro d
  induction d with
  | zero =>
    intro i k k' a v w hi hk hk' hR2
    obtain ⟨k, rfl⟩ : ∃ q, k = q + 1 := ⟨k - 1, by omega⟩
    obtain ⟨k', rfl⟩ : ∃ q, k' = q + 1 := ⟨k' - 1, by omega⟩
    rcases hR2 with ⟨ha, hv, hw⟩ | ⟨ha, hv, hw⟩
    · refine ⟨-1, 6, fun M hF => ⟨M, ?_, hF⟩, fun X hX hq => ?_⟩
      · have e2 : M 40 2 = B 2 := by rw [hF 40 (by omega)]; exact hP.2.2.1.1
        rw [f_X11_sure_L40, e2, if_pos (by rw [esh, jw_of (x := (i : Int)) (by omega) (by omega)]; omega)]
        unfold f_X11_sure_L80
        rw [ha, if_pos (by decide)]; rfl
      · rw [f_X12_sure_L33, chk_pos (by decide), show (jw 2).toNat = 2 by decide, hX, if_pos (by rw [esh, jw_of (x := (i : Int)) (by omega) (by omega)]; omega)]
        unfold f_X12_sure_L81 f_X12_orNone
        rw [hw, if_pos rfl]; rfl
    · refine ⟨w, 0, fun M hF => ⟨M, ?_, hF⟩, fun X hX hq => ?_⟩
      · have e2 : M 40 2 = B 2 := by rw [hF 40 (by omega)]; exact hP.2.2.1.1
        rw [f_X11_sure_L40, e2, if_pos (by rw [esh, jw_of (x := (i : Int)) (by omega) (by omega)]; omega)]
        unfold f_X11_sure_L80
        rw [ha, hv, if_neg (by decide)]; rfl
      · rw [f_X12_sure_L33, chk_pos (by decide), show (jw 2).toNat = 2 by decide, hX, if_pos (by rw [esh, jw_of (x := (i : Int)) (by omega) (by omega)]; omega)]
        unfold f_X12_sure_L81 f_X12_orNone
        rw [hw.jw, em, if_neg (by have := hw.1; omega)]; rfl
  | succ d ih =>
    intro i k k' a v w hi hk hk' hR2
    obtain ⟨k, rfl⟩ : ∃ q, k = q + 1 := ⟨k - 1, by omega⟩
    obtain ⟨k', rfl⟩ : ∃ q, k' = q + 1 := ⟨k' - 1, by omega⟩
    obtain ⟨si, sb⟩ := low_set h2 (i := i) (by omega)
    have vr := slipV_range (B := B) (E := M0 52 3) (x := (i : Int)) (T := T) hN
    have comp : ∀ M : JMem, (∀ c : Nat, c < 68 ∨ 76 ≤ c → M c = M0 c) → ∃ M1, (∀ c : Nat, c < 68 ∨ 76 ≤ c → M1 c = M0 c) ∧ f_X11_sure_L40 n (k + 1) s a v (i : Int) M = if slipV B (M0 52 3) T N (i : Int) ≤ s then f_X11_sure_L40 n k s 1 (jand v (i : Int)) ((i + 1 : Nat) : Int) M1 else f_X11_sure_L40 n k s a v ((i + 1 : Nat) : Int) M1 := fun M hF => by
      have e2 : M 40 2 = B 2 := by rw [hF 40 (by omega)]; exact hP.2.2.1.1
      have e3 : M 52 3 = M0 52 3 := by rw [hF 52 (by omega)]
      obtain ⟨M1, r1, r2⟩ := c_fits (n := n) (M := M) hf (by rw [blk_congr (by decide) (M := M0) (M' := M) (a := 40) (z := 12) (fun j hj => hF _ (by omega))]; exact hP) (by rw [blk_congr (by decide) (M := M0) (M' := M) (a := 52) (z := 8) (fun j hj => hF _ (by omega))]; exact hR) si sb hs hN (hT.congr ⟨hF 82 (by omega), hF 83 (by omega), hF 84 (by omega), hF 85 (by omega)⟩)
      rw [e3] at r1
      refine ⟨M1, fun c hc => by rw [r2 c hc, hF c hc], ?_⟩
      rw [f_X11_sure_L40, e2, if_neg (by rw [esh, jw_of (x := (i : Int)) (by omega) (by omega)]; omega), r1, bnd_some]
      unfold f_X11_sure_L74
      simp only [letv_ap]
      by_cases c : slipV B (M0 52 3) T N (i : Int) ≤ s
      · rw [if_pos c, if_pos c, if_neg (by decide)]; rfl
      · rw [if_neg c, if_neg c, if_pos (by decide)]; rfl
    have refr : ∀ X : JMem, X 168 2 = B 2 → (∀ q : Nat, q < N2 → X 182 q = slipV B (M0 52 3) T N (q : Int)) → f_X12_sure_L33 n (k' + 1) s w (i : Int) X = if slipV B (M0 52 3) T N (i : Int) ≤ s then (if jw w = jw (-1) then f_X12_sure_L33 n k' s (i : Int) ((i + 1 : Nat) : Int) X else f_X12_sure_L33 n k' s (jand w (i : Int)) ((i + 1 : Nat) : Int) X) else f_X12_sure_L33 n k' s w ((i + 1 : Nat) : Int) X := fun X hX hq => by
      rw [f_X12_sure_L33, chk_pos (by decide), show (jw 2).toNat = 2 by decide, hX, if_neg (by rw [esh, jw_of (x := (i : Int)) (by omega) (by omega)]; omega), chk_pos (jin_of (by omega) (by omega) (by omega)), show (jw (i : Int)).toNat = i from jwb (by omega), hq i (by omega), jw_of (x := s) (by omega) (by omega), jw_of (x := slipV B (M0 52 3) T N (i : Int)) (by omega) (by omega)]
      unfold f_X12_sure_L73 f_X12_sure_L75
      simp only [letv_ap]
      by_cases c : slipV B (M0 52 3) T N (i : Int) ≤ s
      · rw [if_neg (by omega), if_pos c]; rfl
      · rw [if_pos (by omega), if_neg c]; rfl
    by_cases c : slipV B (M0 52 3) T N (i : Int) ≤ s
    · have rel : jand v (i : Int) = (if jw w = jw (-1) then (i : Int) else jand w (i : Int)) ∧ S8 (if jw w = jw (-1) then (i : Int) else jand w (i : Int)) := by
        rcases hR2 with ⟨ha, hv, hw⟩ | ⟨ha, hv, hw⟩
        · rw [hw, if_pos rfl, hv, jall h2 (by omega)]
          exact ⟨rfl, si⟩
        · rw [hw.jw, em, if_neg (by have := hw.1; omega), hv]
          exact ⟨rfl, (jandS hw si).1⟩
      obtain ⟨r, u, g1, g2⟩ := ih (i + 1) k k' 1 (jand v (i : Int)) (if jw w = jw (-1) then (i : Int) else jand w (i : Int)) (by omega) (by omega) (by omega) (Or.inr ⟨rfl, rel.1, rel.2⟩)
      refine ⟨r, u, fun M hF => ?_, fun X hX hq => ?_⟩
      · obtain ⟨M1, m1, m2⟩ := comp M hF
        obtain ⟨M2, w1, w2⟩ := g1 M1 m1
        exact ⟨M2, by rw [m2, if_pos c]; exact w1, w2⟩
      · rw [refr X hX hq, if_pos c]
        have z := g2 X hX hq
        by_cases e : jw w = jw (-1)
        · rw [if_pos e] at z
          rw [if_pos e]; exact z
        · rw [if_neg e] at z
          rw [if_neg e]; exact z
    · obtain ⟨r, u, g1, g2⟩ := ih (i + 1) k k' a v w (by omega) (by omega) (by omega) hR2
      refine ⟨r, u, fun M hF => ?_, fun X hX hq => ?_⟩
      · obtain ⟨M1, m1, m2⟩ := comp M hF
        obtain ⟨M2, w1, w2⟩ := g1 M1 m1
        exact ⟨M2, by rw [m2, if_neg c]; exact w1, w2⟩
      · rw [refr X hX hq, if_neg c]
        exact g2 X hX hq
theorem slips_L (hf : 200 ≤ n) {B : Nat → Int} {M0 : JMem} (hP : RP (blk M0 40 12) B) (hR : RN (blk M0 52 8) B) {N : Nat} (hN : N ≤ 20) {T : Nat → Int × Int × Int} (hT : TR (B 0) (B 2) T N M0) {N2 : Nat} (hN2 : N2 = 2 ^ (B 2).toNat) :
    ∀ (d i k k' : Nat) (v w : Int), i + d = N2 → d < k → d < k' → ((i = 0 ∧ v = N ∧ w = 1000000) ∨ (v = w ∧ 0 ≤ w ∧ w ≤ N)) →
    ∃ r, (∀ M : JMem, (∀ c : Nat, c < 68 ∨ 76 ≤ c → M c = M0 c) → ∃ M1, f_X11_slips_L24 n k v (i : Int) M = some (r, jup M1 0 0 0) ∧ (∀ c : Nat, c < 68 ∨ 76 ≤ c → M1 c = M0 c)) ∧
      (∀ X : JMem, X 168 2 = B 2 → (∀ q : Nat, q < N2 → X 182 q = slipV B (M0 52 3) T N (q : Int)) → f_X12_slips_L32 n k' w (i : Int) X = some (r, jup X 167 2 0)) := by
  have hB := SA.of hP hR
  have h2 := hB.2.2.1
  have hp := pow8 (B 2).toNat (by omega)
  have esh := (jsh_pow h2).2
  have hE : S8 (M0 52 3) := hR.heads.2.2.2.1.1
  intro d
  induction d with
  | zero =>
    intro i k k' v w hi hk hk' hR2
    obtain ⟨k, rfl⟩ : ∃ q, k = q + 1 := ⟨k - 1, by omega⟩
    obtain ⟨k', rfl⟩ : ∃ q, k' = q + 1 := ⟨k' - 1, by omega⟩
    have hvw : v = w := by omega
    refine ⟨v, fun M hF => ⟨M, ?_, hF⟩, fun X hX hq => ?_⟩
    · have e2 : M 40 2 = B 2 := by rw [hF 40 (by omega)]; exact hP.2.2.1.1
      rw [f_X11_slips_L24, e2, if_pos (by rw [esh, jw_of (x := (i : Int)) (by omega) (by omega)]; omega)]; rfl
    · rw [f_X12_slips_L32, chk_pos (by decide), show (jw 2).toNat = 2 by decide, hX, if_pos (by rw [esh, jw_of (x := (i : Int)) (by omega) (by omega)]; omega), hvw]; rfl
  | succ d ih =>
    intro i k k' v w hi hk hk' hR2
    obtain ⟨k, rfl⟩ : ∃ q, k = q + 1 := ⟨k - 1, by omega⟩
    obtain ⟨k', rfl⟩ : ∃ q, k' = q + 1 := ⟨k' - 1, by omega⟩
    obtain ⟨si, sb⟩ := low_set h2 (i := i) (by omega)
    have vr := slipV_range (B := B) (E := M0 52 3) (x := (i : Int)) (T := T) hN
    have cr := cnt_range (p := pS B (i : Int)) (f := T) N
    have z0 : i = 0 → jand (i : Int) (M0 52 3) = 0 := fun e => by
      rw [e, show ((0 : Nat) : Int) = 0 from rfl]
      exact (S8.ext (jandS S8_0 hE).1 S8_0 fun b b8 => by rw [(jandS S8_0 hE).2 b, bit0, Bool.false_and])
    have comp : ∀ M : JMem, (∀ c : Nat, c < 68 ∨ 76 ≤ c → M c = M0 c) → ∃ M1, (∀ c : Nat, c < 68 ∨ 76 ≤ c → M1 c = M0 c) ∧ f_X11_slips_L24 n (k + 1) v (i : Int) M = f_X11_slips_L24 n k (if jand (i : Int) (M0 52 3) = 0 then jmin v (cnt (pS B (i : Int)) T N) else v) ((i + 1 : Nat) : Int) M1 := fun M hF => by
      have e2 : M 40 2 = B 2 := by rw [hF 40 (by omega)]; exact hP.2.2.1.1
      have e3 : M 52 3 = M0 52 3 := by rw [hF 52 (by omega)]
      rw [f_X11_slips_L24, e2, if_neg (by rw [esh, jw_of (x := (i : Int)) (by omega) (by omega)]; omega), e3, (jandS si hE).1.jw]
      unfold f_X11_slips_L79
      simp only [letv_ap]
      by_cases c : jand (i : Int) (M0 52 3) = 0
      · obtain ⟨M1, r1, r2⟩ := c_slips (n := n) (M := M) hf (by rw [blk_congr (by decide) (M := M0) (M' := M) (a := 40) (z := 12) (fun j hj => hF _ (by omega))]; exact hP) (by rw [blk_congr (by decide) (M := M0) (M' := M) (a := 52) (z := 8) (fun j hj => hF _ (by omega))]; exact hR) si sb hN (hT.congr ⟨hF 82 (by omega), hF 83 (by omega), hF 84 (by omega), hF 85 (by omega)⟩)
        refine ⟨M1, fun c hc => by rw [r2 c hc, hF c hc], ?_⟩
        rw [if_pos c, if_pos c, r1, bnd_some]; rfl
      · refine ⟨M, hF, ?_⟩
        rw [if_neg c, if_neg c]; rfl
    obtain ⟨r, g1, g2⟩ := ih (i + 1) k k' (if jand (i : Int) (M0 52 3) = 0 then jmin v (cnt (pS B (i : Int)) T N) else v) (jmin w (slipV B (M0 52 3) T N (i : Int))) (by omega) (by omega) (by omega) (by
      right
      unfold slipV jmin
      by_cases c : jand (i : Int) (M0 52 3) = 0
      · rw [if_pos c, if_pos c, jw_of (x := cnt (pS B (i : Int)) T N) (by omega) (by omega), jw_of (x := v) (by omega) (by omega), jw_of (x := w) (by omega) (by omega)]
        rcases hR2 with ⟨q1, q2, q3⟩ | q
        · rw [if_pos (c := cnt (pS B (i : Int)) T N < w) (by omega)]
          by_cases c2 : cnt (pS B (i : Int)) T N < v
          · rw [if_pos c2]; omega
          · rw [if_neg c2]; omega
        · rw [q.1]
          by_cases c2 : cnt (pS B (i : Int)) T N < w
          · rw [if_pos c2]; omega
          · rw [if_neg c2]; omega
      · have i0 : ¬ i = 0 := fun e => c (z0 e)
        rw [if_neg c, if_neg c, show jw 1000000 = 1000000 by decide, jw_of (x := w) (by omega) (by omega), if_neg (by omega)]
        omega)
    refine ⟨r, fun M hF => ?_, fun X hX hq => ?_⟩
    · obtain ⟨M1, m1, m2⟩ := comp M hF
      obtain ⟨M2, w1, w2⟩ := g1 M1 m1
      exact ⟨M2, by rw [m2]; exact w1, w2⟩
    · rw [f_X12_slips_L32, chk_pos (by decide), show (jw 2).toNat = 2 by decide, hX, if_neg (by rw [esh, jw_of (x := (i : Int)) (by omega) (by omega)]; omega), chk_pos (jin_of (by omega) (by omega) (by omega)), show (jw (i : Int)).toNat = i from jwb (by omega), hq i (by omega)]
      simp only [letv_ap]
      exact g2 X hX hq
/-- the three of them, of one kind: first the parrot is heard, then a loop -/
theorem heard (hf : 300 ≤ n) (h : JR M) {x1 x2 x3 : Int} (hx1 : I32 x1) (hx2 : I32 x2) (hx3 : I32 x3) {f g : JMem → Option (Int × JMem)} {F G : JMem → Option (Int × JMem)}
    (hc : ∀ X, f X = bnd (f_X11_whyNotHeard n x1 x2 x3 X) fun r1 M2 => if jw r1 = 0 then F M2 else (bnd (f_X11_refuse n r1 M2) fun r6 M7 => some (r6, M7)))
    (hg : ∀ X, g X = bnd (f_X12_wrongParrot n x1 x2 x3 X) fun r1 M2 => if jw r1 ≤ 0 then (bnd (f_X12_laysSlips n x1 x2 M2) fun _ M5 => G M5) else (bnd (f_X12_refuse n r1 M2) fun r8 M9 => some (r8, M9)))
    (hL : ∀ (B : Nat → Int) (M0 : JMem) (N : Nat) (T : Nat → Int × Int × Int), RP (blk M0 40 12) B → RN (blk M0 52 8) B → N ≤ 20 → (N : Int) = x2 → 0 ≤ x3 → x3 ≤ 20 → TR (B 0) (B 2) T N M0 → ∃ r u, (∃ M1, F M0 = some (r, jup M1 0 0 u) ∧ (∀ c : Nat, c < 68 ∨ 76 ≤ c → M1 c = M0 c)) ∧ ∀ X : JMem, X 168 2 = B 2 → (∀ q : Nat, q < 2 ^ (B 2).toNat → X 182 q = slipV B (M0 52 3) T N (q : Int)) → G X = some (r, jup X 167 2 u)) :
    ∃ r M1 s M2, f M = some (r, M1) ∧ g M1 = some (s, M2) ∧ jw r = jw s ∧ JR M2 := by
  obtain ⟨h0, m, e5, em, eh, hP, hR, hB, lo⟩ := h.now
  have b2 : keepA (M 168) 3024 2 = M 168 2 := lo 2 (by omega)
  have b0 : keepA (M 168) 3024 0 = M 168 0 := lo 0 (by omega)
  have h2 := hB.2.2.1
  have hp := pow8 (keepA (M 168) 3024 2).toNat (by omega)
  have pfc : ∀ X : JMem, (∀ c : Nat, c < 68 ∨ 86 ≤ c → X c = M c) → Pf M X := fun X hX => ⟨fun c hc => hX c (by omega), fun j _ => by rw [hX 0 (by omega)], fun j _ _ => by rw [hX 167 (by omega)], fun i _ => by rw [hX 168 (by omega)]⟩
  rcases h.hear (n := n) hf hx1 hx2 hx3 with ⟨w, M1, w1, w5, a1, a2, a3⟩ | ⟨t, N, M1, t4, N20, et, eN, z1, z2, a1, a2, a3, a4, a5⟩
  · have a2' : ∀ c : Nat, c < 68 ∨ 86 ≤ c → M1 c = M c := fun c hc => a2 c (by omega)
    refine Pr.fin (r := -1) (s := -1) (M1 := jup M1 0 0 w) (M2 := jup (jup M1 0 0 w) 167 2 w) h ?_ ?_ rfl (((pfc M1 a2').trans (Pf.st0 w)).trans (Pf.st2 w)) ?_
    · rw [hc, a1, bnd_some, if_neg (by rw [jw_of (x := w) (by omega) (by omega)]; omega), q_refuse, bnd_some]
    · rw [hg, a3 _ ⟨by rw [jup_cell (by omega), a2 168 (by omega)], by rw [jup_cell (by omega), a2 171 (by omega)], by rw [jup_cell (by omega), a2 172 (by omega)]⟩, bnd_some, if_neg (by rw [jw_of (x := w) (by omega) (by omega)]; omega), q_refuseM, bnd_some]
    · rw [jup_cell (by omega), jup_at, if_pos ⟨rfl, rfl⟩, jup_at, if_pos ⟨rfl, rfl⟩]
  · have eP : RP (blk M1 40 12) (keepA (M 168) 3024) := by
      rw [blk_congr (by decide) (M := M) (M' := M1) (a := 40) (z := 12) (fun j hj => a2 _ (by omega))]; exact hP
    have eR : RN (blk M1 52 8) (keepA (M 168) 3024) := by
      rw [blk_congr (by decide) (M := M) (M' := M1) (a := 52) (z := 8) (fun j hj => a2 _ (by omega))]; exact hR
    obtain ⟨r, u, ⟨M2, g1, g2⟩, g3⟩ := hL (keepA (M 168) 3024) M1 N (trT M t) eP eR N20 eN.symm z1 z2 (by rw [b0, b2]; exact a3)
    have eF : ∀ c : Nat, c < 68 ∨ 86 ≤ c → c ≠ 0 → jup M2 0 0 u c = M c := fun c hc c0 => by rw [jup_cell c0, g2 c (by omega), a2 c (by omega)]
    obtain ⟨M3, k1, k2, k3, k4, k5, k6⟩ := q_laysSlips_L (n := n) hf (X0 := M1) (NV := blk M1 52 8) eP eR t4 N20 (M0 := jup M2 0 0 u) (T := trT M t) (by
      funext k
      unfold trT
      rw [eF 172 (by omega) (by omega)]) (fun j hj => by rw [b0, b2]; exact a4 j hj) rfl (2 ^ (keepA (M 168) 3024 2).toNat) 0 n (jup M2 0 0 u) (by omega) (by omega) (by rw [eF 168 (by omega) (by omega)]) (Or.inl rfl) (fun _ _ _ _ _ _ _ => rfl) (fun _ _ => rfl) (fun s hs => by omega)
    have g4 := g3 M3 (by rw [show M3 168 2 = keepA (M3 168) 3024 2 from (keepA_low (by omega)).symm, k2]) (fun q hq => k6 q hq)
    have pf3 : Pf (jup M2 0 0 u) M3 := ⟨fun c hc => k4 c (by omega) (by omega) (by omega) (by omega) (by omega) (by omega), fun j _ => by rw [k4 0 (by omega) (by omega) (by omega) (by omega) (by omega) (by omega)], fun j _ hj => k5 j hj, fun i hi => by
      rcases k3 with q | q
      · rw [q]
      · rw [q, eF 168 (by omega) (by omega), keepA_low (by omega)]⟩
    refine Pr.fin (r := r) (s := r) (M1 := jup M2 0 0 u) (M2 := jup M3 167 2 u) h ?_ ?_ rfl ((((pfc M2 (fun c hc => by rw [g2 c (by omega), a2 c (by omega)])).trans (Pf.st0 u)).trans pf3).trans (Pf.st2 u)) ?_
    · rw [hc, a1, bnd_some, if_pos (by decide)]
      exact g1
    · have k1' : f_X12_laysSlips n x1 x2 (jup M2 0 0 u) = some (0, M3) := by
        unfold f_X12_laysSlips
        simp only [letv_ap]
        rw [et, eN]
        exact k1
      rw [hg, a5 _ ⟨eF 168 (by omega) (by omega), eF 171 (by omega) (by omega), eF 172 (by omega) (by omega)⟩, bnd_some, if_pos (by decide), k1', bnd_some]
      exact g4
    · rw [jup_cell (by omega), k4 0 (by omega) (by omega) (by omega) (by omega) (by omega) (by omega), jup_at, if_pos ⟨rfl, rfl⟩, jup_at, if_pos ⟨rfl, rfl⟩]
theorem p_sets (hf : 300 ≤ n) : jO_sets JR n := fun x1 x2 x3 hx1 hx2 hx3 M h => heard (F := fun X => f_X11_sets_L27 n n x3 0 0 X) (G := fun X => f_X12_sets_L33 n n x3 0 0 X) hf h hx1 hx2 hx3 (fun X => rfl) (fun X => rfl) (fun B M0 N T eP eR N20 eN z1 z2 hT => by
  have hp := pow8 (B 2).toNat (by have := (SA.of eP eR).2.2.1; omega)
  obtain ⟨r, g1, g2⟩ := sets_L (n := n) (by omega) eP eR ⟨z1, z2⟩ N20 hT rfl (2 ^ (B 2).toNat) 0 n n 0 (by omega) (by omega) (by omega)
  exact ⟨r, 0, g1 M0 (fun _ _ => rfl), g2⟩)
theorem p_sure (hf : 300 ≤ n) : jO_sure JR n := fun x1 x2 x3 hx1 hx2 hx3 M h => heard (F := fun X => f_X11_sure_L40 n n x3 0 (jshl 1 (X 40 2) - 1) 0 X) (G := fun X => f_X12_sure_L33 n n x3 (-1) 0 X) hf h hx1 hx2 hx3 (fun X => rfl) (fun X => rfl) (fun B M0 N T eP eR N20 eN z1 z2 hT => by
  have hp := pow8 (B 2).toNat (by have := (SA.of eP eR).2.2.1; omega)
  have e2 : M0 40 2 = B 2 := eP.2.2.1.1
  obtain ⟨r, u, g1, g2⟩ := sure_L (n := n) (by omega) eP eR ⟨z1, z2⟩ N20 hT rfl (2 ^ (B 2).toNat) 0 n n 0 (jshl 1 (B 2) - 1) (-1) (by omega) (by omega) (by omega) (Or.inl ⟨rfl, rfl, rfl⟩)
  exact ⟨r, u, by rw [e2]; exact g1 M0 (fun _ _ => rfl), g2⟩)
theorem p_slips (hf : 300 ≤ n) : jO_slips JR n := fun x1 x2 hx1 hx2 M h => heard (x3 := 0) (F := fun X => f_X11_slips_L24 n n x2 0 X) (G := fun X => f_X12_slips_L32 n n 1000000 0 X) hf h hx1 hx2 ⟨by decide, by decide⟩ (fun X => rfl) (fun X => rfl) (fun B M0 N T eP eR N20 eN z1 z2 hT => by
  have hp := pow8 (B 2).toNat (by have := (SA.of eP eR).2.2.1; omega)
  obtain ⟨r, g1, g2⟩ := slips_L (n := n) (by omega) eP eR N20 hT rfl (2 ^ (B 2).toNat) 0 n n x2 1000000 (by omega) (by omega) (by omega) (Or.inl ⟨rfl, eN.symm, rfl⟩)
  exact ⟨r, 0, g1 M0 (fun _ _ => rfl), g2⟩)
end PHEARD

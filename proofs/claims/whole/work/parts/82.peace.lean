section PPEACE
variable {n : Nat} {M : JMem}
/-- the eaten, as the reference finds them -/
theorem q_eatens {N : JV} (hf : 200 ≤ n) (hR : RN N (M 168)) (h2 : 0 ≤ M 168 2 ∧ M 168 2 ≤ 8) : f_X12_beastsWith n 3 M = some (N 0 3, M) := by
  have r := hR.heads.2.2.2.1
  have h5 : ∀ b : Nat, b < 8 → (b : Int) < M 168 2 → M 168 (59 + 10 * b) = 0 ∨ M 168 (59 + 10 * b) = 1 := by
    unfold RN at hR
    exact hR.2.2.2.2.2.1
  obtain ⟨s, s1, s2, s3⟩ := q_beastsWith (n := n) (M := M) (what := 3) (by omega) (by omega) h2 (fun b b8 hb => by rw [show 56 + 10 * b + 3 = 59 + 10 * b by omega]; exact h5 b b8 hb)
  have e : s = N 0 3 := S8.ext s2 r.1 fun b b8 => by
    rw [Bool.eq_iff_iff, s3 b b8, r.2 b b8, show 56 + 10 * b + 3 = 59 + 10 * b by omega]
  rw [← e]; exact s1
theorem q_alive {N : JV} (hf : 200 ≤ n) (hR : RN N (M 168)) (h2 : 0 ≤ M 168 2 ∧ M 168 2 ≤ 8) {x : Int} (hx : S8 x) : f_X12_areAlive n x M = some (if jand x (N 0 3) = 0 then 1 else 0, M) := by
  have r := hR.heads.2.2.2.1
  have s := jandS hx r.1
  unfold f_X12_areAlive
  rw [q_eatens hf hR h2, bnd_some, s.1.jw]
  by_cases c : jand x (N 0 3) = 0
  · rw [if_pos c, if_pos c]
  · rw [if_neg c, if_neg c]
/-- a set of beasts -/
theorem JR.aset (h : JR M) {x : Int} (h1 : 0 ≤ x ∧ x < ((2 ^ (M 168 2).toNat : Nat) : Int)) : S8 x ∧ ∀ b : Nat, b < 8 → bit x b = true → (b : Int) < M 168 2 := by
  have nb := h.nb
  have p := pow8 (M 168 2).toNat (by omega)
  refine ⟨⟨h1.1, by omega⟩, fun b b8 hb => ?_⟩
  obtain ⟨m, hm, rfl⟩ := natOf (x := x) (k := 2 ^ (M 168 2).toNat) h1.1 h1.2
  apply Classical.byContradiction
  intro c
  rw [bit_nat, Nat.testBit_lt_two_pow (Nat.lt_of_lt_of_le hm (Nat.pow_le_pow_right (by decide) (by omega)))] at hb
  exact absurd hb (by decide)
theorem zero_of {r : Int} (h : S8 r) : r = 0 ↔ ∀ b : Nat, b < 8 → ¬ bit r b = true := by
  constructor
  · intro e b _
    rw [e, bit0]; decide
  · intro q
    exact S8.ext h S8_0 fun b b8 => by
      rw [bit0]
      cases hb : bit r b
      · rfl
      · exact absurd hb (q b b8)
/-- peace and eatenBy, of one kind: u tells what is said of the eaten -/
theorem out_pair (hf : 200 ≤ n) (h : JR M) {x1 : Int} (hx1 : I32 x1) {f g : Int → JMem → Option (Int × JMem)} {u : Int → Int}
    (hc : ∀ X : JMem, f x1 X = bnd (f_X11_whyNotLetOut n x1 X) fun r1 M2 => letv r1 fun y3 => if jw y3 = 0 then (bnd (f_X11_eatenOutside n x1 M2) fun r6 M7 => some (u r6, jup M7 0 0 0)) else (bnd (f_X11_refuse n y3 M2) fun r4 M5 => some (r4, M5)))
    (hg : ∀ X : JMem, g x1 X = bnd (f_X12_areBeasts n x1 X) fun r1 M2 => if jw r1 = 0 then (bnd (f_X12_refuse n 1 M2) fun r11 M12 => some (r11, M12)) else (bnd (f_X12_areAlive n x1 M2) fun r3 M4 => if jw r3 = 0 then (bnd (f_X12_refuse n 7 M4) fun r5 M6 => some (r5, M6)) else (bnd (f_X12_lettingOut n x1 M4) fun r7 M8 => some (u r7, jup M8 167 2 0)))) : ∃ r M1 s M2, f x1 M = some (r, M1) ∧ g x1 M1 = some (s, M2) ∧ jw r = jw s ∧ JR M2 := by
  obtain ⟨h0, m, e5, em, eh, hP, hR, hB, lo⟩ := h.now
  have b2 : keepA (M 168) 3024 2 = M 168 2 := lo 2 (by omega)
  have nb := h.nb
  have hN := h.cur.2.1
  by_cases h1 : 0 ≤ x1 ∧ x1 < ((2 ^ (M 168 2).toNat : Nat) : Int)
  · obtain ⟨sx, sb⟩ := h.aset h1
    have r4 : S8 (M 52 3) := hN.heads.2.2.2.1.1
    have sa := jandS sx r4
    have why : f_X11_whyNotLetOut n x1 M = some (if jand x1 (M 52 3) = 0 then 0 else 7, M) := by
      unfold f_X11_whyNotLetOut
      rw [h.isS hx1, bnd_some, if_pos h1, if_neg (by decide), sa.1.jw]
      by_cases c : jand x1 (M 52 3) = 0
      · rw [if_pos c, if_pos c]
      · rw [if_neg c, if_neg c]
    have al : ∀ X : JMem, X 168 = M 168 → f_X12_areAlive n x1 X = some (if jand x1 (M 52 3) = 0 then 1 else 0, X) := fun X e68 => q_alive (N := blk M 52 8) hf (by rw [e68]; exact hN) (by rw [e68]; exact nb.2) sx
    by_cases h2 : jand x1 (M 52 3) = 0
    · obtain ⟨r, M1, a1, a2, a3, a4⟩ := c_outside (n := n) hf hP hR sx (fun b b8 hb => by rw [b2]; exact sb b b8 hb)
      have e68 : jup M1 0 0 0 168 = M 168 := by rw [jup_cell (by omega), a2 168 (by omega)]
      obtain ⟨s, M2, k1, k2, k3, k4, k5, k6, k7⟩ := q_lettingOut (n := n) (M := jup M1 0 0 0) hf hB hP.2.2.2.2.1 (by rw [e68]) sx
      have er : r = s := S8.ext a3 k5 fun b b8 => by rw [Bool.eq_iff_iff, a4 b b8, k6 b b8]
      refine Pr.fin (f := f x1) (g := g x1) (r := u r) (s := u r) (M1 := jup M1 0 0 0) (M2 := jup M2 167 2 0) h ?_ ?_ rfl ((((Pf.cl a2).trans (Pf.st0 0)).trans (Pf.lays (by rw [e68]) k2 k3 k4)).trans (Pf.st2 0)) ?_
      · rw [hc, why, bnd_some, if_pos h2]
        simp only [letv_ap]
        rw [if_pos (by decide), a1, bnd_some]
      · rw [hg, h.isSM hx1 (jup M1 0 0 0) e68, bnd_some, if_pos h1, if_neg (by decide), al _ e68, bnd_some, if_pos h2, if_neg (by decide), k1, bnd_some, er]
      · rw [jup_cell (by omega), k3 0 (by omega) (by omega) (by omega) (by omega) (by omega), jup_at, if_pos ⟨rfl, rfl⟩, jup_at, if_pos ⟨rfl, rfl⟩]
    · refine Pr.end (f := f x1) (g := g x1) (r := -1) (s := -1) (x := 7) (y := 7) h ?_ ?_ rfl rfl
      · rw [hc, why, bnd_some, if_neg h2]
        simp only [letv_ap]
        rw [if_neg (by decide)]; rfl
      · rw [hg, h.isSM hx1 (jup M 0 0 7) rfl, bnd_some, if_pos h1, if_neg (by decide), al (jup M 0 0 7) rfl, bnd_some, if_neg h2, if_pos (by decide)]; rfl
  · refine Pr.end (f := f x1) (g := g x1) (r := -1) (s := -1) (x := 1) (y := 1) h ?_ ?_ rfl rfl
    · rw [hc]
      unfold f_X11_whyNotLetOut
      rw [h.isS hx1, bnd_some, if_neg h1, if_pos (by decide), bnd_some]
      simp only [letv_ap]
      rw [if_neg (by decide)]; rfl
    · rw [hg, h.isSM hx1 (jup M 0 0 1) rfl, bnd_some, if_neg h1, if_pos (by decide)]; rfl
theorem p_eatenBy (hf : 200 ≤ n) : jO_eatenBy JR n := fun x1 hx1 M h => out_pair (f := f_X11_eatenBy n) (g := f_X12_eatenBy n) (u := fun r => r) hf h hx1 (fun X => rfl) (fun X => rfl)
theorem p_peace (hf : 200 ≤ n) : jO_peace JR n := fun x1 hx1 M h => out_pair (f := f_X11_peace n) (g := f_X12_peace n) (u := fun r => if jw r = 0 then 1 else 0) hf h hx1 (fun X => by
    unfold f_X11_peace f_X11_peace_L24
    simp only [letv_ap, letm_ap]
    congr 1
    funext r1 M2
    congr 1
    congr 1
    funext r6 M7
    by_cases c : jw r6 = 0
    · rw [if_pos c, if_pos c]; rfl
    · rw [if_neg c, if_neg c]; rfl) (fun X => by
    unfold f_X12_peace f_X12_peace_L36
    congr 1
    funext r1 M2
    congr 1
    congr 1
    funext r3 M4
    congr 1
    congr 1
    funext r7 M8
    by_cases c : jw r7 = 0
    · rw [if_pos c, if_pos c]; rfl
    · rw [if_neg c, if_neg c]; rfl)
/-! most -/
theorem most_L (hf : 200 ≤ n) {B : Nat → Int} {M0 : JMem} (hP : RP (blk M0 40 12) B) (hR : RN (blk M0 52 8) B) {N : Nat} (hN : N = 2 ^ (B 2).toNat) :
    ∀ (d i k k' : Nat) (v : Int), i + d = N → d < k → d < k' → S8 v →
    ∃ r, (∀ M : JMem, (∀ c : Nat, c < 68 ∨ 76 ≤ c → M c = M0 c) → ∃ M1, f_X11_most_L4 n k v (i : Int) M = some (r, jup M1 0 0 0) ∧ (∀ c : Nat, c < 68 ∨ 76 ≤ c → M1 c = M0 c)) ∧
      ((i ≠ 0) → ∀ M : JMem, keepA (M 168) 3024 = B → ∃ M1, f_X12_most_L4 n k' v (i : Int) M = some (r, jup M1 167 2 0) ∧ keepA (M1 168) 3024 = B ∧ (∀ c : Nat, c ≠ 167 → c ≠ 168 → c ≠ 176 → c ≠ 177 → c ≠ 178 → M1 c = M c) ∧ (∀ j : Nat, j ≠ 27 → M1 167 j = M 167 j) ∧ (M1 168 = M 168 ∨ M1 168 = B)) := by
  have hB := SA.of hP hR
  have h2 := hB.2.2.1
  have hp := pow8 (B 2).toNat (by omega)
  obtain ⟨nb, nb9, enb⟩ := natOf (x := B 2) (k := 9) h2.1 (by omega)
  have esh : jw (jshl 1 (B 2)) = (N : Int) := by
    rw [enb, jshl1_nat nb (by omega), hN, show (B 2).toNat = nb by omega]
    rw [show (B 2).toNat = nb by omega] at hp
    exact jw_of (by omega) (by omega)
  have hE : S8 (M0 52 3) := hR.heads.2.2.2.1.1
  intro d
  induction d with
  | zero =>
    intro i k k' v hi hk hk' hv
    obtain ⟨k, rfl⟩ : ∃ q, k = q + 1 := ⟨k - 1, by omega⟩
    obtain ⟨k', rfl⟩ : ∃ q, k' = q + 1 := ⟨k' - 1, by omega⟩
    refine ⟨v, fun M hF => ⟨M, ?_, hF⟩, fun _ M hM => ⟨M, ?_, hM, fun _ _ _ _ _ _ => rfl, fun _ _ => rfl, Or.inl rfl⟩⟩
    · have e2 : M 40 2 = B 2 := by rw [hF 40 (by omega)]; exact hP.2.2.1.1
      rw [f_X11_most_L4, e2, if_pos (by rw [esh, jw_of (x := (i : Int)) (by omega) (by omega)]; omega)]; rfl
    · have e2 : M 168 2 = B 2 := by rw [← hM, keepA_low (by omega)]
      rw [f_X12_most_L4, chk_pos (by decide), show (jw 2).toNat = 2 by decide, e2, if_pos (by rw [esh, jw_of (x := (i : Int)) (by omega) (by omega)]; omega)]; rfl
  | succ d ih =>
    intro i k k' v hi hk hk' hv
    obtain ⟨k, rfl⟩ : ∃ q, k = q + 1 := ⟨k - 1, by omega⟩
    obtain ⟨k', rfl⟩ : ∃ q, k' = q + 1 := ⟨k' - 1, by omega⟩
    have si : S8 (i : Int) := ⟨by omega, by omega⟩
    have pv := pcI_range hv
    have pi := pcI_range si
    have sb : ∀ b : Nat, b < 8 → bit (i : Int) b = true → (b : Int) < B 2 := fun b b8 hb => by
      apply Classical.byContradiction
      intro c
      rw [bit_nat, Nat.testBit_lt_two_pow (Nat.lt_of_lt_of_le (show i < 2 ^ (B 2).toNat by omega) (Nat.pow_le_pow_right (by decide) (by omega)))] at hb
      exact absurd hb (by decide)
    have eP : ∀ X : JMem, (∀ c : Nat, c < 68 ∨ 76 ≤ c → X c = M0 c) → RP (blk X 40 12) B ∧ RN (blk X 52 8) B := fun X hX => by
      rw [blk_congr (by decide) (M := M0) (M' := X) (a := 40) (z := 12) (fun j hj => hX _ (by omega)), blk_congr (by decide) (M := M0) (M' := X) (a := 52) (z := 8) (fun j hj => hX _ (by omega))]
      exact ⟨hP, hR⟩
    have cst : ∀ X : JMem, (∀ c : Nat, c < 68 ∨ 76 ≤ c → X c = M0 c) → f_X11_most_L4 n (k + 1) v (i : Int) X = (if pcI (i : Int) ≤ pcI v then f_X11_most_L33 n (f_X11_most_L4 n k) v (i : Int) 0 X else f_X11_most_L33 n (f_X11_most_L4 n k) v (i : Int) 1 X) := fun X hX => by
      have e2 : X 40 2 = B 2 := by rw [hX 40 (by omega)]; exact hP.2.2.1.1
      rw [f_X11_most_L4, e2, if_neg (by rw [esh, jw_of (x := (i : Int)) (by omega) (by omega)]; omega), q_bc si, bnd_some, q_bc hv, bnd_some, jw_of (x := pcI (i : Int)) (by omega) (by omega), jw_of (x := pcI v) (by omega) (by omega)]
    have rst : ∀ X : JMem, keepA (X 168) 3024 = B → f_X12_most_L4 n (k' + 1) v (i : Int) X = (if jand (i : Int) (M0 52 3) = 0 then (if pcI (i : Int) ≤ pcI v then f_X12_most_L45 n (f_X12_most_L4 n k') v (i : Int) X else (bnd (f_X12_lettingOut n (i : Int) X) fun r7 M8 => if jw r7 = 0 then (letv (i : Int) fun y9 => f_X12_most_L45 n (f_X12_most_L4 n k') y9 (i : Int) M8) else (f_X12_most_L45 n (f_X12_most_L4 n k') v (i : Int) M8))) else f_X12_most_L45 n (f_X12_most_L4 n k') v (i : Int) X) := fun X hX => by
      have lo : ∀ q : Nat, q < 136 → X 168 q = B q := fun q hq => by rw [← hX, keepA_low (by omega)]
      rw [f_X12_most_L4, chk_pos (by decide), show (jw 2).toNat = 2 by decide, lo 2 (by omega), if_neg (by rw [esh, jw_of (x := (i : Int)) (by omega) (by omega)]; omega), q_alive (N := blk M0 52 8) hf (hR.low lo) (by rw [lo 2 (by omega)]; exact h2) si, bnd_some, show blk M0 52 8 0 3 = M0 52 3 from rfl]
      by_cases c : jand (i : Int) (M0 52 3) = 0
      · rw [if_pos c, if_pos c, if_neg (by decide), q_bits (by omega) si, bnd_some, q_bits (by omega) hv, bnd_some, jw_of (x := pcI (i : Int)) (by omega) (by omega), jw_of (x := pcI v) (by omega) (by omega)]
      · rw [if_neg c, if_neg c, if_pos (by decide)]
    -- nothing changes
    have stay : (pcI (i : Int) ≤ pcI v ∨ ¬ jand (i : Int) (M0 52 3) = 0) → ∃ r, (∀ M : JMem, (∀ c : Nat, c < 68 ∨ 76 ≤ c → M c = M0 c) → ∃ M1, f_X11_most_L4 n (k + 1) v (i : Int) M = some (r, jup M1 0 0 0) ∧ (∀ c : Nat, c < 68 ∨ 76 ≤ c → M1 c = M0 c)) ∧
      ((i ≠ 0) → ∀ M : JMem, keepA (M 168) 3024 = B → ∃ M1, f_X12_most_L4 n (k' + 1) v (i : Int) M = some (r, jup M1 167 2 0) ∧ keepA (M1 168) 3024 = B ∧ (∀ c : Nat, c ≠ 167 → c ≠ 168 → c ≠ 176 → c ≠ 177 → c ≠ 178 → M1 c = M c) ∧ (∀ j : Nat, j ≠ 27 → M1 167 j = M 167 j) ∧ (M1 168 = M 168 ∨ M1 168 = B)) := fun hc => by
      obtain ⟨r, g1, g2⟩ := ih (i + 1) k k' v (by omega) (by omega) (by omega) hv
      refine ⟨r, fun M hF => ?_, fun i0 M hM => ?_⟩
      · rw [cst M hF]
        by_cases c1 : pcI (i : Int) ≤ pcI v
        · rw [if_pos c1]
          unfold f_X11_most_L33 f_X11_most_L60
          simp only [letv_ap]
          rw [if_pos (by decide)]
          exact g1 M hF
        · have c2 := hc.resolve_left c1
          have e3 : M 52 3 = M0 52 3 := by rw [hF 52 (by omega)]
          rw [if_neg c1]
          unfold f_X11_most_L33 f_X11_most_L60
          simp only [letv_ap]
          rw [if_neg (by decide), e3, (jandS si hE).1.jw, if_neg c2]
          exact g1 M hF
      · rw [rst M hM]
        by_cases c2 : jand (i : Int) (M0 52 3) = 0
        · rw [if_pos c2, if_pos (hc.resolve_right (fun q => q c2))]
          exact g2 (by omega) M hM
        · rw [if_neg c2]
          exact g2 (by omega) M hM
    by_cases c1 : pcI (i : Int) ≤ pcI v
    · exact stay (Or.inl c1)
    · by_cases c2 : jand (i : Int) (M0 52 3) = 0
      · by_cases c3 : ∀ b : Nat, b < 8 → ¬ (itA (letA B (i : Int) (B 2).toNat) 64 (59 + 10 * b) = 1 ∧ ¬ letA B (i : Int) (B 2).toNat (59 + 10 * b) = 1)
        · obtain ⟨r, g1, g2⟩ := ih (i + 1) k k' (i : Int) (by omega) (by omega) (by omega) si
          refine ⟨r, fun M hF => ?_, fun i0 M hM => ?_⟩
          · have e3 : M 52 3 = M0 52 3 := by rw [hF 52 (by omega)]
            obtain ⟨hP', hR'⟩ := eP M hF
            obtain ⟨e, M1, a1, a2, a3, a4⟩ := c_outside (n := n) hf hP' hR' si sb
            have e0 : e = 0 := (zero_of a3).2 (fun b b8 q => c3 b b8 ((a4 b b8).1 q))
            rw [cst M hF, if_neg c1]
            unfold f_X11_most_L33 f_X11_most_L60
            simp only [letv_ap]
            rw [if_neg (by decide), e3, (jandS si hE).1.jw, if_pos c2, a1, bnd_some, e0, if_pos (by decide)]
            exact g1 M1 (fun c hc => by rw [a2 c hc, hF c hc])
          · obtain ⟨s, M1, k1, k2, k3, k4, k5, k6, k7⟩ := q_lettingOut (n := n) (M := M) hf hB hP.2.2.2.2.1 hM si
            have e0 : s = 0 := (zero_of k5).2 (fun b b8 q => c3 b b8 ((k6 b b8).1 q))
            obtain ⟨M2, w1, w2, w3, w4, w5⟩ := g2 (by omega) M1 (by rw [k2, ← hM, keepA_idem _ (by omega)])
            refine ⟨M2, ?_, w2, fun c c1 c2 c3 c4 c5 => by rw [w3 c c1 c2 c3 c4 c5, k3 c c1 c2 c3 c4 c5], fun j hj => by rw [w4 j hj, k4 j hj], Or.inr (w5.elim (fun q => by rw [q, k2]) id)⟩
            rw [rst M hM, if_pos c2, if_neg c1, k1, bnd_some, e0, if_pos (by decide)]
            exact w1
        · obtain ⟨r, g1, g2⟩ := ih (i + 1) k k' v (by omega) (by omega) (by omega) hv
          refine ⟨r, fun M hF => ?_, fun i0 M hM => ?_⟩
          · have e3 : M 52 3 = M0 52 3 := by rw [hF 52 (by omega)]
            obtain ⟨hP', hR'⟩ := eP M hF
            obtain ⟨e, M1, a1, a2, a3, a4⟩ := c_outside (n := n) hf hP' hR' si sb
            have e0 : ¬ e = 0 := fun q => c3 (fun b b8 z => (zero_of a3).1 q b b8 ((a4 b b8).2 z))
            rw [cst M hF, if_neg c1]
            unfold f_X11_most_L33 f_X11_most_L60
            simp only [letv_ap]
            rw [if_neg (by decide), e3, (jandS si hE).1.jw, if_pos c2, a1, bnd_some, a3.jw, if_neg e0]
            exact g1 M1 (fun c hc => by rw [a2 c hc, hF c hc])
          · obtain ⟨s, M1, k1, k2, k3, k4, k5, k6, k7⟩ := q_lettingOut (n := n) (M := M) hf hB hP.2.2.2.2.1 hM si
            have e0 : ¬ s = 0 := fun q => c3 (fun b b8 z => (zero_of k5).1 q b b8 ((k6 b b8).2 z))
            obtain ⟨M2, w1, w2, w3, w4, w5⟩ := g2 (by omega) M1 (by rw [k2, ← hM, keepA_idem _ (by omega)])
            refine ⟨M2, ?_, w2, fun c c1 c2 c3 c4 c5 => by rw [w3 c c1 c2 c3 c4 c5, k3 c c1 c2 c3 c4 c5], fun j hj => by rw [w4 j hj, k4 j hj], Or.inr (w5.elim (fun q => by rw [q, k2]) id)⟩
            rw [rst M hM, if_pos c2, if_neg c1, k1, bnd_some, k5.jw, if_neg e0]
            exact w1
      · exact stay (Or.inr c2)
theorem p_most (hf : 300 ≤ n) : jO_most JR n := by
  intro M h
  obtain ⟨h0, m, e5, em, eh, hP, hR, hB, lo⟩ := h.now
  have h2 := hB.2.2.1
  have hp := pow8 (keepA (M 168) 3024 2).toNat (by omega)
  obtain ⟨nb, nb9, enb⟩ := natOf (x := keepA (M 168) 3024 2) (k := 9) h2.1 (by omega)
  -- the class begins at 0, the reference at 1
  obtain ⟨r, g1, g2⟩ := most_L (n := n) (by omega) hP hR rfl (2 ^ (keepA (M 168) 3024 2).toNat - 1) 1 (n - 1) n 0 (by omega) (by omega) (by omega) S8_0
  obtain ⟨M1, a1, a2⟩ := g1 M (fun _ _ => rfl)
  have e68 : jup M1 0 0 0 168 = M 168 := by rw [jup_cell (by omega), a2 168 (by omega)]
  obtain ⟨M2, k1, k2, k3, k4, k5⟩ := g2 (by omega) (jup M1 0 0 0) (by rw [e68])
  have pf2 : Pf (jup M1 0 0 0) M2 := by
    refine ⟨fun c hc => k3 c (by omega) (by omega) (by omega) (by omega) (by omega), fun j _ => by rw [k3 0 (by omega) (by omega) (by omega) (by omega) (by omega)], fun j _ hj => k4 j hj, fun i hi => ?_⟩
    rcases k5 with q | q
    · rw [q]
    · rw [q, e68, keepA_low (by omega)]
  refine Pr.fin (r := r) (s := r) (M1 := jup M1 0 0 0) (M2 := jup M2 167 2 0) h ?_ ?_ rfl ((((Pf.cl a2).trans (Pf.st0 0)).trans pf2).trans (Pf.st2 0)) ?_
  · unfold f_X11_most
    simp only [letv_ap]
    obtain ⟨q, rfl⟩ : ∃ q, n = q + 1 := ⟨n - 1, by omega⟩
    have e2 : M 40 2 = keepA (M 168) 3024 2 := hP.2.2.1.1
    have hp' : 1 ≤ 2 ^ nb ∧ 2 ^ nb ≤ 256 := pow8 nb (by omega)
    rw [f_X11_most_L4, e2, enb, jshl1_nat nb (by omega), if_neg (by rw [jw_of (by omega) (by omega), show jw 0 = 0 by decide]; omega), show (0 : Int) = ((0 : Nat) : Int) from rfl, q_bc ⟨by omega, by omega⟩, bnd_some, q_bc ⟨by omega, by omega⟩, bnd_some, if_pos (Int.le_refl _)]
    unfold f_X11_most_L33 f_X11_most_L60
    simp only [letv_ap]
    rw [if_pos (by decide)]
    exact a1
  · unfold f_X12_most
    simp only [letv_ap]
    exact k1
  · rw [jup_cell (by omega), k3 0 (by omega) (by omega) (by omega) (by omega) (by omega), jup_at, if_pos ⟨rfl, rfl⟩, jup_at, if_pos ⟨rfl, rfl⟩]
end PPEACE

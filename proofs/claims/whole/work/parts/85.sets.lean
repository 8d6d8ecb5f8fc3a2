section PSETS
variable {n : Nat} {M : JMem}
/-- how many slips a set makes -/
def slipV (B : Nat → Int) (E : Int) (T : Nat → Int × Int × Int) (N : Nat) (x : Int) : Int := if jand x E = 0 then cnt (pS B x) T N else 1000000
theorem slipV_range {B : Nat → Int} {E x : Int} {T : Nat → Int × Int × Int} {N : Nat} (hN : N ≤ 20) : 0 ≤ slipV B E T N x ∧ slipV B E T N x ≤ 1000000 := by
  unfold slipV
  have := cnt_range (p := pS B x) (f := T) N
  split <;> omega
theorem q_slips_K {r2 : Int → Int → Int → JMem → Option (Int × JMem)} {B : Nat → Int} (hB : SA B) (h0 : 0 < B 2 → 0 < B 0) {t N s : Nat} (ht : t < 4) (hN : N ≤ 20) (hs : s < 256) {M0 : JMem} {T : Nat → Int × Int × Int} (hT : T = trT M0 t) (ho : ∀ j : Nat, j < N → okT (B 0) (B 2) (T j)) (hW : ∀ k : Nat, k ≤ 64 → ∀ b : Nat, b < 8 → (b : Int) < B 2 → M0 176 (8 * k + b) = wh (itA (letA B (s : Int) (B 2).toNat) k) b) :
    ∀ (d i k : Nat) (M : JMem), i + d = N → d < k → (∀ c : Nat, c ≠ 182 → M c = M0 c) → (∀ q : Nat, q ≠ s → M 182 q = M0 182 q) → M 182 s = cnt (pS B (s : Int)) T i →
    ∃ M', f_X12_laysSlips_L50 n r2 k (t : Int) (N : Int) (s : Int) (i : Int) M = f_X12_laysSlips_L139 n r2 (t : Int) (N : Int) (s : Int) M' ∧ (∀ c : Nat, c ≠ 182 → M' c = M0 c) ∧ (∀ q : Nat, q ≠ s → M' 182 q = M0 182 q) ∧ M' 182 s = cnt (pS B (s : Int)) T N := by
  have h2 := hB.2.2.1
  have hb0 := hB.1
  have l2 : letA B (s : Int) (B 2).toNat 2 = B 2 := letA_ne (by omega) (by omega)
  have l5 : letA B (s : Int) (B 2).toNat 5 = 0 := letA_5
  have hL := hB.letK (x := (s : Int)) rfl h0
  intro d
  induction d with
  | zero =>
    intro i k M hi hk hF hq hv
    obtain ⟨k, rfl⟩ : ∃ q, k = q + 1 := ⟨k - 1, by omega⟩
    obtain rfl : i = N := by omega
    refine ⟨M, ?_, hF, hq, hv⟩
    rw [f_X12_laysSlips_L50, if_pos (Int.le_refl _)]
  | succ d ih =>
    intro i k M hi hk hF hq hv
    obtain ⟨k, rfl⟩ : ∃ q, k = q + 1 := ⟨k - 1, by omega⟩
    obtain ⟨⟨u1, u2⟩, ⟨u3, u4⟩, ⟨u5, u6⟩⟩ := ho i (by omega)
    have a1 : jwl (M0 172 (60 * t + 3 * i)) = (T i).1 := by rw [hT]; rfl
    have a2 : jwl (M0 172 (60 * t + 3 * i + 1)) = (T i).2.1 := by rw [hT]; rfl
    have a3 : jwl (M0 172 (60 * t + 3 * i + 2)) = (T i).2.2 := by rw [hT]; rfl
    have w1 : jw (M0 172 (60 * t + 3 * i)) = (T i).1 := by rw [← a1]; exact jw_ofL (by omega) (by omega)
    have w2 : jw (M0 172 (60 * t + 3 * i + 1)) = (T i).2.1 := by rw [← a2]; exact jw_ofL (by omega) (by omega)
    have w3 : jw (M0 172 (60 * t + 3 * i + 2)) = (T i).2.2 := by rw [← a3]; exact jw_ofL (by omega) (by omega)
    obtain ⟨hh, hh65, ehh⟩ := natOf (x := (T i).1) (k := 65) u1 (by omega)
    obtain ⟨bb, bb8, ebb⟩ := natOf (x := (T i).2.2) (k := 8) u5 (by omega)
    have ix : jw (8 * M0 172 (60 * t + 3 * i) + M0 172 (60 * t + 3 * i + 2)) = ((8 * hh + bb : Nat) : Int) := by
      obtain ⟨k1, e1⟩ := jw_ex (M0 172 (60 * t + 3 * i))
      obtain ⟨k3, e3⟩ := jw_ex (M0 172 (60 * t + 3 * i + 2))
      exact jw_is (k := 8 * k1 + k3) (by omega) (by omega) (by omega)
    have hSh := hL.it hh (by omega)
    have i2 : itA (letA B (s : Int) (B 2).toNat) hh 2 = B 2 := by rw [itA_ne (by rw [l2]; exact h2) hh 2 (by omega) (by omega), l2]
    have ww := hSh.whK bb8 (by rw [i2]; omega)
    have ep : pS B (s : Int) (T i) = !decide (wh (itA (letA B (s : Int) (B 2).toNat) hh) bb = (T i).2.1) := by
      unfold pS
      rw [ehh, ebb]; rfl
    have e172 : M 172 = M0 172 := hF 172 (by omega)
    have e176 : M 176 = M0 176 := hF 176 (by omega)
    have go : ∀ w : Int, (M 182 s) + w = cnt (pS B (s : Int)) T (i + 1) → ∃ M', f_X12_laysSlips_L131 n r2 (f_X12_laysSlips_L50 n r2 k) (t : Int) (N : Int) (s : Int) (i : Int) (s : Int) (M 182 s) w M = f_X12_laysSlips_L139 n r2 (t : Int) (N : Int) (s : Int) M' ∧ (∀ c : Nat, c ≠ 182 → M' c = M0 c) ∧ (∀ q : Nat, q ≠ s → M' 182 q = M0 182 q) ∧ M' 182 s = cnt (pS B (s : Int)) T N := fun w hw => by
      unfold f_X12_laysSlips_L131
      simp only [letv_ap, letm_ap]
      rw [chk_pos (jin_of (by omega) (by omega) (by omega)), show (jw (s : Int)).toNat = s from jwb (by omega), show (i : Int) + 1 = ((i + 1 : Nat) : Int) by omega]
      exact ih (i + 1) k _ (by omega) (by omega) (fun c hc => by rw [jup_cell hc, hF c hc]) (fun q hqs => by rw [jup_if, if_neg hqs, hq q hqs]) (by rw [jup_if, if_pos rfl]; exact hw)
    rw [f_X12_laysSlips_L50, if_neg (by rw [jw_of (x := (N : Int)) (by omega) (by omega), jw_of (x := (i : Int)) (by omega) (by omega)]; omega)]
    simp only [letv_ap]
    rw [show 60 * (t : Int) + 3 * (i : Int) = ((60 * t + 3 * i : Nat) : Int) by omega, show ((60 * t + 3 * i : Nat) : Int) + 2 = ((60 * t + 3 * i + 2 : Nat) : Int) by omega, show ((60 * t + 3 * i : Nat) : Int) + 1 = ((60 * t + 3 * i + 1 : Nat) : Int) by omega, chk_pos (jin_of (by omega) (by omega) (by omega)), chk_pos (jin_of (by omega) (by omega) (by omega)), show (jw ((60 * t + 3 * i : Nat) : Int)).toNat = 60 * t + 3 * i from jwb (by omega), show (jw ((60 * t + 3 * i + 2 : Nat) : Int)).toNat = 60 * t + 3 * i + 2 from jwb (by omega), show (jw ((60 * t + 3 * i + 1 : Nat) : Int)).toNat = 60 * t + 3 * i + 1 from jwb (by omega), e172, e176, chk_pos (jin_w ix (by omega)), chk_pos (jin_of (by omega) (by omega) (by omega)), ix, Int.toNat_natCast, hW hh (by omega) bb bb8 (by omega), w2, jw_of (x := wh (itA (letA B (s : Int) (B 2).toNat) hh) bb) (by omega) (by omega)]
    unfold f_X12_laysSlips_L112
    simp only [letv_ap]
    by_cases c : wh (itA (letA B (s : Int) (B 2).toNat) hh) bb = (T i).2.1
    · rw [if_pos c, chk_pos (jin_of (by omega) (by omega) (by omega)), if_neg (by decide), show (jw (s : Int)).toNat = s from jwb (by omega)]
      exact go 0 (by rw [hv, cnt, ep, decide_eq_true c, if_neg (by decide)])
    · rw [if_neg c, chk_pos (jin_of (by omega) (by omega) (by omega)), if_pos (by decide), show (jw (s : Int)).toNat = s from jwb (by omega)]
      exact go 1 (by rw [hv, cnt, ep, decide_eq_false c, if_pos (by decide)])
theorem q_laysSlips_L (hf : 300 ≤ n) {B : Nat → Int} {X0 : JMem} {NV : JV} (hP : RP (blk X0 40 12) B) (hR : RN NV B) {t N : Nat} (ht : t < 4) (hN : N ≤ 20) {M0 : JMem} {T : Nat → Int × Int × Int} (hT : T = trT M0 t) (ho : ∀ j : Nat, j < N → okT (B 0) (B 2) (T j)) {N2 : Nat} (hN2 : N2 = 2 ^ (B 2).toNat) :
    ∀ (d i k : Nat) (M : JMem), i + d = N2 → d < k → keepA (M 168) 3024 = B → (M 168 = M0 168 ∨ M 168 = B) → (∀ c : Nat, c ≠ 167 → c ≠ 168 → c ≠ 176 → c ≠ 177 → c ≠ 178 → c ≠ 182 → M c = M0 c) → (∀ j : Nat, j ≠ 27 → M 167 j = M0 167 j) → (∀ s : Nat, s < i → M 182 s = slipV B (NV 0 3) T N (s : Int)) →
    ∃ M', f_X12_laysSlips_L2 n k (t : Int) (N : Int) (i : Int) M = some (0, M') ∧ keepA (M' 168) 3024 = B ∧ (M' 168 = M0 168 ∨ M' 168 = B) ∧ (∀ c : Nat, c ≠ 167 → c ≠ 168 → c ≠ 176 → c ≠ 177 → c ≠ 178 → c ≠ 182 → M' c = M0 c) ∧ (∀ j : Nat, j ≠ 27 → M' 167 j = M0 167 j) ∧ ∀ s : Nat, s < N2 → M' 182 s = slipV B (NV 0 3) T N (s : Int) := by
  have hB := SA.of hP hR
  have h2 := hB.2.2.1
  have hp := pow8 (B 2).toNat (by omega)
  obtain ⟨nb, nb9, enb⟩ := natOf (x := B 2) (k := 9) h2.1 (by omega)
  have esh : jw (jshl 1 (B 2)) = (N2 : Int) := by
    rw [enb, jshl1_nat nb (by omega), hN2, show (B 2).toNat = nb by omega]
    rw [show (B 2).toNat = nb by omega] at hp
    exact jw_of (by omega) (by omega)
  intro d
  induction d with
  | zero =>
    intro i k M hi hk hM hM2 hF h67 hs
    obtain ⟨k, rfl⟩ : ∃ q, k = q + 1 := ⟨k - 1, by omega⟩
    obtain rfl : i = N2 := by omega
    refine ⟨M, ?_, hM, hM2, hF, h67, hs⟩
    have e2 : M 168 2 = B 2 := by rw [← hM, keepA_low (by omega)]
    rw [f_X12_laysSlips_L2, chk_pos (by decide), show (jw 2).toNat = 2 by decide, e2, if_pos (by rw [esh, jw_of (x := (i : Int)) (by omega) (by omega)]; omega)]
  | succ d ih =>
    intro i k M hi hk hM hM2 hF h67 hs
    obtain ⟨k, rfl⟩ : ∃ q, k = q + 1 := ⟨k - 1, by omega⟩
    have e2 : M 168 2 = B 2 := by rw [← hM, keepA_low (by omega)]
    have si : S8 (i : Int) := ⟨by omega, by omega⟩
    have lo : ∀ q : Nat, q < 136 → jup M 182 i 1000000 168 q = B q := fun q hq => by rw [jup_cell (by omega), ← hM, keepA_low (by omega)]
    rw [f_X12_laysSlips_L2, chk_pos (by decide), show (jw 2).toNat = 2 by decide, e2, if_neg (by rw [esh, jw_of (x := (i : Int)) (by omega) (by omega)]; omega), chk_pos (jin_of (by omega) (by omega) (by omega)), show (jw (i : Int)).toNat = i from jwb (by omega)]
    simp only [letv_ap, letm_ap]
    rw [q_alive (N := NV) (by omega) (hR.low lo) (by rw [lo 2 (by omega)]; exact h2) si, bnd_some]
    by_cases c : jand (i : Int) (NV 0 3) = 0
    · obtain ⟨r, M5, k1, k2, k3, k4, k5, k6, k7⟩ := q_lettingOut (n := n) (M := jup M 182 i 1000000) (by omega) hB hP.2.2.2.2.1 (by rw [jup_cell (by omega)]; exact hM) si
      rw [if_pos c, if_neg (by decide), k1, bnd_some, chk_pos (jin_of (by omega) (by omega) (by omega))]
      have eF : ∀ a : Nat, a ≠ 167 → a ≠ 168 → a ≠ 176 → a ≠ 177 → a ≠ 178 → a ≠ 182 → jup M5 182 i 0 a = M0 a := fun a a1 a2 a3 a4 a5 a6 => by rw [jup_cell a6, k3 a a1 a2 a3 a4 a5, jup_cell a6, hF a a1 a2 a3 a4 a5 a6]
      have eT : T = trT (jup M5 182 i 0) t := by
        rw [hT]
        unfold trT
        rw [eF 172 (by omega) (by omega) (by omega) (by omega) (by omega) (by omega)]
      obtain ⟨M6, g1, g2, g3, g4⟩ := q_slips_K (n := n) (r2 := f_X12_laysSlips_L2 n k) hB hP.2.2.2.2.1 ht hN (s := i) (by omega) (M0 := jup M5 182 i 0) eT ho (fun q hq b b8 hb => by rw [jup_cell (by omega)]; exact k7 q hq b b8 hb) N 0 n (jup M5 182 i 0) (by omega) (by omega) (fun _ _ => rfl) (fun _ _ => rfl) (by rw [jup_if, if_pos rfl]; rfl)
      rw [show f_X12_laysSlips_L50 n (f_X12_laysSlips_L2 n k) n (t : Int) (N : Int) (i : Int) 0 (jup M5 182 i 0) = _ from g1]
      unfold f_X12_laysSlips_L139
      simp only [letv_ap]
      refine ih (i + 1) k M6 (by omega) (by omega) ?_ ?_ (fun a a1 a2 a3 a4 a5 a6 => by rw [g2 a a6, eF a a1 a2 a3 a4 a5 a6]) (fun j hj => by rw [g2 167 (by omega), jup_cell (by omega), k4 j hj, jup_cell (by omega), h67 j hj]) (fun s hsi => ?_)
      · rw [g2 168 (by omega), jup_cell (by omega), k2, ← hM, keepA_idem _ (by omega)]
      · right; rw [g2 168 (by omega), jup_cell (by omega), k2]
      · by_cases e : s = i
        · rw [e, g4]
          unfold slipV
          rw [if_pos c]
        · rw [g3 s e, jup_if, if_neg e, k3 182 (by omega) (by omega) (by omega) (by omega) (by omega), jup_if, if_neg e]
          exact hs s (by omega)
    · rw [if_neg c, if_pos (by decide)]
      unfold f_X12_laysSlips_L139
      simp only [letv_ap]
      refine ih (i + 1) k (jup M 182 i 1000000) (by omega) (by omega) (by rw [jup_cell (by omega)]; exact hM) (by rw [jup_cell (by omega)]; exact hM2) (fun a a1 a2 a3 a4 a5 a6 => by rw [jup_cell a6, hF a a1 a2 a3 a4 a5 a6]) (fun j hj => by rw [jup_cell (by omega), h67 j hj]) (fun s hsi => ?_)
      rw [jup_if]
      by_cases e : s = i
      · rw [if_pos e, e]
        unfold slipV
        rw [if_neg c]
      · rw [if_neg e]; exact hs s (by omega)
theorem c_hears (hf : 100 ≤ n) {np nb : Int} (hnp : 0 ≤ np ∧ np ≤ 6) (hnb : 0 ≤ nb ∧ nb ≤ 8) {T : Nat → Int × Int × Int} {N r : Nat} (hN : N ≤ 20) (hr : r < 68) (hp : M 40 0 = np ∧ M 40 2 = nb) (hT : ∀ k : Nat, k < N → T k = (jwl (M r (3 * k)), jwl (M r (3 * k + 1)), jwl (M r (3 * k + 2)))) :
    (∃ M', f_X3_hears n 40 r (N : Int) M = some (0, M') ∧ (∀ c : Nat, c < 82 ∨ 86 ≤ c → M' c = M c) ∧ ∃ j : Nat, j < N ∧ ¬ okT np nb (T j)) ∨ (∃ M', f_X3_hears n 40 r (N : Int) M = some (1, M') ∧ (∀ c : Nat, c < 82 ∨ 86 ≤ c → M' c = M c) ∧ TR np nb T N M' ∧ ∀ j : Nat, j < N → okT np nb (T j)) := by
  have h0 : TR np nb T 0 (jup M 82 0 0) := by
    refine ⟨?_, fun j hj => by omega, fun i j _ hj => by omega, fun p => rfl⟩
    rw [jup_if, if_pos rfl]; rfl
  have e := c_hears_L (n := n) hf hnp hnb hN hr (M0 := M) hp hT N 0 n (jup M 82 0 0) (by omega) (by omega) (fun c hc => jup_cell (by omega)) h0 (fun j hj => by omega)
  rw [show ((0 : Nat) : Int) = 0 from rfl] at e
  unfold f_X3_hears
  simp only [letv_ap, letm_ap]
  exact e
/-- the parrot is heard by both, or by neither -/
theorem JR.hear (h : JR M) (hf : 300 ≤ n) {x1 x2 x3 : Int} (hx1 : I32 x1) (hx2 : I32 x2) (hx3 : I32 x3) :
    (∃ w M1, 1 ≤ w ∧ w ≤ 5 ∧ f_X11_whyNotHeard n x1 x2 x3 M = some (w, M1) ∧ (∀ c : Nat, c < 82 ∨ 86 ≤ c → M1 c = M c) ∧ ∀ X : JMem, (X 168 = M 168 ∧ X 171 = M 171 ∧ X 172 = M 172) → f_X12_wrongParrot n x1 x2 x3 X = some (w, X)) ∨
    (∃ (t N : Nat) (M1 : JMem), t < 4 ∧ N ≤ 20 ∧ x1 = t ∧ x2 = N ∧ 0 ≤ x3 ∧ x3 ≤ 20 ∧ f_X11_whyNotHeard n x1 x2 x3 M = some (0, M1) ∧ (∀ c : Nat, c < 82 ∨ 86 ≤ c → M1 c = M c) ∧ TR (M 168 0) (M 168 2) (trT M t) N M1 ∧ (∀ j : Nat, j < N → okT (M 168 0) (M 168 2) (trT M t j)) ∧ ∀ X : JMem, (X 168 = M 168 ∧ X 171 = M 171 ∧ X 172 = M 172) → f_X12_wrongParrot n x1 x2 x3 X = some (0, X)) := by
  have e2 := jwI hx2
  have e3 := jwI hx3
  have c20 : jw 20 = 20 := by decide
  have nb := h.nb
  have np := h.np
  have f2 : ∀ X : JMem, f_X12_isFrom n (jw x2) 0 20 X = some (if 0 ≤ x2 ∧ x2 ≤ 20 then 1 else 0, X) := fun X => by
    rw [e2]; exact q_isFrom ⟨by have := hx2.1; omega, by have := hx2.2; omega⟩ (by omega) (by omega)
  have f3 : ∀ X : JMem, f_X12_isFrom n (jw x3) 0 20 X = some (if 0 ≤ x3 ∧ x3 ≤ 20 then 1 else 0, X) := fun X => by
    rw [e3]; exact q_isFrom ⟨by have := hx3.1; omega, by have := hx3.2; omega⟩ (by omega) (by omega)
  by_cases h1 : 0 ≤ x1 ∧ x1 < 4
  · by_cases h2 : 0 ≤ x2 ∧ x2 ≤ 20
    · by_cases h3 : 0 ≤ x3 ∧ x3 ≤ 20
      · obtain ⟨t, t4, et⟩ := natOf (x := x1) (k := 4) h1.1 h1.2
        obtain ⟨N, N20, eN⟩ := natOf (x := x2) (k := 21) h2.1 (by omega)
        have tt : ∀ _ : True, (jw x1).toNat = t := fun _ => by rw [et]; exact jwb (by omega)
        have j1 : jin x1 4 := jin_of (by omega) (by omega) (by omega)
        have j3 : ∀ _ : True, jw (3 * x2) = 3 * x2 := fun _ => jw_of (by omega) (by omega)
        have cst : f_X11_whyNotHeard n x1 x2 x3 M = bnd (f_X7_whyNotLong n x1 (3 * x2) M) fun r3 M4 => if jw r3 = 0 then (chk (jin x1 4) <| bnd (f_X3_hears n 40 (jRn 2 (jw x1).toNat) x2 M4) fun r7 M8 => if jw r7 = 0 then (some (5, M8)) else (some (0, M8))) else (some (r3, M4)) := by
          unfold f_X11_whyNotHeard
          simp only [letv_ap]
          rw [q_isTray hx1, bnd_some, if_pos h1, if_neg (by decide), if_neg (by omega), if_neg (by omega), if_neg (by omega), if_pos (by omega)]
        have rst : ∀ X : JMem, f_X12_wrongParrot n x1 x2 x3 X = if jw (X 171 t) = jw (-1) then some (2, X) else (if 3 * x2 ≤ jw (X 171 t) then f_X12_wrongParrot_L62 n n x1 x2 0 X else some (3, X)) := fun X => by
          unfold f_X12_wrongParrot
          simp only [letv_ap]
          rw [q_isTrayM hx1, bnd_some, if_pos h1, if_neg (by decide), f2, bnd_some, if_pos h2, if_neg (by decide), f3, bnd_some, if_pos h3, if_neg (by decide), chk_pos j1, tt trivial, j3 trivial]
          by_cases c : jw (X 171 t) = jw (-1)
          · rw [if_pos c, if_pos c]
          · rw [if_neg c, if_neg c, chk_pos j1]
        rcases h.tr t4 with ⟨a1, a2⟩ | ⟨b0, b1, b2, b3, b4, b5, b6⟩
        · refine Or.inl ⟨2, M, by omega, by omega, ?_, fun _ _ => rfl, fun X hX => ?_⟩
          · rw [cst]
            unfold f_X7_whyNotLong f_X7_isMissing
            rw [q_isTray hx1, bnd_some, if_pos h1, if_neg (by decide), chk_pos j1, tt trivial, a1, if_pos rfl, bnd_some, if_neg (by decide), bnd_some, if_neg (by decide)]
          · rw [rst X, hX.2.1, a2, if_pos rfl]
        · have m7 : ∀ _ : True, ¬ jw (M 7 t) = jw (-1) := fun _ => by rw [jw_of (x := M 7 t) (by omega) (by omega), show jw (-1) = -1 by decide]; omega
          have m171 : ∀ _ : True, ¬ jw (M 171 t) = jw (-1) := fun _ => by rw [b5, jw_of (x := M 8 t) (by omega) (by omega), show jw (-1) = -1 by decide]; omega
          have j8 : ∀ _ : True, jw (M 8 t) = M 8 t := fun _ => jw_of (by omega) (by omega)
          by_cases c : 3 * x2 ≤ M 8 t
          · have lng : f_X7_whyNotLong n x1 (3 * x2) M = some (0, M) := by
              unfold f_X7_whyNotLong f_X7_isMissing
              rw [q_isTray hx1, bnd_some, if_pos h1, if_neg (by decide), chk_pos j1, tt trivial, if_neg (m7 trivial), bnd_some, if_pos (by decide), chk_pos j1, j3 trivial, j8 trivial, if_pos c]
            have hT : ∀ k : Nat, k < N → trT M t k = (jwl (M (3 + t) (3 * k)), jwl (M (3 + t) (3 * k + 1)), jwl (M (3 + t) (3 * k + 2))) := fun k hk => by
              unfold trT
              rw [← jwt_eq (M := M) t t4, b6 (3 * k) (by omega) (by omega), b6 (3 * k + 1) (by omega) (by omega), b6 (3 * k + 2) (by omega) (by omega), show 60 * t + (3 * k + 1) = 60 * t + 3 * k + 1 by omega, show 60 * t + (3 * k + 2) = 60 * t + 3 * k + 2 by omega]
            have hr := c_hears (n := n) (M := M) (by omega) np.2 nb.2 (T := trT M t) (N := N) (r := 3 + t) (by omega) (by omega) ⟨np.1, nb.1⟩ hT
            have hr2 : ∀ X : JMem, (X 168 = M 168 ∧ X 171 = M 171 ∧ X 172 = M 172) → (f_X12_wrongParrot n x1 x2 x3 X = some (5, X) ∧ ∃ j : Nat, j < N ∧ ¬ okT (M 168 0) (M 168 2) (trT M t j)) ∨ (f_X12_wrongParrot n x1 x2 x3 X = some (0, X) ∧ ∀ j : Nat, j < N → okT (M 168 0) (M 168 2) (trT M t j)) := fun X hX => by
              have r := q_wrongP_L (n := n) (M := X) np.2 nb.2 t4 (N := N) (by omega) ⟨by rw [hX.1], by rw [hX.1]⟩ N 0 n (by omega) (by omega)
              rw [rst X, hX.2.1, if_neg (m171 trivial), b5, j8 trivial, if_pos c, et, eN]
              have eX : ∀ j : Nat, trT X t j = trT M t j := fun j => by
                unfold trT
                rw [hX.2.2]
              rcases r with ⟨r1, j, r2, r3, r4⟩ | ⟨r1, r2⟩
              · exact Or.inl ⟨r1, j, r3, by rw [← eX]; exact r4⟩
              · exact Or.inr ⟨r1, fun j hj => by rw [← eX]; exact r2 j (by omega) hj⟩
            rcases hr with ⟨M1, r1, r2, r3⟩ | ⟨M1, r1, r2, r3, r4⟩
            · refine Or.inl ⟨5, M1, by omega, by omega, ?_, r2, fun X hX => ?_⟩
              · rw [cst, lng, bnd_some, if_pos (by decide), chk_pos j1, tt trivial, jRn2 t t4, eN, r1, bnd_some, if_pos (by decide)]
              · rcases hr2 X hX with q | q
                · exact q.1
                · obtain ⟨j, j1, j2⟩ := r3
                  exact absurd (q.2 j j1) j2
            · refine Or.inr ⟨t, N, M1, t4, by omega, et, eN, h3.1, h3.2, ?_, r2, r3, r4, fun X hX => ?_⟩
              · rw [cst, lng, bnd_some, if_pos (by decide), chk_pos j1, tt trivial, jRn2 t t4, eN, r1, bnd_some, if_neg (by decide)]
              · rcases hr2 X hX with q | q
                · obtain ⟨j, j1, j2⟩ := q.2
                  exact absurd (r4 j j1) j2
                · exact q.1
          · refine Or.inl ⟨3, M, by omega, by omega, ?_, fun _ _ => rfl, fun X hX => ?_⟩
            · rw [cst]
              unfold f_X7_whyNotLong f_X7_isMissing
              rw [q_isTray hx1, bnd_some, if_pos h1, if_neg (by decide), chk_pos j1, tt trivial, if_neg (m7 trivial), bnd_some, if_pos (by decide), chk_pos j1, j3 trivial, j8 trivial, if_neg c, bnd_some, if_neg (by decide)]
            · rw [rst X, hX.2.1, if_neg (m171 trivial), b5, j8 trivial, if_neg c]
      · refine Or.inl ⟨1, M, by omega, by omega, ?_, fun _ _ => rfl, fun X hX => ?_⟩
        · unfold f_X11_whyNotHeard
          rw [q_isTray hx1, bnd_some, if_pos h1, if_neg (by decide), if_neg (by omega), if_neg (by omega)]
          by_cases c : x3 < 0
          · rw [if_pos (by omega)]
          · rw [if_neg (by omega), if_neg (by omega)]
        · unfold f_X12_wrongParrot
          rw [q_isTrayM hx1, bnd_some, if_pos h1, if_neg (by decide), f2, bnd_some, if_pos h2, if_neg (by decide), f3, bnd_some, if_neg h3, if_pos (by decide)]
    · refine Or.inl ⟨1, M, by omega, by omega, ?_, fun _ _ => rfl, fun X hX => ?_⟩
      · unfold f_X11_whyNotHeard
        rw [q_isTray hx1, bnd_some, if_pos h1, if_neg (by decide)]
        by_cases c : x2 < 0
        · rw [if_pos (by omega)]
        · rw [if_neg (by omega), if_pos (by omega)]
      · unfold f_X12_wrongParrot
        rw [q_isTrayM hx1, bnd_some, if_pos h1, if_neg (by decide), f2, bnd_some, if_neg h2, if_pos (by decide)]
  · refine Or.inl ⟨1, M, by omega, by omega, ?_, fun _ _ => rfl, fun X hX => ?_⟩
    · unfold f_X11_whyNotHeard
      rw [q_isTray hx1, bnd_some, if_neg h1, if_pos (by decide)]
    · unfold f_X12_wrongParrot
      rw [q_isTrayM hx1, bnd_some, if_neg h1, if_pos (by decide)]
end PSETS

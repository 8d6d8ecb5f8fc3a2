section PLETOUT
variable {n : Nat} {M : JMem}
/-! meet -/
theorem meet_L (hf : 200 ≤ n) {B : Nat → Int} (hB : SA B) {h0 m : Nat} (h5 : B 5 = h0) (hm : h0 + m = 64) {a b : Nat} (a8 : a < 8) (ha : (a : Int) < B 2) (b8 : b < 8) (hb : (b : Int) < B 2) {M0 X0 : JMem} (hP : RP (blk M0 40 12) B) (hW : ∀ k : Nat, k ≤ m → ∀ b : Nat, b < 8 → (b : Int) < B 2 → X0 176 (8 * (h0 + k) + b) = wh (itA B k) b) :
    ∀ (d j k k' : Nat) (M : JMem) (i : Nat) (t : Int), j + d = m + 1 → d < k → d < k' → t = ((h0 + j : Nat) : Int) → (∀ c : Nat, c < 68 ∨ 76 ≤ c → M c = M0 c) → RN (blk M 68 8) (itA B i) → (i = j ∨ (i + 1 = j)) → i ≤ m →
    ∃ r s M1, f_X11_meet_L34 n k (a : Int) (b : Int) t M = some (r, jup M1 0 0 s) ∧ (∀ c : Nat, c < 68 ∨ 76 ≤ c → M1 c = M0 c) ∧ ∀ X : JMem, X 176 = X0 176 → f_X12_meet_L26 n k' (a : Int) (b : Int) t X = some (r, jup X 167 2 s) := by
  have h2 := hB.2.2.1
  have c64 : ∀ _ : True, jw 64 = 64 := fun _ => by decide
  intro d
  induction d with
  | zero =>
    intro j k k' M i t hj hk hk' ht hF hR hi him
    obtain ⟨k, rfl⟩ : ∃ q, k = q + 1 := ⟨k - 1, by omega⟩
    obtain ⟨k', rfl⟩ : ∃ q, k' = q + 1 := ⟨k' - 1, by omega⟩
    have e : jw 64 < jw t := by rw [c64 trivial, jw_of (x := t) (by omega) (by omega)]; omega
    refine ⟨-1, 6, M, ?_, hF, fun X hX => ?_⟩
    · rw [f_X11_meet_L34, if_pos e]; rfl
    · rw [f_X12_meet_L26, if_pos e]; rfl
  | succ d ih =>
    intro j k k' M i t hj hk hk' ht hF hR hi him
    obtain ⟨k, rfl⟩ : ∃ q, k = q + 1 := ⟨k - 1, by omega⟩
    obtain ⟨k', rfl⟩ : ∃ q, k' = q + 1 := ⟨k' - 1, by omega⟩
    have e : ¬ jw 64 < jw t := by rw [c64 trivial, jw_of (x := t) (by omega) (by omega)]; omega
    have i5 := itA_5 B i
    have hPi : ∀ q : Nat, RP (blk M 40 12) (itA B q) := fun q => by
      rw [blk_congr (by decide) (M := M0) (M' := M) (a := 40) (z := 12) (fun j hj => hF _ (by omega))]
      exact hP.same (fun i q1 q2 => itA_ne h2 q i q1 q2)
    obtain ⟨r, M1, r1, r2, r3, r4⟩ := c_pass (n := n) (M := M) (th := 68) (p := 40) (by omega) (by omega) (hPi i) hR (m := j - i) (by rw [i5, h5]; omega) (x := t) (by rw [i5, h5, ht]; omega)
    rw [itA_add, show i + (j - i) = j by omega] at r3
    have hF1 : ∀ c : Nat, c < 68 ∨ 76 ≤ c → M1 c = M0 c := fun c hc => by rw [r2 c hc, hF c hc]
    have hPj : RP (blk M1 40 12) (itA B j) := by
      rw [blk_congr (by decide) (M := M0) (M' := M1) (a := 40) (z := 12) (fun j hj => hF1 _ (by omega))]
      exact hP.same (fun i q1 q2 => itA_ne h2 j i q1 q2)
    have i2 : itA B j 2 = B 2 := itA_ne h2 j 2 (by omega) (by omega)
    have hSj := hB.it j (by omega)
    have wa := hSj.whK a8 (by rw [i2]; exact ha)
    have wb := hSj.whK b8 (by rw [i2]; exact hb)
    have ia : ∀ (c : Nat), c < 8 → 8 * t + (c : Int) = ((8 * (h0 + j) + c : Nat) : Int) := fun c hc => by omega
    by_cases hT : 0 < wh (itA B j) a ∧ wh (itA B j) a = wh (itA B j) b
    · refine ⟨t, 0, M1, ?_, hF1, fun X hX => ?_⟩
      · rw [f_X11_meet_L34, if_neg e, r1, bnd_some, q_tog hf hPj r3 a8 (by rw [i2]; exact ha) b8 (by rw [i2]; exact hb), bnd_some, if_pos hT, if_neg (by decide)]; rfl
      · rw [f_X12_meet_L26, if_neg e, ia a a8, chk_pos (jin_of (by omega) (by omega) (by omega)), jwb (by omega), hX, hW j (by omega) a a8 ha]
        simp only [letv_ap]
        rw [jw_of (x := wh (itA B j) a) (by omega) (by omega), if_neg (by omega), ia b b8, chk_pos (jin_of (by omega) (by omega) (by omega)), jwb (by omega), hW j (by omega) b b8 hb, jw_of (x := wh (itA B j) b) (by omega) (by omega), if_pos hT.2]; rfl
    · obtain ⟨r, s, M2, g1, g2, g3⟩ := ih (j + 1) k k' M1 j (t + 1) (by omega) (by omega) (by omega) (by omega) hF1 r3 (Or.inr rfl) (by omega)
      refine ⟨r, s, M2, ?_, g2, fun X hX => ?_⟩
      · rw [f_X11_meet_L34, if_neg e, r1, bnd_some, q_tog hf hPj r3 a8 (by rw [i2]; exact ha) b8 (by rw [i2]; exact hb), bnd_some, if_neg hT, if_pos (by decide)]
        exact g1
      · rw [f_X12_meet_L26, if_neg e, ia a a8, chk_pos (jin_of (by omega) (by omega) (by omega)), jwb (by omega), hX, hW j (by omega) a a8 ha]
        simp only [letv_ap]
        rw [jw_of (x := wh (itA B j) a) (by omega) (by omega)]
        by_cases c : wh (itA B j) a ≤ 0
        · rw [if_pos c]; exact g3 X hX
        · rw [if_neg c, ia b b8, chk_pos (jin_of (by omega) (by omega) (by omega)), jwb (by omega), hW j (by omega) b b8 hb, jw_of (x := wh (itA B j) b) (by omega) (by omega), if_neg (fun q => hT ⟨by omega, q⟩)]; exact g3 X hX
theorem p_meet (hf : 200 ≤ n) : jO_meet JR n := by
  intro x1 x2 hx1 hx2 M h
  obtain ⟨h0, m, e5, em, eh, hP, hR, hB, lo⟩ := h.now
  have b2 : keepA (M 168) 3024 2 = M 168 2 := lo 2 (by omega)
  have b5 : keepA (M 168) 3024 5 = h0 := by rw [lo 5 (by omega)]; exact e5
  have nb := h.nb
  by_cases h1 : (0 ≤ x1 ∧ x1 < M 168 2) ∧ (0 ≤ x2 ∧ x2 < M 168 2) ∧ x1 ≠ x2
  · obtain ⟨a, a8, ea⟩ := natOf (x := x1) (k := 8) (by omega) (by omega)
    obtain ⟨b, b8, eb⟩ := natOf (x := x2) (k := 8) (by omega) (by omega)
    obtain ⟨M1, a1, a2, a3⟩ := c_copyRN (n := n) (M := M) (th := 68) (p := 52) (by omega) hR
    obtain ⟨X0, k1, k2, k3, k4, k5, k6⟩ := q_laysWeek (n := n) (M := M) hf hB rfl b5 em
    obtain ⟨r, s, M2, g1, g2, g3⟩ := meet_L (n := n) hf hB b5 em (a := a) (b := b) a8 (by rw [b2]; omega) b8 (by rw [b2]; omega) (M0 := M) (X0 := X0) hP k5 (m + 1) 0 n n M1 0 (h0 : Int) (by omega) (by omega) (by omega) (by omega) a2 a3 (Or.inl rfl) (by omega)
    have e68 : jup M2 0 0 s 168 = M 168 := by rw [jup_cell (by omega), g2 168 (by omega)]
    obtain ⟨X1, l1, l2, l3, l4, l5, l6⟩ := q_laysWeek (n := n) (M := jup M2 0 0 s) hf hB (by rw [e68]) b5 em
    -- the same loop, over what the reference laid out now
    obtain ⟨r', s', M2', g1', g2', g3'⟩ := meet_L (n := n) hf hB b5 em (a := a) (b := b) a8 (by rw [b2]; omega) b8 (by rw [b2]; omega) (M0 := M) (X0 := X1) hP l5 (m + 1) 0 n n M1 0 (h0 : Int) (by omega) (by omega) (by omega) (by omega) a2 a3 (Or.inl rfl) (by omega)
    rw [g1] at g1'
    have e0 := Option.some.inj g1'
    have er : r = r' := congrArg Prod.fst e0
    have es : s = s' := by
      have e1 : jup M2 0 0 s = jup M2' 0 0 s' := congrArg Prod.snd e0
      have : jup M2 0 0 s 0 0 = jup M2' 0 0 s' 0 0 := by rw [e1]
      rw [jup_at, jup_at, if_pos ⟨rfl, rfl⟩, if_pos ⟨rfl, rfl⟩] at this
      exact this
    have g4 := g3' X1 rfl
    rw [← er, ← es] at g4
    refine Pr.fin (r := r) (s := r) (M1 := jup M2 0 0 s) (M2 := jup X1 167 2 s) h ?_ ?_ rfl ((((Pf.cl g2).trans (Pf.st0 s)).trans (Pf.lays (by rw [e68]) l2 l3 l4)).trans (Pf.st2 s)) ?_
    · unfold f_X11_meet
      rw [h.two hx1 hx2, bnd_some, if_pos h1, if_neg (by decide), a1, bnd_some]
      simp only [letv_ap]
      rw [show M1 52 1 = (h0 : Int) by rw [a2 52 (by omega)]; exact eh, ea, eb]
      exact g1
    · unfold f_X12_meet
      rw [h.twoM hx1 hx2 (jup M2 0 0 s) e68, bnd_some, if_pos h1, if_neg (by decide), l1, bnd_some, chk_pos (by decide), show (jw 5).toNat = 5 by decide]
      simp only [letv_ap]
      rw [l2, b5, ea, eb]
      exact g4
    · rw [jup_cell (by omega), l3 0 (by omega) (by omega) (by omega) (by omega) (by omega), jup_at, if_pos ⟨rfl, rfl⟩, jup_at, if_pos ⟨rfl, rfl⟩]
  · refine Pr.end (r := -1) (s := -1) (x := 1) (y := 1) h ?_ ?_ rfl rfl
    · unfold f_X11_meet
      rw [h.two hx1 hx2, bnd_some, if_neg h1, if_pos (by decide)]; rfl
    · unfold f_X12_meet
      rw [h.twoM hx1 hx2 (jup M 0 0 1) rfl, bnd_some, if_neg h1, if_pos (by decide)]; rfl
/-! letting out -/
theorem upB_upA {A : Nat → Int} {f k q : Nat} {v : Nat → Int} {w : Int} (h : ∀ b : Nat, b < k → q ≠ f + 10 * b) : upB (upA A q w) f k v = upA (upB A f k v) q w := by
  funext i
  unfold upB
  rw [upA_at, upA_at]
  by_cases c : f ≤ i ∧ (i - f) % 10 = 0 ∧ (i - f) / 10 < k
  · rw [if_pos c, if_neg (fun e => h ((i - f) / 10) c.2.2 (by omega)), if_pos c]
  · rw [if_neg c]
    by_cases e : i = q
    · rw [if_pos e, if_pos e]
    · rw [if_neg e, if_neg e, if_neg c]
def letA (A : Nat → Int) (x : Int) (k : Nat) : Nat → Int := upB (upB (upA A 5 0) 63 k (fun _ => 0)) 58 k (b01 x)
theorem letA_63 {A : Nat → Int} {x : Int} {k b : Nat} (h : b < k) : letA A x k (63 + 10 * b) = 0 := by
  unfold letA
  rw [upB_ne (by omega), upB_at h]
theorem letA_58 {A : Nat → Int} {x : Int} {k b : Nat} (h : b < k) : letA A x k (58 + 10 * b) = b01 x b := upB_at h
theorem letA_5 {A : Nat → Int} {x : Int} {k : Nat} : letA A x k 5 = 0 := by
  unfold letA
  rw [upB_ne (by omega), upB_ne (by omega), upA_same]
theorem letA_ne {A : Nat → Int} {x : Int} {k i : Nat} (h5 : i ≠ 5) (h : ∀ b : Nat, b < k → i ≠ 58 + 10 * b ∧ i ≠ 63 + 10 * b) : letA A x k i = A i := by
  unfold letA
  rw [upB_ne (fun b hb => (h b hb).1), upB_ne (fun b hb => (h b hb).2), upA_ne h5]
theorem letA_succ {A : Nat → Int} {x : Int} {k : Nat} : letA A x (k + 1) = upA (upA (letA A x k) (63 + 10 * k) 0) (58 + 10 * k) (b01 x k) := by
  unfold letA
  rw [upB_succ _ 58, upB_succ _ 63, upB_upA (by omega)]
theorem SA.letK {A : Nat → Int} (h : SA A) {x : Int} {k : Nat} (hk : k = (A 2).toNat) (h0 : 0 < A 2 → 0 < A 0) : SA (letA A x k) := by
  have h2 := h.2.2.1
  have h1 := h.1
  refine h.mk2 (fun i i4 i5 hi => letA_ne i5 (fun b hb => ⟨(hi b (by omega)).1, (hi b (by omega)).2.2.2.1⟩)) (by rw [letA_ne (by omega) (by omega)]; exact h.2.2.2.1) (by rw [letA_5]; omega) (fun b b8 hb => ?_)
  have r := h.2.2.2.2.2.2 b b8 hb
  have := b01_range x b
  rw [letA_58 (by omega), letA_63 (by omega), letA_ne (i := 59 + 10 * b) (by omega) (by omega)]
  exact ⟨by omega, r.2.1, fun _ => Or.inl (by omega)⟩
theorem q_lets_L {r : JMem → Option (Int × JMem)} (hr : ∀ X, f_X12_lettingOut_L70 n X = r X) {x : Int} (hx : S8 x) {A : Nat → Int} (h2 : 0 ≤ A 2 ∧ A 2 ≤ 8) : ∀ (d i k : Nat) (M : JMem), i + d = (A 2).toNat → d < k → M 168 = letA A x i → f_X12_lettingOut_L16 n k x (i : Int) M = r (jrow M 168 (letA A x (A 2).toNat)) := by
  intro d
  induction d with
  | zero =>
    intro i k M hi hk hM
    obtain ⟨k, rfl⟩ : ∃ q, k = q + 1 := ⟨k - 1, by omega⟩
    have e2 : M 168 2 = A 2 := by rw [hM]; exact letA_ne (by omega) (by omega)
    rw [f_X12_lettingOut_L16, chk_pos (by decide), show (jw 2).toNat = 2 by decide, e2, if_pos (by rw [jw_of (x := A 2) (by omega) (by omega), jw_of (x := (i : Int)) (by omega) (by omega)]; omega), hr, show (A 2).toNat = i by omega, ← hM, jrow_self]
  | succ d ih =>
    intro i k M hi hk hM
    obtain ⟨k, rfl⟩ : ∃ q, k = q + 1 := ⟨k - 1, by omega⟩
    have i8 : i < 8 := by omega
    have e2 : M 168 2 = A 2 := by rw [hM]; exact letA_ne (by omega) (by omega)
    have go : ∀ w : Int, w = b01 x i → f_X12_lettingOut_L63 n (f_X12_lettingOut_L16 n k) x (i : Int) (56 + 10 * (i : Int) + 2) w (jup M 168 (63 + 10 * i) 0) = r (jrow M 168 (letA A x (A 2).toNat)) := fun w hw => by
      unfold f_X12_lettingOut_L63
      simp only [letv_ap, letm_ap]
      rw [chk_pos (ixj2 i8), ixb2 i8, jup2, hM, hw, ← letA_succ, show (i : Int) + 1 = ((i + 1 : Nat) : Int) by omega, ih (i + 1) k _ (by omega) (by omega) (jrow_same _ _), jrow_jrow]
    rw [f_X12_lettingOut_L16, chk_pos (by decide), show (jw 2).toNat = 2 by decide, e2, if_neg (by rw [jw_of (x := A 2) (by omega) (by omega), jw_of (x := (i : Int)) (by omega) (by omega)]; omega), q_beastRow, bnd_some, chk_pos (ixj7 i8), ixb7 i8]
    simp only [letv_ap, letm_ap]
    rw [q_beastRow, bnd_some, q_isInM hx i8, bnd_some]
    by_cases c : bit x i = true
    · rw [if_pos c, if_neg (by decide)]
      exact go 1 (by unfold b01; rw [if_pos c])
    · rw [if_neg c, if_pos (by decide)]
      exact go 0 (by unfold b01; rw [if_neg c])
theorem q_lettingOut (hf : 200 ≤ n) {B : Nat → Int} (hB : SA B) (h0 : 0 < B 2 → 0 < B 0) (hM : keepA (M 168) 3024 = B) {x : Int} (hx : S8 x) : ∃ r M', f_X12_lettingOut n x M = some (r, M') ∧ M' 168 = B ∧ (∀ c : Nat, c ≠ 167 → c ≠ 168 → c ≠ 176 → c ≠ 177 → c ≠ 178 → M' c = M c) ∧ (∀ j : Nat, j ≠ 27 → M' 167 j = M 167 j) ∧ S8 r ∧ (∀ b : Nat, b < 8 → (bit r b = true ↔ itA (letA B x (B 2).toNat) 64 (59 + 10 * b) = 1 ∧ ¬ letA B x (B 2).toNat (59 + 10 * b) = 1)) ∧
    (∀ k : Nat, k ≤ 64 → ∀ b : Nat, b < 8 → (b : Int) < B 2 → M' 176 (8 * k + b) = wh (itA (letA B x (B 2).toNat) k) b) := by
  have h2 := hB.2.2.1
  have k1 := q_keeps (n := n) (M := M) (t := 3024) hf (by omega) (by omega)
  rw [hM] at k1
  have l2 : letA B x (B 2).toNat 2 = B 2 := letA_ne (by omega) (by omega)
  have l5 : letA B x (B 2).toNat 5 = ((0 : Nat) : Int) := letA_5
  have hS := hB.letK (x := x) rfl h0
  obtain ⟨r, M', r1, r2, r3, r4, r5, r6, r7, r8, r9, r10⟩ := q_laysOn (n := n) (M := jrow M 168 (letA B x (B 2).toNat)) hf (by rw [jrow_same]; exact hS) (h0 := 0) (m := 64) (by rw [jrow_same]; exact l5) (by omega)
  rw [jrow_same] at r2 r6 r7 r8 r10
  have eB : restA (letA B x (B 2).toNat) 3024 = B := by
    have := restA_keep (A := M 168) (B := letA B x (B 2).toNat) (t := 3024) (by omega) (fun i hi => by rw [hM]; exact letA_ne (by omega) (by omega))
    rw [this, hM]
  have kl := q_lets_L (n := n) (r := f_X12_lettingOut_L70 n) (fun X => rfl) hx (A := B) h2 (B 2).toNat 0 n (jrow M 168 (upA B 5 0)) (by omega) (by omega) (by
    rw [jrow_same]
    unfold letA
    rw [upB_0, upB_0])
  rw [jrow_jrow] at kl
  refine ⟨r, M', ?_, by rw [r2, eB], fun c c1 c2 c3 c4 c5 => by rw [r3 c c1 c2 c3 c4 c5, jrow_ne _ c2], fun j hj => by rw [r4 j hj, jrow_ne _ (by omega)], r5, r6, fun k hk b b8 hb => ?_⟩
  · unfold f_X12_lettingOut
    rw [show f_X12_keeps n 3024 M = _ from k1, bnd_some, chk_pos (by decide), show (jw 5).toNat = 5 by decide]
    simp only [letv_ap, letm_ap]
    rw [jup_row_up, show f_X12_lettingOut_L16 n n x 0 (jrow M 168 (upA B 5 0)) = _ from kl]
    unfold f_X12_lettingOut_L70
    rw [r1, bnd_some]
  · by_cases c : k = 64
    · rw [c]; exact r8 b b8 (by rw [l2]; exact hb)
    · have := r7.1 k (by omega) b b8 (by rw [l2]; exact hb)
      rw [Nat.zero_add] at this
      exact this
theorem c_letOut (hf : 200 ≤ n) {A : Nat → Int} (hP : RP (blk M 40 12) A) (hR : RN (blk M 52 8) A) {x : Int} (hx : S8 x) (hx2 : ∀ b : Nat, b < 8 → bit x b = true → (b : Int) < A 2) : ∃ M', f_X1_letOut n 68 40 52 x M = some (0, M') ∧ (∀ c : Nat, c < 68 ∨ 76 ≤ c → M' c = M c) ∧ RN (blk M' 68 8) (letA A x (A 2).toNat) := by
  have hA := SA.of hP hR
  have h2 := hA.2.2.1
  obtain ⟨M1, a1, a2, a3⟩ := c_copyRN (n := n) (M := M) (th := 68) (p := 52) (by omega) hR
  have e2 : M1 40 2 = A 2 := by rw [a2 40 (by omega)]; exact hP.2.2.1.1
  have r3 : S8 (M1 68 3) ∧ ∀ b : Nat, b < 8 → (bit (M1 68 3) b = true ↔ (b : Int) < A 2 ∧ A (59 + 10 * b) = 1) := a3.heads.2.2.2.1
  obtain ⟨M3, k1, k2, k3, k4, k5, k6, k7, k8⟩ := c_cage (n := n) (M := M1) (th := 68) (p := 40) (by omega) (by omega) (by rw [e2]; exact h2) r3.1
  obtain ⟨l1, l2, l3, l4⟩ := a3.lates
  have t3 : ∀ j : Nat, j ≠ 1 → j ≠ 2 → blk (jup M3 68 2 x) 68 8 0 j = blk M1 68 8 0 j := fun j j1 j2 => by
    rw [blk_at (by omega), blk_at (by omega), jup_at, if_neg (by omega)]
    exact k3 j j1
  have c2' : blk (jup M3 68 2 x) 68 8 2 = blk M1 68 8 2 := funext fun k => by rw [blk_at (by omega), blk_at (by omega), jup_cell (by omega), k2 _ (by omega) (by omega) (by omega)]
  have ne : ∀ i : Nat, i ≠ 5 → (∀ b : Nat, b < 8 → i ≠ 58 + 10 * b ∧ i ≠ 63 + 10 * b) → letA A x (A 2).toNat i = A i := fun i i5 hi => letA_ne i5 (fun b hb => hi b (by omega))
  refine ⟨jup M3 68 2 x, ?_, fun c hc => by rw [jup_cell (by omega), k2 c (by omega) (by omega) (by omega), a2 c hc], ?_⟩
  · unfold f_X1_letOut
    rw [a1, bnd_some, k1, bnd_some]
    rfl
  · refine RN.cage a3 hP.2.2.2.2.1 (funext fun k => ?_) (t3 3 (by omega) (by omega)) (t3 4 (by omega) (by omega)) ⟨?_, ?_, ?_⟩ ⟨?_, letA_5⟩ ⟨?_, fun b b8 => ?_⟩ (fun b b8 hb => ?_) (fun b b8 hb => ?_) (fun b b8 hb => ?_) (fun b b8 => ?_) ?_ ⟨?_, fun b b8 => ?_⟩ (fun q q0 q6 => ?_) (fun t t8 => ?_) (fun b b8 hb he => letA_63 (by omega)) ⟨ne 0 (by omega) (by omega), ne 1 (by omega) (by omega), ne 2 (by omega) (by omega)⟩ (fun b b8 => ⟨ne _ (by omega) (by omega), ne _ (by omega) (by omega)⟩) (fun t t8 => ne _ (by omega) (by omega))
    · rw [blk_at (by omega), blk_at (by omega), jup_cell (by omega), k2 _ (by omega) (by omega) (by omega)]
    · rw [t3 0 (by omega) (by omega), ne 4 (by omega) (by omega)]; exact a3.heads.1.1
    · rw [ne 4 (by omega) (by omega)]; exact hA.2.2.2.1.1
    · rw [ne 4 (by omega) (by omega)]; exact hA.2.2.2.1.2
    · rw [blk_at (by omega), jup_at, if_neg (by omega)]; exact k4
    · rw [blk_at (by omega), jup_at, if_pos ⟨rfl, rfl⟩]; exact hx
    · rw [blk_at (by omega), jup_at, if_pos ⟨rfl, rfl⟩]
      constructor
      · intro q
        have hb := hx2 b b8 q
        rw [letA_58 (by omega)]
        unfold b01
        rw [if_pos q]; exact ⟨hb, rfl⟩
      · rintro ⟨hb, q⟩
        rw [letA_58 (by omega)] at q
        unfold b01 at q
        by_cases c : bit x b = true
        · exact c
        · rw [if_neg c] at q; omega
    · rw [letA_58 (by omega)]
      have := b01_range x b
      omega
    · rw [c2', ne (60 + 10 * b) (by omega) (by omega)]; exact l1 b b8 hb
    · rw [c2']; exact l2 b b8 hb
    · rw [c2', ne 4 (by omega) (by omega)]; exact l3 b b8
    · rw [c2', ne 6 (by omega) (by omega)]; exact l4
    · rw [blk_at (by omega), jup_cell (by omega)]; exact k7
    · rw [blk_at (by omega), jup_cell (by omega), k8 b b8, e2, r3.2 b b8]
      exact ⟨fun q => ⟨q.1, fun w => q.2 ⟨q.1, w⟩⟩, fun q => ⟨q.1, fun w => q.2 w.2⟩⟩
    · rw [blk_at (by omega), jup_cell (by omega)]; exact k6 q q0 q6
    · rw [blk_at (by omega), jup_cell (by omega)]; exact k5 t t8
theorem c_outside (hf : 200 ≤ n) {A : Nat → Int} (hP : RP (blk M 40 12) A) (hR : RN (blk M 52 8) A) {x : Int} (hx : S8 x) (hx2 : ∀ b : Nat, b < 8 → bit x b = true → (b : Int) < A 2) : ∃ r M', f_X11_eatenOutside n x M = some (r, M') ∧ (∀ c : Nat, c < 68 ∨ 76 ≤ c → M' c = M c) ∧ S8 r ∧ ∀ b : Nat, b < 8 → (bit r b = true ↔ itA (letA A x (A 2).toNat) 64 (59 + 10 * b) = 1 ∧ ¬ letA A x (A 2).toNat (59 + 10 * b) = 1) := by
  obtain ⟨M1, a1, a2, a3⟩ := c_letOut (n := n) hf hP hR hx hx2
  have l5 : letA A x (A 2).toNat 5 = 0 := letA_5
  have hA := SA.of hP hR
  have h2 := hA.2.2.1
  have hP1 : RP (blk M1 40 12) (letA A x (A 2).toNat) := by
    rw [blk_congr (by decide) (M := M) (M' := M1) (a := 40) (z := 12) (fun j hj => a2 _ (by omega))]
    exact hP.congr2 (fun k hk => letA_ne (by omega) (by omega)) (fun t k ht hk => letA_ne (by omega) (by omega)) (fun b hb => ⟨letA_ne (by omega) (by omega), letA_ne (by omega) (by omega), letA_ne (by omega) (by omega)⟩)
  obtain ⟨r, M2, b1, b2, b3, b4, b5, b6⟩ := c_pass (n := n) (M := M1) (th := 68) (p := 40) (by omega) (by omega) hP1 a3 (m := 64) (by omega) (x := 64) (by omega)
  refine ⟨r, M2, ?_, fun c hc => by rw [b2 c hc, a2 c hc], b5, b6⟩
  unfold f_X11_eatenOutside
  rw [a1, bnd_some, b1, bnd_some]
end PLETOUT

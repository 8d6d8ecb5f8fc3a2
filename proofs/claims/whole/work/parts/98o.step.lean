section PSTEP
variable {n : Nat} {M X : JMem}
/-! a STEP and where it goes on -/
theorem ir0 {k : Nat} (h : k < 60) : (jw (136 + 6 * (k : Int))).toNat = 136 + 6 * k := by
  rw [jw_of (by omega) (by omega)]; omega
theorem ij0 {k : Nat} (h : k < 60) : jin (136 + 6 * (k : Int)) 3160 := jin_of (by omega) (by omega) (by omega)
theorem ir1 {k : Nat} (h : k < 60) : (jw (136 + 6 * (k : Int) + 1)).toNat = 137 + 6 * k := by
  rw [jw_of (by omega) (by omega)]; omega
theorem ij1 {k : Nat} (h : k < 60) : jin (136 + 6 * (k : Int) + 1) 3160 := jin_of (by omega) (by omega) (by omega)
theorem ir2 {k : Nat} (h : k < 60) : (jw (136 + 6 * (k : Int) + 2)).toNat = 138 + 6 * k := by
  rw [jw_of (by omega) (by omega)]; omega
theorem ij2 {k : Nat} (h : k < 60) : jin (136 + 6 * (k : Int) + 2) 3160 := jin_of (by omega) (by omega) (by omega)
theorem ir4 {k : Nat} (h : k < 60) : (jw (136 + 6 * (k : Int) + 4)).toNat = 140 + 6 * k := by
  rw [jw_of (by omega) (by omega)]; omega
theorem ij4 {k : Nat} (h : k < 60) : jin (136 + 6 * (k : Int) + 4) 3160 := jin_of (by omega) (by omega) (by omega)
theorem ir5 {k : Nat} (h : k < 60) : (jw (136 + 6 * (k : Int) + 5)).toNat = 141 + 6 * k := by
  rw [jw_of (by omega) (by omega)]; omega
theorem ij5 {k : Nat} (h : k < 60) : jin (136 + 6 * (k : Int) + 5) 3160 := jin_of (by omega) (by omega) (by omega)
def WJ (M : JMem) (A : Nat → Int) : Prop :=
  M 60 0 = 1 ∧ A 7 = M 60 2 ∧ 0 ≤ M 60 2 ∧ M 60 2 ≤ 60 ∧ (∀ k : Nat, k < 60 → (k : Int) < M 60 2 → Rrow (M 40 2) (M 40 1) (M 40 0) (M 60 2) (blk M 60 5) A k) ∧
    (∀ k : Nat, k < 60 → (k : Int) < M 60 2 → opens (blk M 60 5) k → ∃ e : Nat, M 64 k = e ∧ A (140 + 6 * k) = e ∧ k < e ∧ (e : Int) < M 60 2 ∧ M 61 e = 25 ∧ M 64 e = k) ∧
    (∀ e : Nat, e < 60 → (e : Int) < M 60 2 → M 61 e = 25 → ∃ k : Nat, M 64 e = k ∧ A (140 + 6 * e) = k ∧ k < e ∧ opens (blk M 60 5) k ∧ M 64 k = e) ∧
    (∀ k j : Nat, k < j → (j : Int) < M 64 k → (k : Int) < M 60 2 → opens (blk M 60 5) k → opens (blk M 60 5) j → M 64 j < M 64 k)
theorem RW.wj {A : Nat → Int} (h : RW (M 40 2) (M 40 1) (M 40 0) (blk M 60 5) A) (h1 : M 60 0 = 1) : WJ M A := by
  unfold RW at h
  rcases h with h | h
  · have : M 60 0 = 0 := h.1
    omega
  · exact h
theorem bw1 (k : Nat) : blk M 60 5 1 k = M 61 k := rfl
theorem bw2 (k : Nat) : blk M 60 5 2 k = M 62 k := rfl
theorem bw3 (k : Nat) : blk M 60 5 3 k = M 63 k := rfl
theorem op_of {k : Nat} : opens (blk M 60 5) k ↔ 21 ≤ M 61 k ∧ M 61 k ≤ 24 := Iff.rfl
theorem WJ.mv {M' : JMem} {A A' : Nat → Int} (h : WJ M A) (h1 : ∀ c : Nat, c = 40 ∨ (60 ≤ c ∧ c < 65) → M' c = M c) (h2 : ∀ i : Nat, i = 7 ∨ 136 ≤ i → A' i = A i) : WJ M' A' := by
  unfold WJ at h ⊢
  rw [blk_congr (by decide) (M := M) (a := 60) (z := 5) (fun j hj => h1 _ (by omega)), h1 60 (by omega), h1 61 (by omega), h1 64 (by omega), h1 40 (by omega), h2 7 (by omega)]
  obtain ⟨a1, a2, a3, a4, a5, a6, a7, a8⟩ := h
  refine ⟨a1, a2, a3, a4, fun k k6 hk => (a5 k k6 hk).congr2 fun j hj => h2 _ (by omega), fun k k6 hk ho => ?_, fun e e6 he hw => ?_, a8⟩
  · rw [h2 (140 + 6 * k) (by omega)]; exact a6 k k6 hk ho
  · rw [h2 (140 + 6 * e) (by omega)]; exact a7 e e6 he hw
def LVC (th nw : Nat) (M M' : JMem) : Prop := (∀ c : Nat, c ≠ th → c ≠ th + 1 → c ≠ th + 2 → c < nw ∨ nw + 8 ≤ c → M' c = M c) ∧ M' th 0 = M th 0
def XVC (X X' : JMem) : Prop := (∀ c : Nat, c ≠ 167 → c ≠ 168 → c ≠ 183 → c ≠ 184 → X' c = X c) ∧ (∀ j : Nat, j ≠ 32 → X' 167 j = X 167 j) ∧ ∀ i : Nat, i = 7 ∨ 136 ≤ i → X' 168 i = X 168 i
theorem LF.lc {th nw : Nat} {M' : JMem} (h : LF th nw M M') : LVC th nw M M' := ⟨fun c c1 c2 _ c4 => h.1 c c1 c2 c4, h.2 0 (by omega)⟩
theorem XF.xc {X' : JMem} (h : XF X X') : XVC X X' := ⟨fun c c1 c2 _ c4 => h.1 c c1 c2 c4, h.2.1, h.2.2.1⟩
def LStep (n th nw k : Nat) (M X : JMem) : Prop := ∃ (k1 : Nat) (M' X' : JMem),
  (∀ (v5 : Int) (r : Int → JMem → Option (Int × JMem)), (bnd (f_X0_isDone n th 40 nw 60 (k : Int) M) fun r4 M5 => if jw r4 = 0 then (chk (jin 0 5) <| chk (jin 0 5) <| letm (jup M5 (th + 1) (jw 0).toNat ((M5 (th + 1) (jw 0).toNat) + 1)) fun M6 => f_X0_run_L146 n th 40 nw 60 r v5 M6) else (f_X0_run_L146 n th 40 nw 60 r v5 M5)) = r (v5 + 1) M') ∧
  (∀ r : Int → JMem → Option (Int × JMem), (bnd (f_X12_does n (136 + 6 * (k : Int)) X) fun r3 M4 => if jw r3 = 0 then (f_X12_lives_L112 n r (k : Int) (136 + 6 * (k : Int)) 0 (X 184 (jw 0).toNat) 1 M4) else (f_X12_lives_L112 n r (k : Int) (136 + 6 * (k : Int)) 0 (X 184 (jw 0).toNat) 0 M4)) = bnd (f_X12_behindEnds n (k1 : Int) X') r) ∧
  M' th 3 = k1 ∧ LJ th nw M' X' ∧ LVC th nw M M' ∧ XVC X X' ∧ (k1 = k + 1 ∨ ((21 ≤ M 61 k ∧ M 61 k ≤ 23) ∧ (k1 : Int) = M 64 k + 1)) ∧
  (∀ j : Nat, M' (th + 2) j = if M 61 k = 24 ∧ j = k then M 62 k else M (th + 2) j) ∧ (∀ j : Nat, X' 183 j = if M 61 k = 24 ∧ j = k then M 62 k - 1 else X 183 j) ∧ (M 61 k = 24 → 1 ≤ M 62 k ∧ M 62 k ≤ 99)
theorem q_178 {r : Int → JMem → Option (Int × JMem)} {w : Int} : f_X12_lives_L178 n r w X = bnd (f_X12_behindEnds n w X) r := by
  unfold f_X12_lives_L178
  simp only [letv_ap]
theorem q_141 {r : Int → JMem → Option (Int × JMem)} {k : Nat} (hk : k < 60) {v : Int} (hv : X 168 (136 + 6 * k) = v) (hv2 : jw v < jw 2000) : f_X12_lives_L141 n r (k : Int) (136 + 6 * (k : Int)) X = bnd (f_X12_behindEnds n ((k + 1 : Nat) : Int) X) r := by
  unfold f_X12_lives_L141 f_X12_lives_L175
  rw [chk_pos (ij0 hk), ir0 hk, hv, if_pos hv2, q_178, show (k : Int) + 1 = ((k + 1 : Nat) : Int) by omega]
theorem q_112 {r : Int → JMem → Option (Int × JMem)} {k : Nat} (hk : k < 60) {v a w : Int} (hv : X 168 (136 + 6 * k) = v) (h21 : ¬ jw v = jw 21) : f_X12_lives_L112 n r (k : Int) (136 + 6 * (k : Int)) 0 a w X = f_X12_lives_L141 n r (k : Int) (136 + 6 * (k : Int)) (jup X 184 0 (a + w)) := by
  unfold f_X12_lives_L112
  simp only [letm_ap, jn0]
  rw [chk_pos (by decide), chk_pos (ij0 hk), ir0 hk, show jup X 184 0 (a + w) 168 (136 + 6 * k) = v by rw [jup_cell (by omega)]; exact hv, if_neg h21]
theorem LJ.cnt {th nw : Nat} (ht : LT th nw) (h : LJ th nw M X) {a b : Int} (hab : a = b) : LJ th nw (jup M (th + 1) 0 a) (jup X 184 0 b) := by
  unfold LT at ht
  obtain ⟨hP, hR, hd, hk⟩ := h
  refine ⟨?_, ?_, ?_, fun k k5 => ?_⟩
  · rw [jup_cell (by omega), blk_jup_row (fun j hj => by omega) (by decide)]; exact hP
  · rw [jup_cell (by omega), blk_jup_row (fun j hj => by omega) (by decide)]; exact hR
  · rw [jup_cell (by omega), jup_cell (by omega)]; exact hd
  · rw [jup_if, jup_if, hab, hk k k5]
theorem LJ.cntX {th nw : Nat} (h : LJ th nw M X) {b : Int} (hb : b = X 184 0) : LJ th nw M (jup X 184 0 b) := by
  obtain ⟨hP, hR, hd, hk⟩ := h
  refine ⟨?_, ?_, ?_, fun k k5 => ?_⟩
  · rw [jup_cell (by omega)]; exact hP
  · rw [jup_cell (by omega)]; exact hR
  · rw [jup_cell (by omega)]; exact hd
  · rw [jup_if, hb]
    by_cases e : k = 0
    · rw [if_pos e, e]; exact hk 0 (by omega)
    · rw [if_neg e]; exact hk k k5
theorem LVS.step {th nw k : Nat} (ht : LT th nw) (hk : k < 60) (hL : LVS th nw (f_X0_isDone n th 40 nw 60 (k : Int)) (f_X12_does n (136 + 6 * (k : Int))) M X) {v : Int} (hv : X 168 (136 + 6 * k) = v) (h21 : ¬ jw v = jw 21) (hv2 : jw v < jw 2000) (h24 : ¬ M 61 k = 24) (h3 : M th 3 = ((k + 1 : Nat) : Int)) : LStep n th nw k M X := by
  have ht' := ht
  unfold LT at ht'
  obtain ⟨r, M1, X1, e1, e2, hr, hJ, hF, hX⟩ := hL
  have hv1 : X1 168 (136 + 6 * k) = v := by rw [hX.2.2.1 _ (by omega)]; exact hv
  have f2 : ∀ j : Nat, M1 (th + 2) j = if M 61 k = 24 ∧ j = k then M 62 k else M (th + 2) j := fun j => by rw [if_neg (fun q => h24 q.1), hF.1 (th + 2) (by omega) (by omega) (by omega)]
  have x2 : ∀ j : Nat, X1 183 j = if M 61 k = 24 ∧ j = k then M 62 k - 1 else X 183 j := fun j => by rw [if_neg (fun q => h24 q.1), hX.1 183 (by omega) (by omega) (by omega)]
  rcases hr with rfl | rfl
  · refine ⟨k + 1, jup M1 (th + 1) 0 (M1 (th + 1) 0 + 1), jup X1 184 0 (X 184 0 + 1), fun v5 r => ?_, fun r => ?_, ?_, hJ.cnt ht ?_, ⟨fun c c1 c2 c3 c4 => ?_, ?_⟩, ⟨fun c c1 c2 c3 c4 => ?_, fun j hj => ?_, fun i hi => ?_⟩, Or.inl rfl, fun j => ?_, fun j => ?_, fun q => absurd q h24⟩
    · unfold f_X0_run_L146
      simp only [letv_ap, letm_ap, jn0]
      rw [e1, bnd_some, if_pos (by decide), chk_pos (by decide), chk_pos (by decide)]
    · rw [e2, bnd_some, if_pos (by decide), jn0, q_112 hk hv1 h21, q_141 hk (v := v) (by rw [jup_cell (by omega)]; exact hv1) hv2]
    · rw [jup_cell (by omega), hF.2 3 (by omega)]; exact h3
    · rw [hJ.2.2.2 0 (by omega), hX.2.2.2]
    · rw [jup_cell c2]; exact hF.1 c c1 c2 c4
    · rw [jup_cell (by omega)]; exact hF.2 0 (by omega)
    · rw [jup_cell c4]; exact hX.1 c c1 c2 c4
    · rw [jup_cell (by omega)]; exact hX.2.1 j hj
    · rw [jup_cell (by omega)]; exact hX.2.2.1 i hi
    · rw [jup_cell (by omega)]; exact f2 j
    · rw [jup_cell (by omega)]; exact x2 j
  · refine ⟨k + 1, M1, jup X1 184 0 (X 184 0 + 0), fun v5 r => ?_, fun r => ?_, ?_, hJ.cntX ?_, hF.lc, ⟨fun c c1 c2 c3 c4 => ?_, fun j hj => ?_, fun i hi => ?_⟩, Or.inl rfl, f2, fun j => ?_, fun q => absurd q h24⟩
    · unfold f_X0_run_L146
      simp only [letv_ap]
      rw [e1, bnd_some, if_neg (by decide)]
    · rw [e2, bnd_some, if_neg (by decide), jn0, q_112 hk hv1 h21, q_141 hk (v := v) (by rw [jup_cell (by omega)]; exact hv1) hv2]
    · rw [hF.2 3 (by omega)]; exact h3
    · rw [hX.2.2.2, Int.add_zero]
    · rw [jup_cell c4]; exact hX.1 c c1 c2 c4
    · rw [jup_cell (by omega)]; exact hX.2.1 j hj
    · rw [jup_cell (by omega)]; exact hX.2.2.1 i hi
    · rw [jup_cell (by omega)]; exact x2 j
theorem LVS.ck {th nw : Nat} {f g f' g' : JMem → Option (Int × JMem)} (h : LVS th nw f g M X) (e1 : f' M = bnd (f M) fun r M' => chk (jw r = 0 ∨ jw r = 1) (some (r, M'))) (e2 : g' X = bnd (g X) fun r M' => chk (jw r = 0 ∨ jw r = 1) (some (r, M'))) : LVS th nw f' g' M X := by
  obtain ⟨r, M1, X1, a1, a2, hr, h1⟩ := h
  have hc : jw r = 0 ∨ jw r = 1 := by rcases hr with rfl | rfl <;> decide
  exact ⟨r, M1, X1, by rw [e1, a1, bnd_some, chk_pos hc], by rw [e2, a2, bnd_some, chk_pos hc], hr, h1⟩
theorem LVS.ck2 {th nw : Nat} {f g f' g' : JMem → Option (Int × JMem)} (h : LVS th nw f g M X) (e1 : f' M = f M) (e2 : g' X = bnd (g X) fun r M' => chk (jw r = 0 ∨ jw r = 1) (some (r, M'))) : LVS th nw f' g' M X := by
  obtain ⟨r, M1, X1, a1, a2, hr, h1⟩ := h
  have hc : jw r = 0 ∨ jw r = 1 := by rcases hr with rfl | rfl <;> decide
  exact ⟨r, M1, X1, by rw [e1, a1], by rw [e2, a2, bnd_some, chk_pos hc], hr, h1⟩
/-- the test of a when -/
theorem lv_so {th nw : Nat} (ht : LT th nw) (h : LJ th nw M X) {k : Nat} (hk : k < 60) (hr : Rrow (M 40 2) (M 40 1) (M 40 0) (M 60 2) (blk M 60 5) (X 168) k) (hw : 21 ≤ M 61 k ∧ M 61 k ≤ 23) : ∃ r, f_X0_isSo n th nw 60 (k : Int) M = some (r, M) ∧ f_X12_holds n (136 + 6 * (k : Int)) X = some (r, X) ∧ (r = 0 ∨ r = 1) ∧ 2000 ≤ X 168 (136 + 6 * k) ∧ X 168 (136 + 6 * k) ≤ 2030 := by
  unfold LT at ht
  obtain ⟨hP, hR, hd, hc⟩ := h
  have hA := SA.of hP hR
  have s5 := hA.2.2.2.2.1
  have s0 := hA.1
  have s2 := hA.2.2.1
  have e0 : M 40 0 = X 168 0 := hP.1.1
  have e2 : M 40 2 = X 168 2 := hP.2.2.1.1
  have eh : M nw 1 = X 168 5 := by
    have := hR.heads.2.1.1
    rw [blk_at (by omega)] at this
    exact this
  have j5 : jw (X 168 5) = X 168 5 := jw_of (by omega) (by omega)
  unfold Rrow at hr
  simp only [bw1, bw2, bw3] at hr
  rcases hr with q | q | q | q | q | q | q | q | q | q | q | q
  all_goals try (exfalso; omega)
  · obtain ⟨q1, q2, q3, q4, q5, q6, q7, q8⟩ := q
    obtain ⟨b, b8, eb⟩ := natOf (x := M 62 k) (k := 8) q5 (by omega)
    obtain ⟨p, p6, ep⟩ := natOf (x := M 63 k) (k := 6) q7 (by omega)
    have hb : (b : Int) < X 168 2 := by omega
    have hrr : S8 (M (nw + 3) p) ∧ ∀ b : Nat, b < 8 → (bit (M (nw + 3) p) b = true ↔ (b : Int) < X 168 2 ∧ ¬ X 168 (59 + 10 * b) = 1 ∧ X 168 (63 + 10 * b) = p) := by
      have z := hR
      unfold RN at z
      obtain ⟨-, -, -, -, -, -, -, -, -, -, -, -, -, q13, -⟩ := z
      have z2 := q13 p p6
      rw [blk_at (by omega)] at z2
      exact z2
    have hwv := SA.whK hA b8 hb
    have hwd : wh (X 168) b = (p : Int) ↔ bit (M (nw + 3) p) b = true := by
      rw [hrr.2 b b8]
      unfold wh
      by_cases c : X 168 (59 + 10 * b) = 1
      · rw [if_pos c]; exact ⟨fun z => by omega, fun z => absurd c z.2.1⟩
      · rw [if_neg c]; exact ⟨fun z => ⟨hb, c, z⟩, fun z => z.2.2⟩
    refine ⟨if bit (M (nw + 3) p) b = true then 1 else 0, ?_, ?_, by split <;> omega, by omega, by omega⟩
    · unfold f_X0_isSo
      simp only [letv_ap]
      rw [chk_pos (jin_of (by omega) (by omega) (by omega)), chk_pos (jin_of (by omega) (by omega) (by omega)), chk_pos (jin_of (by omega) (by omega) (by omega)), jwb (by omega), show M (60 + 1) k = 21 from q1, if_pos (by decide), show M (60 + 3) k = (p : Int) from ep, show M (60 + 2) k = (b : Int) from eb, chk_pos (jin_of (by omega) (by omega) (by omega)), jwb (by omega), q_isIn hrr.1 b8, bnd_some, jw01, chk_pos (by split <;> omega)]
    · unfold f_X12_holds
      simp only [letv_ap]
      rw [chk_pos (ij0 hk), ir0 hk, q2, if_neg (by decide), if_pos (by decide), chk_pos (ij1 hk), ir1 hk, ← q3, eb, q_whS hA b8 hb, bnd_some, chk_pos (ij2 hk), ir2 hk, ← q4, ep, jw_of (x := wh (X 168) b) (by omega) (by omega), jw_of (x := (p : Int)) (by omega) (by omega)]
      by_cases c : bit (M (nw + 3) p) b = true
      · rw [if_pos c, if_pos (hwd.2 c)]
      · rw [if_neg c, if_neg (fun z => c (hwd.1 z))]
  · obtain ⟨q1, q2, q3, q4, q5⟩ := q
    obtain ⟨b, b8, eb⟩ := natOf (x := M 62 k) (k := 8) q4 (by omega)
    have hb : (b : Int) < X 168 2 := by omega
    have he := (hA.2.2.2.2.2.2 b b8 hb).2.1
    refine ⟨if X 168 (59 + 10 * b) = 1 then 1 else 0, ?_, ?_, by split <;> omega, by omega, by omega⟩
    · unfold f_X0_isSo
      simp only [letv_ap]
      rw [chk_pos (jin_of (by omega) (by omega) (by omega)), chk_pos (jin_of (by omega) (by omega) (by omega)), chk_pos (jin_of (by omega) (by omega) (by omega)), jwb (by omega), show M (60 + 1) k = 22 from q1, if_neg (by decide), if_pos (by decide), show M (60 + 2) k = (b : Int) from eb, q_isE hR b8 hb, bnd_some, jw01, chk_pos (by split <;> omega)]
    · unfold f_X12_holds
      simp only [letv_ap]
      rw [chk_pos (ij0 hk), ir0 hk, q2, if_pos (by decide), chk_pos (ij1 hk), ir1 hk, ← q3, eb, q_isEatenM b8 he, bnd_some, jw01, chk_pos (by split <;> omega)]
  · obtain ⟨q1, q2, q3, q4, q5, q6, q7, q8⟩ := q
    have j63 : jw (M 63 k) = M 63 k := jw_of (by omega) (by omega)
    have j62 : jw (M 62 k) = M 62 k := jw_of (by omega) (by omega)
    have c60 : jw 60 = 60 := by decide
    have c62 : jw 62 = 62 := by decide
    have ec : f_X0_isSo n th nw 60 (k : Int) M = if jw (M 62 k) = jw 60 then (if jw (M 63 k) ≤ jw (X 168 5) then (some (0, M)) else (some (1, M))) else (if jw (M 62 k) = jw 62 then (if jw (X 168 5) ≤ jw (M 63 k) then (some (0, M)) else (some (1, M))) else (if jw (X 168 5) = jw (M 63 k) then (some (1, M)) else (some (0, M)))) := by
      unfold f_X0_isSo
      simp only [letv_ap]
      rw [chk_pos (jin_of (by omega) (by omega) (by omega)), chk_pos (jin_of (by omega) (by omega) (by omega)), chk_pos (jin_of (by omega) (by omega) (by omega)), jwb (by omega), show M (60 + 1) k = 23 from q1, if_neg (by decide), if_neg (by decide), eh]
    have er : f_X12_holds n (136 + 6 * (k : Int)) X = if jw (M 62 k) = jw 60 then (if jw (M 63 k) ≤ jw (X 168 5) then (some (0, X)) else (some (1, X))) else (if jw (M 62 k) = jw 62 then (if jw (X 168 5) ≤ jw (M 63 k) then (some (0, X)) else (some (1, X))) else (if jw (X 168 5) = jw (M 63 k) then (some (1, X)) else (some (0, X)))) := by
      unfold f_X12_holds
      simp only [letv_ap]
      rw [chk_pos (ij0 hk), ir0 hk, q2, if_neg (by decide), if_neg (by decide), chk_pos (by decide), jn5, chk_pos (ij5 hk), ir5 hk, chk_pos (ij2 hk), ir2 hk, chk_pos (ij5 hk), chk_pos (ij2 hk), chk_pos (ij2 hk), ← q3, ← q4]
    rw [ec, er]
    by_cases c1 : jw (M 62 k) = jw 60
    · by_cases c2 : jw (M 63 k) ≤ jw (X 168 5)
      · exact ⟨0, by rw [if_pos c1, if_pos c2], by rw [if_pos c1, if_pos c2], Or.inl rfl, by omega, by omega⟩
      · exact ⟨1, by rw [if_pos c1, if_neg c2], by rw [if_pos c1, if_neg c2], Or.inr rfl, by omega, by omega⟩
    · by_cases c2 : jw (M 62 k) = jw 62
      · by_cases c3 : jw (X 168 5) ≤ jw (M 63 k)
        · exact ⟨0, by rw [if_neg c1, if_pos c2, if_pos c3], by rw [if_neg c1, if_pos c2, if_pos c3], Or.inl rfl, by omega, by omega⟩
        · exact ⟨1, by rw [if_neg c1, if_pos c2, if_neg c3], by rw [if_neg c1, if_pos c2, if_neg c3], Or.inr rfl, by omega, by omega⟩
      · by_cases c3 : jw (X 168 5) = jw (M 63 k)
        · exact ⟨1, by rw [if_neg c1, if_neg c2, if_pos c3], by rw [if_neg c1, if_neg c2, if_pos c3], Or.inr rfl, by omega, by omega⟩
        · exact ⟨0, by rw [if_neg c1, if_neg c2, if_neg c3], by rw [if_neg c1, if_neg c2, if_neg c3], Or.inl rfl, by omega, by omega⟩
end PSTEP

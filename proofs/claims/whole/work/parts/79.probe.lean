section PPROBE
variable {n : Nat} {M : JMem}
/-- what only asks leaves this as it is -/
def Pf (M M' : JMem) : Prop := (∀ c : Nat, ((1 ≤ c ∧ c < 68) ∨ c = 86 ∨ c = 87 ∨ (92 ≤ c ∧ c < 167) ∨ (169 ≤ c ∧ c ≤ 173) ∨ c = 185) → M' c = M c) ∧ (∀ j : Nat, j ≠ 0 → M' 0 j = M 0 j) ∧ (∀ j : Nat, j ≠ 2 → j ≠ 27 → M' 167 j = M 167 j) ∧ ∀ i : Nat, i < 2016 → M' 168 i = M 168 i
theorem Pf.refl : Pf M M := ⟨fun _ _ => rfl, fun _ _ => rfl, fun _ _ _ => rfl, fun _ _ => rfl⟩
theorem Pf.trans {M1 M2 : JMem} (h : Pf M M1) (h2 : Pf M1 M2) : Pf M M2 := ⟨fun c hc => (h2.1 c hc).trans (h.1 c hc), fun j hj => (h2.2.1 j hj).trans (h.2.1 j hj), fun j hj hk => (h2.2.2.1 j hj hk).trans (h.2.2.1 j hj hk), fun i hi => (h2.2.2.2 i hi).trans (h.2.2.2 i hi)⟩
theorem Pf.cl {M1 : JMem} (h : ∀ c : Nat, c < 68 ∨ 76 ≤ c → M1 c = M c) : Pf M M1 := ⟨fun c hc => h c (by omega), fun j _ => by rw [h 0 (by omega)], fun j _ _ => by rw [h 167 (by omega)], fun i _ => by rw [h 168 (by omega)]⟩
theorem Pf.st0 (s : Int) : Pf M (jup M 0 0 s) := ⟨fun c hc => jup_cell (by omega), fun j hj => by rw [jup_at, if_neg (fun q => hj q.2)], fun j _ _ => by rw [jup_cell (by omega)], fun i _ => by rw [jup_cell (by omega)]⟩
theorem Pf.st2 (s : Int) : Pf M (jup M 167 2 s) := ⟨fun c hc => jup_cell (by omega), fun j hj => by rw [jup_cell (by omega)], fun j hj _ => by rw [jup_at, if_neg (fun q => hj q.2)], fun i _ => by rw [jup_cell (by omega)]⟩
theorem JR.pf (h : JR M) {M' : JMem} (hp : Pf M M') (hst : jw (M' 0 0) = jw (M' 167 2)) : JR M' := by
  obtain ⟨p1, p2, p3, p4⟩ := hp
  have hc := h.cur
  refine h.frame ⟨hst, ?_, ?_⟩ (p2 13 (by omega)) (fun b hb => ?_) (fun j hj => p3 j (by omega) (by omega)) (fun k k1 k2 => p4 k k2) ?_ ?_ ?_ ?_
  · rw [p2 1 (by omega), p3 3 (by omega) (by omega)]; exact h.1.2.1
  · rw [p2 2 (by omega), p3 4 (by omega) (by omega)]; exact h.1.2.2
  · unfold keepC at hb
    exact p1 b (by omega)
  · rw [blk_congr (by decide) (M := M) (a := 40) (z := 12) (fun j hj => p1 _ (by omega))]
    exact hc.1.low (fun i hi => p4 i (by omega))
  · rw [blk_congr (by decide) (M := M) (a := 52) (z := 8) (fun j hj => p1 _ (by omega))]
    exact hc.2.1.low (fun i hi => p4 i (by omega))
  · rw [blk_congr (by decide) (M := M) (a := 40) (z := 12) (fun j hj => p1 _ (by omega)), p1 169 (by omega)]
    exact hc.2.2.1
  · rw [p1 40 (by omega), blk_congr (by decide) (M := M) (a := 60) (z := 5) (fun j hj => p1 _ (by omega))]
    exact hc.2.2.2.congr2 (p4 7 (by omega)) (fun k j hk hj => p4 _ (by omega))
theorem Pr.fin {f g : JMem → Option (Int × JMem)} {r s : Int} {M1 M2 : JMem} (h : JR M) (hf : f M = some (r, M1)) (hg : g M1 = some (s, M2)) (hrs : jw r = jw s) (hp : Pf M M2) (hst : jw (M2 0 0) = jw (M2 167 2)) : ∃ r M1 s M2, f M = some (r, M1) ∧ g M1 = some (s, M2) ∧ jw r = jw s ∧ JR M2 := ⟨r, M1, s, M2, hf, hg, hrs, h.pf hp hst⟩
theorem itA_add (B : Nat → Int) (j : Nat) : ∀ k : Nat, itA (itA B j) k = itA B (j + k) := by
  intro k
  induction k with
  | zero => rfl
  | succ k ih =>
    show hourA (itA (itA B j) k) = hourA (itA B (j + k))
    rw [ih]
theorem c_goOn (hf : 200 ≤ n) {A : Nat → Int} (hP : RP (blk M 40 12) A) (hR : RN (blk M 52 8) A) {m : Nat} (hm : A 5 + m ≤ 64) {x : Int} (hx : x = A 5 + m) : ∃ M', f_X11_goOnUntil n x M = some (0, M') ∧ (∀ c : Nat, c < 68 ∨ 76 ≤ c → M' c = M c) ∧ RN (blk M' 68 8) (itA A m) ∧ Lg 68 A m M' := by
  obtain ⟨M1, a1, a2, a3⟩ := c_copyRN (n := n) (M := M) (th := 68) (p := 52) (by omega) hR
  obtain ⟨r, M2, b1, b2, b3, b4, b5⟩ := c_pass (n := n) (M := M1) (th := 68) (p := 40) (by omega) (by omega) (by rw [blk_congr (by decide) (M := M) (M' := M1) (a := 40) (z := 12) (fun j hj => a2 _ (by omega))]; exact hP) a3 hm hx
  refine ⟨M2, ?_, fun c hc => by rw [b2 c hc, a2 c hc], b3, b4⟩
  unfold f_X11_goOnUntil
  rw [a1, bnd_some, b1, bnd_some]
theorem SA.low {A A' : Nat → Int} (h : SA A) (hA : ∀ i : Nat, i < 136 → A' i = A i) : SA A' := by
  obtain ⟨s0, s1, s2, s4, s5, st, sb⟩ := h
  unfold SA
  rw [hA 0 (by omega), hA 1 (by omega), hA 2 (by omega), hA 4 (by omega), hA 5 (by omega)]
  refine ⟨s0, s1, s2, s4, s5, fun t t8 hl => ?_, fun b b8 hl => ?_⟩
  · rw [hA (8 + 6 * t) (by omega), hA (9 + 6 * t) (by omega), hA (10 + 6 * t) (by omega), hA (11 + 6 * t) (by omega), hA (12 + 6 * t) (by omega), hA (13 + 6 * t) (by omega)]
    exact st t t8 hl
  · rw [hA (58 + 10 * b) (by omega), hA (59 + 10 * b) (by omega), hA (61 + 10 * b) (by omega), hA (62 + 10 * b) (by omega), hA (63 + 10 * b) (by omega), hA (64 + 10 * b) (by omega)]
    exact sb b b8 hl
theorem q_laysWeek (hf : 200 ≤ n) {B : Nat → Int} (hB : SA B) (hM : keepA (M 168) 3024 = B) {h0 m : Nat} (h5 : B 5 = h0) (hm : h0 + m = 64) : ∃ M', f_X12_laysWeek n M = some (0, M') ∧ M' 168 = B ∧ (∀ c : Nat, c ≠ 167 → c ≠ 168 → c ≠ 176 → c ≠ 177 → c ≠ 178 → M' c = M c) ∧ (∀ j : Nat, j ≠ 27 → M' 167 j = M 167 j) ∧ (∀ k : Nat, k ≤ m → ∀ b : Nat, b < 8 → (b : Int) < B 2 → M' 176 (8 * (h0 + k) + b) = wh (itA B k) b) ∧ LO B h0 m M' ∧
    S8 (M' 167 27) ∧ ∀ b : Nat, b < 8 → (bit (M' 167 27) b = true ↔ (b : Int) < B 2 ∧ 0 < wh (offs (itA B m) (B 2).toNat) b) := by
  have k1 := q_keeps (n := n) (M := M) (t := 3024) hf (by omega) (by omega)
  rw [hM] at k1
  obtain ⟨r, M', r1, r2, r3, r4, r5, r6, r7, r8, r9, r10⟩ := q_laysOn (n := n) (M := jrow M 168 B) hf (by rw [jrow_same]; exact hB) (h0 := h0) (m := m) (by rw [jrow_same]; exact h5) hm
  rw [jrow_same] at r2 r6 r7 r8 r10
  have eB : restA B 3024 = B := by
    have := restA_keep (A := M 168) (B := B) (t := 3024) (by omega) (fun i _ => by rw [hM])
    rw [this, hM]
  refine ⟨M', ?_, by rw [r2, eB], fun c c1 c2 c3 c4 c5 => by rw [r3 c c1 c2 c3 c4 c5, jrow_ne _ c2], fun j hj => by rw [r4 j hj, jrow_ne _ (by omega)], fun k hk b b8 hb => ?_, r7, r9, r10⟩
  · unfold f_X12_laysWeek
    rw [show f_X12_keeps n 3024 M = _ from k1, bnd_some, r1, bnd_some]
  · by_cases c : k = m
    · rw [c, show h0 + m = 64 from hm]; exact r8 b b8 hb
    · exact r7.1 k (by omega) b b8 hb
theorem Pf.lays {M1 : JMem} {B : Nat → Int} (hM : keepA (M 168) 3024 = B) (h1 : M1 168 = B) (h2 : ∀ c : Nat, c ≠ 167 → c ≠ 168 → c ≠ 176 → c ≠ 177 → c ≠ 178 → M1 c = M c) (h3 : ∀ j : Nat, j ≠ 27 → M1 167 j = M 167 j) : Pf M M1 :=
  ⟨fun c hc => h2 c (by omega) (by omega) (by omega) (by omega) (by omega), fun j _ => by rw [h2 0 (by omega) (by omega) (by omega) (by omega) (by omega)], fun j _ hj => h3 j hj, fun i hi => by rw [h1, ← hM, keepA_low (by omega)]⟩
theorem q_tog {A : Nat → Int} (hf : 200 ≤ n) (hP : RP (blk M 40 12) A) {th : Nat} (hR : RN (blk M th 8) A) {a b : Nat} (a8 : a < 8) (ha : (a : Int) < A 2) (b8 : b < 8) (hb : (b : Int) < A 2) : f_X1_hasTogether n th 40 (a : Int) (b : Int) M = some (if 0 < wh A a ∧ wh A a = wh A b then 1 else 0, M) := by
  have hA := SA.of hP hR
  have w1 := hA.whK a8 ha
  have w2 := hA.whK b8 hb
  unfold f_X1_hasTogether
  rw [q_spotOf (by omega) hP hR a8 ha, bnd_some]
  simp only [letv_ap]
  rw [jw_of (x := wh A a) (by omega) (by omega)]
  by_cases c : wh A a ≤ 0
  · rw [if_pos c, if_neg (by omega)]
  · rw [if_neg c, q_spotOf (by omega) hP hR b8 hb, bnd_some, jw_of (x := wh A b) (by omega) (by omega)]
    by_cases c2 : wh A a = wh A b
    · rw [if_pos c2, if_pos ⟨by omega, c2⟩]
    · rw [if_neg c2, if_neg (fun q => c2 q.2)]
/-- the hour in which somebody is eaten -/
theorem eat_when {B : Nat → Int} {b : Nat} : ∀ m : Nat, ¬ B (59 + 10 * b) = 1 → itA B m (59 + 10 * b) = 1 → ∃ k : Nat, k < m ∧ ¬ itA B k (59 + 10 * b) = 1 ∧ itA B (k + 1) (59 + 10 * b) = 1 := by
  intro m
  induction m with
  | zero => intro h1 h2; exact absurd h2 h1
  | succ m ih =>
    intro h1 h2
    by_cases c : itA B m (59 + 10 * b) = 1
    · obtain ⟨k, k1, k2⟩ := ih h1 c
      exact ⟨k, by omega, k2⟩
    · exact ⟨m, by omega, c, h2⟩
theorem q_isE {th b : Nat} {A : Nat → Int} (hR : RN (blk M th 8) A) (b8 : b < 8) (hb : (b : Int) < A 2) : f_X1_isEaten n th (b : Int) M = some (if A (59 + 10 * b) = 1 then 1 else 0, M) := by
  have r : S8 (M th 3) ∧ ∀ b : Nat, b < 8 → (bit (M th 3) b = true ↔ (b : Int) < A 2 ∧ A (59 + 10 * b) = 1) := hR.heads.2.2.2.1
  rw [q_isEatenC r.1 b8]
  by_cases c : A (59 + 10 * b) = 1
  · rw [if_pos ((r.2 b b8).2 ⟨hb, c⟩), if_pos c]
  · rw [if_neg (fun q => c ((r.2 b b8).1 q).2), if_neg c]
/-- what is needed to ask of the week that is now -/
theorem JR.now (h : JR M) : ∃ (h0 m : Nat), M 168 5 = h0 ∧ h0 + m = 64 ∧ M 52 1 = h0 ∧ RP (blk M 40 12) (keepA (M 168) 3024) ∧ RN (blk M 52 8) (keepA (M 168) 3024) ∧ SA (keepA (M 168) 3024) ∧ (∀ i : Nat, i < 136 → keepA (M 168) 3024 i = M 168 i) := by
  have hc := h.cur
  have hA := SA.of hc.1 hc.2.1
  have s5 := hA.2.2.2.2.1
  have lo : ∀ i : Nat, i < 136 → keepA (M 168) 3024 i = M 168 i := fun i hi => keepA_low (by omega)
  have eh : M 52 1 = M 168 5 := hc.2.1.heads.2.1.1
  exact ⟨(M 168 5).toNat, 64 - (M 168 5).toNat, by omega, by omega, by omega, hc.1.low lo, hc.2.1.low lo, hA.low lo, lo⟩
theorem wh_m1 {A : Nat → Int} (h : SA A) {b : Nat} (b8 : b < 8) (hb : (b : Int) < A 2) : (A (59 + 10 * b) = 1 → wh A b = -1) ∧ (¬ A (59 + 10 * b) = 1 → 0 ≤ wh A b ∧ wh A b < 18) := by
  have r := (h.2.2.2.2.2.2 b b8 hb).2.2.2.2
  have h0 := h.1
  have h1 := h.2.1
  unfold wh
  refine ⟨fun c => if_pos c, fun c => ?_⟩
  rw [if_neg c]
  have := r c
  omega
end PPROBE

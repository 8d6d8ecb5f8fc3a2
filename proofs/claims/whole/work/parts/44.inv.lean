section PINV
/-! THE INVARIANT of both objects -/
def Rsta (M : JMem) : Prop := jw (M 0 0) = jw (M 167 2) ∧ jwl (M 0 1) = jwl (M 167 3) ∧ jwl (M 0 2) = jwl (M 167 4)
/-- trays: sorts, how many, the numbers -/
def Rtra (S N S' N' T : Nat → Int) (W : Nat → Nat → Int) : Prop := ∀ t : Nat, t < 4 → (S t = -1 ∧ N' t = -1) ∨ (0 ≤ S t ∧ S t ≤ 3 ∧ S' t = S t ∧ 0 ≤ N t ∧ N t ≤ 60 ∧ N' t = N t ∧ ∀ k : Nat, k < 60 → (k : Int) < N t → jwl (W t k) = jwl (T (60 * t + k)))
/-- the tape, the last fault, the words -/
def Rtxt (F B K F' B' : Nat → Int) : Prop := (F 1 = F' 10 ∧ 0 ≤ F 1 ∧ F 1 ≤ 900) ∧ (∀ k : Nat, k < 900 → (k : Int) < F 1 → B k = B' k ∧ -128 ≤ B k ∧ B k < 128) ∧ F 2 = F' 16 ∧ F 3 = F' 17 ∧ ∀ k : Nat, k < 27 → K k = jM0 11 k
/-- one row of weeks: the one object's word and the other's -/
def Rrow (nb nt np nr : Int) (W : JV) (A : Nat → Int) (k : Nat) : Prop :=
  (W 1 k = 14 ∧ A (136 + 6 * k) = 14 ∧ W 2 k = A (137 + 6 * k) ∧ 1 ≤ W 2 k ∧ W 2 k ≤ 64) ∨
  (W 1 k = 15 ∧ A (136 + 6 * k) = 15) ∨
  (W 1 k = 16 ∧ A (136 + 6 * k) = 16 ∧ W 2 k = A (137 + 6 * k) ∧ W 3 k = A (138 + 6 * k) ∧ 0 ≤ W 2 k ∧ W 2 k < nb ∧ 0 ≤ W 3 k ∧ W 3 k < nt) ∨
  (W 1 k = 17 ∧ A (136 + 6 * k) = 17 ∧ W 2 k = A (137 + 6 * k) ∧ 0 ≤ W 2 k ∧ W 2 k < nb) ∨
  (W 1 k = 18 ∧ A (136 + 6 * k) = 18 ∧ W 2 k = A (137 + 6 * k) ∧ 0 ≤ W 2 k ∧ W 2 k < nt) ∨
  (W 1 k = 19 ∧ A (136 + 6 * k) = 19) ∨
  (W 1 k = 26 ∧ A (136 + 6 * k) = 23) ∨
  (W 1 k = 21 ∧ A (136 + 6 * k) = 2024 ∧ W 2 k = A (137 + 6 * k) ∧ W 3 k = A (138 + 6 * k) ∧ 0 ≤ W 2 k ∧ W 2 k < nb ∧ 0 ≤ W 3 k ∧ W 3 k < np) ∨
  (W 1 k = 22 ∧ A (136 + 6 * k) = 2025 ∧ W 2 k = A (137 + 6 * k) ∧ 0 ≤ W 2 k ∧ W 2 k < nb) ∨
  (W 1 k = 23 ∧ A (136 + 6 * k) = 2026 ∧ W 2 k = A (141 + 6 * k) ∧ W 3 k = A (138 + 6 * k) ∧ 60 ≤ W 2 k ∧ W 2 k ≤ 62 ∧ 0 ≤ W 3 k ∧ W 3 k ≤ 64) ∨
  (W 1 k = 24 ∧ A (136 + 6 * k) = 21 ∧ W 2 k = A (137 + 6 * k) ∧ 1 ≤ W 2 k ∧ W 2 k ≤ 99) ∨
  (W 1 k = 25 ∧ A (136 + 6 * k) = 22)
/-- a row that opens -/
def opens (W : JV) (k : Nat) : Prop := 21 ≤ W 1 k ∧ W 1 k ≤ 24
def RW (nb nt np : Int) (W : JV) (A : Nat → Int) : Prop :=
  (W 0 0 = 0 ∧ A 7 = -1) ∨
  (W 0 0 = 1 ∧ A 7 = W 0 2 ∧ 0 ≤ W 0 2 ∧ W 0 2 ≤ 60 ∧ (∀ k : Nat, k < 60 → (k : Int) < W 0 2 → Rrow nb nt np (W 0 2) W A k) ∧
    (∀ k : Nat, k < 60 → (k : Int) < W 0 2 → opens W k → ∃ e : Nat, W 4 k = e ∧ A (140 + 6 * k) = e ∧ k < e ∧ (e : Int) < W 0 2 ∧ W 1 e = 25 ∧ W 4 e = k) ∧
    (∀ e : Nat, e < 60 → (e : Int) < W 0 2 → W 1 e = 25 → ∃ k : Nat, W 4 e = k ∧ A (140 + 6 * e) = k ∧ k < e ∧ opens W k ∧ W 4 k = e) ∧
    (∀ k j : Nat, k < j → (j : Int) < W 4 k → (k : Int) < W 0 2 → opens W k → opens W j → W 4 j < W 4 k))
/-- a park with its weeks: plan, now, weeks by their cells; the other's slot and names by their places -/
def Rpark (M : JMem) (p nw w s kn : Nat) : Prop := RP (blk M p 12) (slot M s) ∧ RN (blk M nw 8) (slot M s) ∧ RK (blk M p 12) (fun k => M 169 (kn + k)) ∧ RW (M p 2) (M p 1) (M p 0) (blk M w 5) (slot M s)
def Rmrk (M : JMem) : Prop := M 0 13 = M 167 38 ∧ 0 ≤ M 0 13 ∧ M 0 13 ≤ 3 ∧ ∀ i : Nat, i < 3 → (i : Int) < M 0 13 → Rpark M (92 + 25 * i) (104 + 25 * i) (112 + 25 * i) (504 * (i + 1)) (22 * (i + 1))
/-- what was lived -/
def Rliv (F C : Nat → Int) (y : Int) (C' : Nat → Int) : Prop := (F 0 = -1 ∧ y = 0) ∨ (0 ≤ F 0 ∧ F 0 ≤ 1000 ∧ y = 1 ∧ ∀ k : Nat, k < 5 → C k = C' k)
def jwt (M : JMem) : Nat → Nat → Int := fun t => match t with
  | 0 => M 3
  | 1 => M 4
  | 2 => M 5
  | _ => M 6
def JR (M : JMem) : Prop := Rsta M ∧ Rtra (M 7) (M 8) (M 170) (M 171) (M 172) (jwt M) ∧ Rtxt (M 9) (M 10) (M 11) (M 167) (M 173) ∧ Rliv (M 86) (M 87) (M 167 37) (M 185) ∧ Rpark M 40 52 60 0 0 ∧ Rmrk M
/-! frames -/
theorem RP.congr {P P' : JV} {A A' : Nat → Int} (h : RP P A) (hP : ∀ j k : Nat, P' j k = P j k) (hA : ∀ k : Nat, k < 136 → A' k = A k) : RP P' A' := by
  obtain rfl : P' = P := funext fun j => funext fun k => hP j k
  unfold RP at h ⊢
  obtain ⟨h0, h1, h2, h3, h4, h5, h6⟩ := h
  rw [hA 0 (by omega), hA 1 (by omega), hA 2 (by omega), hA 3 (by omega)]
  refine ⟨h0, h1, h2, h3, h4, fun t ht hl => ?_, fun b hb hl => ?_⟩
  · rw [hA (8 + 6 * t) (by omega), hA (9 + 6 * t) (by omega), hA (10 + 6 * t) (by omega), hA (11 + 6 * t) (by omega), hA (12 + 6 * t) (by omega)]
    exact h5 t ht hl
  · rw [hA (56 + 10 * b) (by omega), hA (57 + 10 * b) (by omega), hA (62 + 10 * b) (by omega)]
    exact h6 b hb hl
theorem blk_congr {M M' : JMem} {a z : Nat} (hz : 0 < z) (h : ∀ j : Nat, j < z → M' (a + j) = M (a + j)) : blk M' a z = blk M a z := by
  funext j k
  unfold blk
  rw [h (j % z) (Nat.mod_lt _ hz)]
theorem Rpark.congr {M M' : JMem} {p nw w s kn : Nat} (h : Rpark M p nw w s kn) (h1 : ∀ j : Nat, j < 12 → M' (p + j) = M (p + j)) (h2 : ∀ j : Nat, j < 8 → M' (nw + j) = M (nw + j)) (h3 : ∀ j : Nat, j < 5 → M' (w + j) = M (w + j)) (h4 : M' 168 = M 168) (h5 : M' 169 = M 169) : Rpark M' p nw w s kn := by
  unfold Rpark slot at h ⊢
  rw [blk_congr (by decide) h1, blk_congr (by decide) h2, blk_congr (by decide) h3, h4, h5, show M' p = M p from h1 0 (by decide)]
  exact h
theorem Rmrk.congr {M M' : JMem} (h : Rmrk M) (h1 : M' 0 13 = M 0 13) (h2 : M' 167 38 = M 167 38) (h3 : ∀ a : Nat, 92 ≤ a → a < 188 → a ≠ 167 → M' a = M a) : Rmrk M' := by
  unfold Rmrk at h ⊢
  rw [h1, h2]
  exact ⟨h.1, h.2.1, h.2.2.1, fun i hi hl => Rpark.congr (h.2.2.2 i hi hl) (fun j hj => h3 _ (by omega) (by omega) (by omega)) (fun j hj => h3 _ (by omega) (by omega) (by omega)) (fun j hj => h3 _ (by omega) (by omega) (by omega)) (h3 168 (by omega) (by omega) (by omega)) (h3 169 (by omega) (by omega) (by omega))⟩
theorem jup_cell {M : JMem} {a k : Nat} {v : Int} {b : Nat} (h : b ≠ a) : jup M a k v b = M b := by
  funext j
  rw [jup_at, if_neg (fun q => h q.1)]
/-- the two objects' answers cells: status and fraction -/
theorem jup_status {M : JMem} (h : JR M) (x y : Int) (hxy : jw x = jw y) : JR (jup (jup M 0 0 x) 167 2 y) := by
  obtain ⟨h1, h2, h3, h4, h5, h6⟩ := h
  exact ⟨⟨hxy, h1.2⟩, h2, h3, h4, h5, h6.congr rfl rfl (fun a q1 q2 q3 => by rw [jup_cell q3, jup_cell (by omega)])⟩
theorem jup_status2 {M : JMem} (h : JR M) (x : Int) (hxy : jw x = jw (M 167 2)) : JR (jup M 0 0 x) := by
  obtain ⟨h1, h2, h3, h4, h5, h6⟩ := h
  exact ⟨⟨hxy, h1.2⟩, h2, h3, h4, h5, h6.congr rfl rfl (fun a q1 q2 q3 => jup_cell (by omega))⟩
end PINV

section PCOPY
variable {n : Nat} {M : JMem}
/-! copies -/
def cp (M : JMem) (a b k : Nat) : JMem := fun c j => if c = b ∧ j < k then M a j else M c j
theorem cp_ne {a b k c : Nat} (h : c ≠ b) : cp M a b k c = M c := by
  funext j
  unfold cp
  rw [if_neg (fun q => h q.1)]
theorem cp_eq {a b k j : Nat} (h : j < k) : cp M a b k b j = M a j := by
  unfold cp
  rw [if_pos ⟨rfl, h⟩]
theorem jcpy_cp {a b k : Nat} (hk : k < 1000) : jcpy M a 0 b 0 (k : Int) = cp M a b k := by
  funext c j
  rw [jcpy_at, show (jw 0).toNat = 0 by decide, jwb (by omega)]
  unfold cp
  by_cases h : c = b
  · rw [if_pos h]
    by_cases h2 : j < k
    · rw [if_pos (by omega), if_pos ⟨h, h2⟩, Nat.zero_add, Nat.sub_zero]
    · rw [if_neg (by omega), if_neg (fun q => h2 q.2), h]
  · rw [if_neg h, if_neg (fun q => h q.1)]
theorem jcpy8 {a b : Nat} : jcpy M a 0 b 0 8 = cp M a b 8 := jcpy_cp (k := 8) (by decide)
theorem jcpy6 {a b : Nat} : jcpy M a 0 b 0 6 = cp M a b 6 := jcpy_cp (k := 6) (by decide)
theorem jcpy22 {a b : Nat} : jcpy M a 0 b 0 22 = cp M a b 22 := jcpy_cp (k := 22) (by decide)
theorem jcpy60 {a b : Nat} : jcpy M a 0 b 0 60 = cp M a b 60 := jcpy_cp (k := 60) (by decide)
theorem RN.congr3 {N N' : JV} {A : Nat → Int} (h : RN N A) (h0 : ∀ k : Nat, k < 5 → N' 0 k = N 0 k) (h1 : ∀ k : Nat, k < 8 → N' 1 k = N 1 k ∧ N' 2 k = N 2 k ∧ N' 4 k = N 4 k ∧ N' 5 k = N 5 k) (h3 : ∀ k : Nat, k < 6 → N' 3 k = N 3 k) : RN N' A := by
  unfold RN at h ⊢
  obtain ⟨q0, q1, ⟨a2, q2⟩, q3, ⟨a4, q4⟩, q5, ⟨a6, q6⟩, q7, q8, q9, q10, q11, q12, q13, q14, q15, q16⟩ := h
  rw [h0 0 (by omega), h0 1 (by omega), h0 2 (by omega), h0 3 (by omega), h0 4 (by omega), (h1 0 (by omega)).2.1, (h1 1 (by omega)).2.1, (h1 2 (by omega)).2.1, (h1 3 (by omega)).2.1, (h1 4 (by omega)).2.1, (h1 5 (by omega)).2.1, (h1 6 (by omega)).2.1, (h1 7 (by omega)).2.1]
  refine ⟨q0, q1, ⟨a2, q2⟩, q3, ⟨a4, q4⟩, q5, ⟨a6, q6⟩, q7, fun b b8 => ?_, fun b b8 => ?_, fun b b8 => ?_, fun b b8 => ?_, q12, fun p p6 => ?_, fun t t8 => ?_, q15, fun t t8 b b8 => ?_⟩
  · rw [(h1 b b8).1]; exact q8 b b8
  · rw [(h1 b b8).2.1]; exact q9 b b8
  · rw [(h1 b b8).2.1]; exact q10 b b8
  · rw [(h1 b b8).2.1]; exact q11 b b8
  · rw [h3 p p6]; exact q13 p p6
  · rw [(h1 t t8).2.2.1]; exact q14 t t8
  · rw [(h1 t t8).2.2.1, (h1 t t8).2.2.2]; exact q16 t t8 b b8
theorem jcpok8 : jcpok 0 0 8 8 8 := by decide
theorem jcpok6 : jcpok 0 0 6 6 6 := by decide
theorem jcpok22 : jcpok 0 0 22 22 22 := by decide
theorem jcpok60 : jcpok 0 0 60 60 60 := by decide
/-- a now is copied -/
theorem c_copyNow {th p : Nat} (hs : p + 8 ≤ th ∨ th + 8 ≤ p) : ∃ M', f_X1_copyFrom n th p M = some (0, M') ∧ (∀ c : Nat, c < th ∨ th + 8 ≤ c → M' c = M c) ∧ (∀ j : Nat, j < 5 → M' th j = M p j) ∧ (∀ k j : Nat, 0 < k → k < 8 → j < (if k = 3 then 6 else 8) → M' (th + k) j = M (p + k) j) := by
  unfold f_X1_copyFrom
  simp only [letv_ap, letm_ap]
  rw [chk_pos jcpok8, chk_pos jcpok8, chk_pos jcpok6, chk_pos jcpok8, chk_pos jcpok8, chk_pos jcpok8, chk_pos jcpok8]
  rw [jcpy8, jcpy8, jcpy6, jcpy8, jcpy8, jcpy8, jcpy8]
  refine ⟨_, rfl, fun c hc => ?_, fun j hj => ?_, fun k j k0 k8 hj => ?_⟩
  · rw [cp_ne (by omega), cp_ne (by omega), cp_ne (by omega), cp_ne (by omega), cp_ne (by omega), cp_ne (by omega), cp_ne (by omega), jup_cell (by omega), jup_cell (by omega), jup_cell (by omega), jup_cell (by omega), jup_cell (by omega)]
  · rw [cp_ne (by omega), cp_ne (by omega), cp_ne (by omega), cp_ne (by omega), cp_ne (by omega), cp_ne (by omega), cp_ne (by omega)]
    have e : ∀ (X : JMem) (i : Nat) (v : Int), jup X th i v p = X p := fun X i v => jup_cell (by omega)
    rw [e, e, e, e, e, e, e, e, e, e]
    have hj' : j = 0 ∨ j = 1 ∨ j = 2 ∨ j = 3 ∨ j = 4 := by omega
    rcases hj' with rfl | rfl | rfl | rfl | rfl <;> simp only [jup_at] <;> simp
  · have e : ∀ (X : JMem) (i : Nat) (v : Int) (c : Nat), c ≠ th → jup X th i v c = X c := fun X i v c hc => jup_cell hc
    have hk : k = 1 ∨ k = 2 ∨ k = 3 ∨ k = 4 ∨ k = 5 ∨ k = 6 ∨ k = 7 := by omega
    have f : ∀ (X : JMem) (a b l c : Nat), c ≠ b → cp X a b l c = X c := fun X a b l c hc => cp_ne hc
    rcases hk with rfl | rfl | rfl | rfl | rfl | rfl | rfl
    · rw [f _ _ _ _ _ (by omega), f _ _ _ _ _ (by omega), f _ _ _ _ _ (by omega), f _ _ _ _ _ (by omega), f _ _ _ _ _ (by omega), f _ _ _ _ _ (by omega), cp_eq (by simpa using hj), e _ _ _ _ (by omega), e _ _ _ _ (by omega), e _ _ _ _ (by omega), e _ _ _ _ (by omega), e _ _ _ _ (by omega)]
    · rw [f _ _ _ _ _ (by omega), f _ _ _ _ _ (by omega), f _ _ _ _ _ (by omega), f _ _ _ _ _ (by omega), f _ _ _ _ _ (by omega), cp_eq (by simpa using hj), f _ _ _ _ _ (by omega), e _ _ _ _ (by omega), e _ _ _ _ (by omega), e _ _ _ _ (by omega), e _ _ _ _ (by omega), e _ _ _ _ (by omega)]
    · rw [f _ _ _ _ _ (by omega), f _ _ _ _ _ (by omega), f _ _ _ _ _ (by omega), f _ _ _ _ _ (by omega), cp_eq (by simpa using hj), f _ _ _ _ _ (by omega), f _ _ _ _ _ (by omega), e _ _ _ _ (by omega), e _ _ _ _ (by omega), e _ _ _ _ (by omega), e _ _ _ _ (by omega), e _ _ _ _ (by omega)]
    · rw [f _ _ _ _ _ (by omega), f _ _ _ _ _ (by omega), f _ _ _ _ _ (by omega), cp_eq (by simpa using hj), f _ _ _ _ _ (by omega), f _ _ _ _ _ (by omega), f _ _ _ _ _ (by omega), e _ _ _ _ (by omega), e _ _ _ _ (by omega), e _ _ _ _ (by omega), e _ _ _ _ (by omega), e _ _ _ _ (by omega)]
    · rw [f _ _ _ _ _ (by omega), f _ _ _ _ _ (by omega), cp_eq (by simpa using hj), f _ _ _ _ _ (by omega), f _ _ _ _ _ (by omega), f _ _ _ _ _ (by omega), f _ _ _ _ _ (by omega), e _ _ _ _ (by omega), e _ _ _ _ (by omega), e _ _ _ _ (by omega), e _ _ _ _ (by omega), e _ _ _ _ (by omega)]
    · rw [f _ _ _ _ _ (by omega), cp_eq (by simpa using hj), f _ _ _ _ _ (by omega), f _ _ _ _ _ (by omega), f _ _ _ _ _ (by omega), f _ _ _ _ _ (by omega), f _ _ _ _ _ (by omega), e _ _ _ _ (by omega), e _ _ _ _ (by omega), e _ _ _ _ (by omega), e _ _ _ _ (by omega), e _ _ _ _ (by omega)]
    · rw [cp_eq (by simpa using hj), f _ _ _ _ _ (by omega), f _ _ _ _ _ (by omega), f _ _ _ _ _ (by omega), f _ _ _ _ _ (by omega), f _ _ _ _ _ (by omega), f _ _ _ _ _ (by omega), e _ _ _ _ (by omega), e _ _ _ _ (by omega), e _ _ _ _ (by omega), e _ _ _ _ (by omega), e _ _ _ _ (by omega)]
theorem c_copyRN {th p : Nat} {A : Nat → Int} (hs : p + 8 ≤ th ∨ th + 8 ≤ p) (hR : RN (blk M p 8) A) : ∃ M', f_X1_copyFrom n th p M = some (0, M') ∧ (∀ c : Nat, c < th ∨ th + 8 ≤ c → M' c = M c) ∧ RN (blk M' th 8) A := by
  obtain ⟨M', r1, r2, r3, r4⟩ := c_copyNow (n := n) (M := M) hs
  refine ⟨M', r1, r2, hR.congr3 (fun k hk => r3 k hk) (fun k hk => ⟨?_, ?_, ?_, ?_⟩) (fun k hk => ?_)⟩
  · exact r4 1 k (by omega) (by omega) (by simpa using hk)
  · exact r4 2 k (by omega) (by omega) (by simpa using hk)
  · exact r4 4 k (by omega) (by omega) (by simpa using hk)
  · exact r4 5 k (by omega) (by omega) (by simpa using hk)
  · exact r4 3 k (by omega) (by omega) (by simpa using hk)
/-! the reference keeps and restores -/
def keepA (A : Nat → Int) (t : Nat) : Nat → Int := fun i => if t ≤ i ∧ i < t + 136 then A (i - t) else A i
def restA (A : Nat → Int) (t : Nat) : Nat → Int := fun i => if i < 136 then A (t + i) else A i
theorem q_keeps_L {t : Nat} (t1 : 136 ≤ t) (t2 : t + 136 ≤ 3160) {A : Nat → Int} : ∀ (d i k : Nat) (M : JMem), i + d = 136 → d < k → (∀ j : Nat, M 168 j = if t ≤ j ∧ j < t + i then A (j - t) else A j) → f_X12_keeps_L2 n k (t : Int) (i : Int) M = some (0, jrow M 168 (keepA A t)) := by
  intro d
  induction d with
  | zero =>
    intro i k M hi hk hM
    obtain ⟨k, rfl⟩ : ∃ q, k = q + 1 := ⟨k - 1, by omega⟩
    obtain rfl : i = 136 := by omega
    rw [f_X12_keeps_L2, if_pos (by decide), show keepA A t = M 168 from funext fun j => (hM j).symm, jrow_self]
  | succ d ih =>
    intro i k M hi hk hM
    obtain ⟨k, rfl⟩ : ∃ q, k = q + 1 := ⟨k - 1, by omega⟩
    rw [f_X12_keeps_L2, if_neg (by rw [show jw 136 = 136 by decide, jw_of (x := (i : Int)) (by omega) (by omega)]; omega), chk_pos (jin_of (by omega) (by omega) (by omega)), chk_pos (jin_of (by omega) (by omega) (by omega)), jwb (by omega), show (t : Int) + (i : Int) = ((t + i : Nat) : Int) by omega, jwb (by omega)]
    simp only [letv_ap, letm_ap]
    rw [show (i : Int) + 1 = ((i + 1 : Nat) : Int) by omega, ih (i + 1) k _ (by omega) (by omega) (by
      intro j
      rw [jup_at]
      by_cases e : j = t + i
      · rw [if_pos ⟨rfl, e⟩, hM i, if_neg (by omega), if_pos (by omega), show j - t = i by omega]
      · rw [if_neg (fun q => e q.2), hM j]
        by_cases c : t ≤ j ∧ j < t + i
        · rw [if_pos c, if_pos (by omega)]
        · rw [if_neg c, if_neg (by omega)]), jup_jrow, jrow_jrow]
theorem q_keeps {t : Nat} (hf : 200 ≤ n) (t1 : 136 ≤ t) (t2 : t + 136 ≤ 3160) : f_X12_keeps n (t : Int) M = some (0, jrow M 168 (keepA (M 168) t)) :=
  q_keeps_L t1 t2 136 0 n M (by omega) (by omega) (fun j => by rw [if_neg (by omega)])
theorem q_restores_L {t : Nat} (t1 : 136 ≤ t) (t2 : t + 136 ≤ 3160) {A : Nat → Int} : ∀ (d i k : Nat) (M : JMem), i + d = 136 → d < k → (∀ j : Nat, M 168 j = if j < i then A (t + j) else A j) → f_X12_restores_L2 n k (t : Int) (i : Int) M = some (0, jrow M 168 (restA A t)) := by
  intro d
  induction d with
  | zero =>
    intro i k M hi hk hM
    obtain ⟨k, rfl⟩ : ∃ q, k = q + 1 := ⟨k - 1, by omega⟩
    obtain rfl : i = 136 := by omega
    rw [f_X12_restores_L2, if_pos (by decide), show restA A t = M 168 from funext fun j => (hM j).symm, jrow_self]
  | succ d ih =>
    intro i k M hi hk hM
    obtain ⟨k, rfl⟩ : ∃ q, k = q + 1 := ⟨k - 1, by omega⟩
    rw [f_X12_restores_L2, if_neg (by rw [show jw 136 = 136 by decide, jw_of (x := (i : Int)) (by omega) (by omega)]; omega), chk_pos (jin_of (by omega) (by omega) (by omega)), chk_pos (jin_of (by omega) (by omega) (by omega)), jwb (by omega), show (t : Int) + (i : Int) = ((t + i : Nat) : Int) by omega, jwb (by omega)]
    simp only [letv_ap, letm_ap]
    rw [show (i : Int) + 1 = ((i + 1 : Nat) : Int) by omega, ih (i + 1) k _ (by omega) (by omega) (by
      intro j
      rw [jup_at]
      by_cases e : j = i
      · rw [if_pos ⟨rfl, e⟩, hM _, if_neg (by omega), if_pos (by omega), e]
      · rw [if_neg (fun q => e q.2), hM j]
        by_cases c : j < i
        · rw [if_pos c, if_pos (by omega)]
        · rw [if_neg c, if_neg (by omega)]), jup_jrow, jrow_jrow]
theorem q_restores {t : Nat} (hf : 200 ≤ n) (t1 : 136 ≤ t) (t2 : t + 136 ≤ 3160) : f_X12_restores n (t : Int) M = some (0, jrow M 168 (restA (M 168) t)) :=
  q_restores_L t1 t2 136 0 n M (by omega) (by omega) (fun j => by rw [if_neg (by omega)])
theorem keepA_low {A : Nat → Int} {t i : Nat} (h : i < t) : keepA A t i = A i := by
  unfold keepA
  rw [if_neg (by omega)]
theorem keepA_idem (A : Nat → Int) {t : Nat} (h : 136 ≤ t) : keepA (keepA A t) t = keepA A t := by
  funext i
  unfold keepA
  by_cases c : t ≤ i ∧ i < t + 136
  · rw [if_pos c, if_neg (by omega), if_pos c]
  · rw [if_neg c]
/-- what was done to the first numbers is undone -/
theorem restA_keep {A B : Nat → Int} {t : Nat} (h : 136 ≤ t) (hB : ∀ i : Nat, 136 ≤ i → B i = keepA A t i) : restA B t = keepA A t := by
  funext i
  unfold restA
  by_cases c : i < 136
  · rw [if_pos c, hB _ (by omega), keepA_low (i := i) (by omega)]
    unfold keepA
    rw [if_pos (by omega), show t + i - t = i by omega]
  · rw [if_neg c, hB i (by omega)]
theorem RP.low {P : JV} {A A' : Nat → Int} (h : RP P A) (hA : ∀ i : Nat, i < 136 → A' i = A i) : RP P A' :=
  h.congr2 (fun k hk => hA k (by omega)) (fun t k ht hk => hA _ (by omega)) (fun b hb => ⟨hA _ (by omega), hA _ (by omega), hA _ (by omega)⟩)
theorem RN.low {N : JV} {A A' : Nat → Int} (h : RN N A) (hA : ∀ i : Nat, i < 136 → A' i = A i) : RN N A' :=
  h.congr2 (fun k hk _ => hA k (by omega)) (fun t ht => ⟨hA _ (by omega), hA _ (by omega), hA _ (by omega)⟩) (fun b hb => ⟨hA _ (by omega), hA _ (by omega), hA _ (by omega), hA _ (by omega), hA _ (by omega), hA _ (by omega)⟩)
end PCOPY

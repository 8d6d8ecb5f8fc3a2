section PHELP
variable {n : Nat} {M : JMem}
/-! the small methods, told in whole numbers -/
theorem jin_of {i : Int} {N : Nat} (h0 : 0 ≤ i) (h1 : i < N) (h2 : i < 2147483648) : jin i N := by
  unfold jin
  rw [jw_of (by omega) h2]
  exact ⟨h0, h1⟩
theorem jwn {i : Int} (h0 : 0 ≤ i) (h1 : i < 2147483648) : (jw i).toNat = i.toNat := by rw [jw_of (by omega) h1]
theorem q_is (x : Int) : f_X12_is n x M = some (if jw x = 0 then 1 else 0, jup M 167 2 x) := by
  unfold f_X12_is letm
  split <;> rfl
theorem q_gives (x : Int) : f_X12_gives n x M = some (x, jup M 167 2 0) := rfl
theorem q_refuseM (x : Int) : f_X12_refuse n x M = some (-1, jup M 167 2 x) := rfl
theorem q_answer (x : Int) : f_X11_answer n x M = some (x, jup M 0 0 0) := rfl
theorem q_refuse (x : Int) : f_X11_refuse n x M = some (-1, jup M 0 0 x) := rfl
theorem q_allow : f_X11_allow n M = some (1, jup M 0 0 0) := rfl
theorem q_deny (x : Int) : f_X11_deny n x M = some (0, jup M 0 0 x) := rfl
theorem q_isBeast {x : Int} (hx : I32 x) (h : S8 (M 40 2)) : f_X11_isBeast n x M = some (if 0 ≤ x ∧ x < M 40 2 then 1 else 0, M) := by
  unfold f_X11_isBeast
  rw [jwI hx, h.jw]
  by_cases h1 : x < 0
  · rw [if_pos h1, if_neg (by omega)]
  · by_cases h2 : M 40 2 ≤ x
    · rw [if_neg h1, if_pos h2, if_neg (by omega)]
    · rw [if_neg h1, if_neg h2, if_pos (by omega)]
theorem q_isTrain {x : Int} (hx : I32 x) (h : S8 (M 40 1)) : f_X11_isTrain n x M = some (if 0 ≤ x ∧ x < M 40 1 then 1 else 0, M) := by
  unfold f_X11_isTrain
  rw [jwI hx, h.jw]
  by_cases h1 : x < 0
  · rw [if_pos h1, if_neg (by omega)]
  · by_cases h2 : M 40 1 ≤ x
    · rw [if_neg h1, if_pos h2, if_neg (by omega)]
    · rw [if_neg h1, if_neg h2, if_pos (by omega)]
theorem q_isPlace {x : Int} (hx : I32 x) (h : S8 (M 40 0)) : f_X11_isPlace n x M = some (if 0 ≤ x ∧ x < M 40 0 then 1 else 0, M) := by
  unfold f_X11_isPlace
  rw [jwI hx, h.jw]
  by_cases h1 : x < 0
  · rw [if_pos h1, if_neg (by omega)]
  · by_cases h2 : M 40 0 ≤ x
    · rw [if_neg h1, if_pos h2, if_neg (by omega)]
    · rw [if_neg h1, if_neg h2, if_pos (by omega)]
theorem q_isBeastM {x : Int} (hx : I32 x) (h : S8 (M 168 2)) : f_X12_isBeast n x M = some (if 0 ≤ x ∧ x < M 168 2 then 1 else 0, M) := by
  unfold f_X12_isBeast
  rw [jwI hx, chk_pos (by decide), show (jw 2).toNat = 2 by decide, h.jw]
  by_cases h1 : x < 0
  · rw [if_pos h1, if_neg (by omega)]
  · by_cases h2 : M 168 2 ≤ x
    · rw [if_neg h1, if_pos h2, if_neg (by omega)]
    · rw [if_neg h1, if_neg h2, if_pos (by omega)]
theorem q_isTrainM {x : Int} (hx : I32 x) (h : S8 (M 168 1)) : f_X12_isTrain n x M = some (if 0 ≤ x ∧ x < M 168 1 then 1 else 0, M) := by
  unfold f_X12_isTrain
  rw [jwI hx, chk_pos (by decide), show (jw 1).toNat = 1 by decide, h.jw]
  by_cases h1 : x < 0
  · rw [if_pos h1, if_neg (by omega)]
  · by_cases h2 : M 168 1 ≤ x
    · rw [if_neg h1, if_pos h2, if_neg (by omega)]
    · rw [if_neg h1, if_neg h2, if_pos (by omega)]
theorem q_isPlaceM {x : Int} (hx : I32 x) (h : S8 (M 168 0)) : f_X12_isPlace n x M = some (if 0 ≤ x ∧ x < M 168 0 then 1 else 0, M) := by
  unfold f_X12_isPlace
  rw [jwI hx, chk_pos (by decide), show (jw 0).toNat = 0 by decide, h.jw]
  by_cases h1 : x < 0
  · rw [if_pos h1, if_neg (by omega)]
  · by_cases h2 : M 168 0 ≤ x
    · rw [if_neg h1, if_pos h2, if_neg (by omega)]
    · rw [if_neg h1, if_neg h2, if_pos (by omega)]
theorem q_isIn {x : Int} (h : S8 x) {i : Nat} (hi : i < 8) : f_X11_isIn n x (i : Int) M = some (if bit x i = true then 1 else 0, M) := by
  unfold f_X11_isIn
  rw [jbit h hi]
  by_cases hb : bit x i = true
  · rw [if_pos hb]; rfl
  · rw [if_neg hb]; rfl
theorem q_isInM {x : Int} (h : S8 x) {i : Nat} (hi : i < 8) : f_X12_isIn n x (i : Int) M = some (if bit x i = true then 1 else 0, M) := by
  unfold f_X12_isIn
  rw [jbit h hi]
  by_cases hb : bit x i = true
  · rw [if_pos hb]; rfl
  · rw [if_neg hb]; rfl
theorem q_beastRow (x : Int) : f_X12_beastRow n x M = some (56 + 10 * x, M) := rfl
theorem q_trainRow (x : Int) : f_X12_trainRow n x M = some (8 + 6 * x, M) := rfl
theorem q_beastOf {b k : Nat} (hb : b < 8) (hk : k < 10) : f_X12_beastOf n (b : Int) (k : Int) M = some (M 168 (56 + 10 * b + k), M) := by
  unfold f_X12_beastOf
  rw [q_beastRow, bnd_some, chk_pos (jin_of (by omega) (by omega) (by omega)), jwn (by omega) (by omega)]
  congr 4
theorem q_trainOf {t k : Nat} (ht : t < 8) (hk : k < 6) : f_X12_trainOf n (t : Int) (k : Int) M = some (M 168 (8 + 6 * t + k), M) := by
  unfold f_X12_trainOf
  rw [q_trainRow, bnd_some, chk_pos (jin_of (by omega) (by omega) (by omega)), jwn (by omega) (by omega)]
  congr 4
theorem q_isEatenM {b : Nat} (hb : b < 8) (h : M 168 (59 + 10 * b) = 0 ∨ M 168 (59 + 10 * b) = 1) : f_X12_isEaten n (b : Int) M = some (if M 168 (59 + 10 * b) = 1 then 1 else 0, M) := by
  unfold f_X12_isEaten
  rw [show f_X12_beastOf n (b : Int) 3 M = _ from q_beastOf (k := 3) hb (by omega), bnd_some, show 56 + 10 * b + 3 = 59 + 10 * b by omega]
  rcases h with h | h <;> rw [h] <;> rfl
theorem q_whereOf {b : Nat} (hb : b < 8) (h : M 168 (59 + 10 * b) = 0 ∨ M 168 (59 + 10 * b) = 1) : f_X12_whereOf n (b : Int) M = some (if M 168 (59 + 10 * b) = 1 then -1 else M 168 (63 + 10 * b), M) := by
  unfold f_X12_whereOf
  rw [q_isEatenM hb h, bnd_some]
  rcases h with h | h
  · rw [h, if_neg (show ¬ (0 : Int) = 1 by decide), if_pos (show jw 0 = 0 by decide), show f_X12_beastOf n (b : Int) 7 M = _ from q_beastOf (k := 7) hb (by omega), bnd_some, show 56 + 10 * b + 7 = 63 + 10 * b by omega, if_neg (show ¬ (0 : Int) = 1 by decide)]
  · rw [h, if_pos (show (1 : Int) = 1 from rfl), if_neg (show ¬ jw 1 = 0 by decide)]
    rfl
/-- an int that is a place's number -/
theorem natOf {x : Int} {k : Nat} (h0 : 0 ≤ x) (h1 : x < k) : ∃ i : Nat, i < k ∧ x = (i : Int) := ⟨x.toNat, by omega, by omega⟩
/-- beasts of which a number is 1 -/
theorem q_beastsWith_L {what : Nat} (hw : what < 10) (hn : 0 ≤ M 168 2 ∧ M 168 2 ≤ 8) (h01 : ∀ b : Nat, b < 8 → (b : Int) < M 168 2 → M 168 (56 + 10 * b + what) = 0 ∨ M 168 (56 + 10 * b + what) = 1) :
    ∀ (d i k : Nat) (v : Int), i + d = (M 168 2).toNat → d < k → S8 v → ∃ r, f_X12_beastsWith_L4 n k (what : Int) v (i : Int) M = some (r, M) ∧ S8 r ∧ ∀ b : Nat, b < 8 → (bit r b = true ↔ bit v b = true ∨ (i ≤ b ∧ (b : Int) < M 168 2 ∧ M 168 (56 + 10 * b + what) = 1)) := by
  intro d
  induction d with
  | zero =>
    intro i k v hi hk hv
    obtain ⟨k, rfl⟩ : ∃ k', k = k' + 1 := ⟨k - 1, by omega⟩
    refine ⟨v, ?_, hv, fun b hb => ⟨Or.inl, fun h => h.elim id (fun h => by omega)⟩⟩
    rw [f_X12_beastsWith_L4, chk_pos (by decide), show (jw 2).toNat = 2 by decide, jw_of (by omega) (by omega), jw_of (by omega) (by omega), if_pos (by omega)]
  | succ d ih =>
    intro i k v hi hk hv
    obtain ⟨k, rfl⟩ : ∃ k', k = k' + 1 := ⟨k - 1, by omega⟩
    have hi8 : i < 8 := by omega
    have hl : (i : Int) < M 168 2 := by omega
    rw [f_X12_beastsWith_L4, chk_pos (by decide), show (jw 2).toNat = 2 by decide, jw_of (by omega) (by omega), jw_of (by omega) (by omega), if_neg (by omega), q_beastOf hi8 hw, bnd_some]
    have hs := jset hv hi8
    have h0 := jorS hv S8_0
    rcases h01 i hi8 hl with h | h
    · rw [h, if_neg (by decide)]
      obtain ⟨r, h1, h2, h3⟩ := ih (i + 1) k (jor v 0) (by omega) (by omega) h0.1
      refine ⟨r, ?_, h2, fun b hb => ?_⟩
      · unfold f_X12_beastsWith_L32 letv
        exact h1
      · rw [h3 b hb, h0.2 b, bit0, Bool.or_false]
        constructor
        · rintro (q | ⟨q1, q2, q3⟩)
          · exact Or.inl q
          · exact Or.inr ⟨by omega, q2, q3⟩
        · rintro (q | ⟨q1, q2, q3⟩)
          · exact Or.inl q
          · by_cases e : b = i
            · subst e; omega
            · exact Or.inr ⟨by omega, q2, q3⟩
    · rw [h, if_pos (by decide)]
      obtain ⟨r, h1, h2, h3⟩ := ih (i + 1) k (jor v (jshl 1 (i : Int))) (by omega) (by omega) hs.1
      refine ⟨r, ?_, h2, fun b hb => ?_⟩
      · unfold f_X12_beastsWith_L32 letv
        exact h1
      · rw [h3 b hb, hs.2 b hb, Bool.or_eq_true, decide_eq_true_eq]
        constructor
        · rintro ((q | q) | ⟨q1, q2, q3⟩)
          · exact Or.inl q
          · subst q; exact Or.inr ⟨Nat.le_refl _, hl, h⟩
          · exact Or.inr ⟨by omega, q2, q3⟩
        · rintro (q | ⟨q1, q2, q3⟩)
          · exact Or.inl (Or.inl q)
          · by_cases e : b = i
            · exact Or.inl (Or.inr e)
            · exact Or.inr ⟨by omega, q2, q3⟩
theorem q_beastsWith {what : Nat} (hf : 100 ≤ n) (hw : what < 10) (hn : 0 ≤ M 168 2 ∧ M 168 2 ≤ 8) (h01 : ∀ b : Nat, b < 8 → (b : Int) < M 168 2 → M 168 (56 + 10 * b + what) = 0 ∨ M 168 (56 + 10 * b + what) = 1) :
    ∃ r, f_X12_beastsWith n (what : Int) M = some (r, M) ∧ S8 r ∧ ∀ b : Nat, b < 8 → (bit r b = true ↔ (b : Int) < M 168 2 ∧ M 168 (56 + 10 * b + what) = 1) := by
  obtain ⟨r, h1, h2, h3⟩ := q_beastsWith_L (n := n) hw hn h01 (M 168 2).toNat 0 n 0 (by omega) (by omega) S8_0
  refine ⟨r, h1, h2, fun b hb => ?_⟩
  rw [h3 b hb, bit0]
  simp
end PHELP

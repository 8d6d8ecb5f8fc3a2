section PPARROT
variable {n : Nat} {M : JMem}
/-! numbers that are other ones but for what fits an int -/
theorem ofInt_jw (y : Int) : Int32.ofInt (jw y) = Int32.ofInt y := by
  have h : (Int32.ofInt y).toInt = jw y := Int32.toInt_ofInt ..
  rw [← h, Int32.ofInt_toInt]
theorem ofInt_of {y z : Int} (h : jw y = jw z) : Int32.ofInt y = Int32.ofInt z := by rw [← ofInt_jw y, h, ofInt_jw]
theorem jshr_of {x y z : Int} (h : jw y = jw z) : jshr x y = jshr x z := by
  unfold jshr
  rw [ofInt_of h]
theorem q_isInW {x y : Int} (hx : S8 x) {i : Nat} (hi : i < 8) (hy : jw y = i) : f_X11_isIn n x y M = some (if bit x i = true then 1 else 0, M) := by
  have e : f_X11_isIn n x y M = f_X11_isIn n x (i : Int) M := by
    unfold f_X11_isIn
    rw [jshr_of (y := y) (z := (i : Int)) (by rw [hy, jw_of (by omega) (by omega)])]
  rw [e, q_isIn hx hi]
theorem jw_jwl (y : Int) : jw (jwl y) = jw y := by
  unfold jw jwl
  exact Int.bmod_bmod_of_dvd ⟨2 ^ 32, by decide⟩
theorem jw_ofL {y : Int} (h0 : 0 ≤ jwl y) (h1 : jwl y < 2147483648) : jw y = jwl y := by
  rw [← jw_jwl, jw_of (by omega) h1]
theorem pass_mod {th p : Nat} {x y v v4 : Int} (h : jw x = jw y) : ∀ (q : Nat) (v5 : Int) (M : JMem), f_X1_passUntil_L15 n th p q x v v4 v5 M = f_X1_passUntil_L15 n th p q y v v4 v5 M := by
  intro q
  induction q with
  | zero => intro _ _; rfl
  | succ q ih =>
    intro v5 M
    have e51 : ∀ X : JMem, f_X1_passUntil_L51 n th p (f_X1_passUntil_L15 n th p q) x v v4 v5 X = f_X1_passUntil_L51 n th p (f_X1_passUntil_L15 n th p q) y v v4 v5 X := fun X => by
      unfold f_X1_passUntil_L51
      simp only [letv_ap, letm_ap]
      exact ih _ _
    have e36 : ∀ X : JMem, f_X1_passUntil_L36 n th p (f_X1_passUntil_L15 n th p q) x v v4 v5 X = f_X1_passUntil_L36 n th p (f_X1_passUntil_L15 n th p q) y v v4 v5 X := fun X => by
      unfold f_X1_passUntil_L36
      congr 1
      funext _ X2
      congr 1
      funext _ X4
      congr 1
      funext _ X6
      exact e51 X6
    rw [f_X1_passUntil_L15, f_X1_passUntil_L15, h, e36 M]
    congr 2
    congr 1
    funext r X
    rw [e51 X, e36 X]
theorem c_passW {th p : Nat} (hf : 100 ≤ n) (hs : p + 12 ≤ th ∨ th + 8 ≤ p) {A : Nat → Int} (hP : RP (blk M p 12) A) (hR : RN (blk M th 8) A) {m : Nat} (hm : A 5 + m ≤ 64) {x : Int} (hx : jw x = A 5 + m) : ∃ r M', f_X1_passUntil n th p x M = some (r, M') ∧ (∀ c : Nat, c < th ∨ th + 8 ≤ c → M' c = M c) ∧ RN (blk M' th 8) (itA A m) := by
  have s5 := (SA.of hP hR).2.2.2.2.1
  obtain ⟨r, M', r1, r2, r3, r4⟩ := c_pass (n := n) hf hs hP hR hm (x := A 5 + m) rfl
  refine ⟨r, M', ?_, r2, r3⟩
  rw [← r1]
  unfold f_X1_passUntil
  simp only [letv_ap]
  exact pass_mod (by rw [hx, jw_of (by omega) (by omega)]) _ _ _
theorem q_isFromL {x lo hi : Int} (h1 : -9223372036854775808 ≤ lo ∧ lo < 9223372036854775808) (h2 : -9223372036854775808 ≤ hi ∧ hi < 9223372036854775808) : f_X12_isFrom n x lo hi M = some (if lo ≤ jwl x ∧ jwl x ≤ hi then 1 else 0, M) := by
  unfold f_X12_isFrom
  have a1 := (@jcmp_sign x lo).1
  have a2 := (@jcmp_sign x hi).2.1
  rw [jwl_of h1.1 h1.2] at a1
  rw [jwl_of h2.1 h2.2] at a2
  by_cases c1 : jwl x < lo
  · rw [if_pos (a1.2 c1), if_neg (by omega)]
  · by_cases c2 : hi < jwl x
    · rw [if_neg (fun h => c1 (a1.1 h)), if_pos (a2.2 c2), if_neg (by omega)]
    · rw [if_neg (fun h => c1 (a1.1 h)), if_neg (fun h => c2 (a2.1 h)), if_pos (by omega)]
/-! threes -/
def cnt (p : Int × Int × Int → Bool) (f : Nat → Int × Int × Int) : Nat → Int
  | 0 => 0
  | k + 1 => cnt p f k + if p (f k) = true then 1 else 0
theorem cnt_congr {p : Int × Int × Int → Bool} {f g : Nat → Int × Int × Int} : ∀ k : Nat, (∀ j : Nat, j < k → f j = g j) → cnt p f k = cnt p g k := by
  intro k
  induction k with
  | zero => intro _; rfl
  | succ k ih =>
    intro h
    rw [cnt, cnt, ih (fun j hj => h j (by omega)), h k (by omega)]
theorem cnt_range {p : Int × Int × Int → Bool} {f : Nat → Int × Int × Int} : ∀ k : Nat, 0 ≤ cnt p f k ∧ cnt p f k ≤ k := by
  intro k
  induction k with
  | zero => exact ⟨Int.le_refl 0, Int.le_refl 0⟩
  | succ k ih =>
    rw [cnt]
    split <;> omega
theorem cnt_ins {p : Int × Int × Int → Bool} {f g : Nat → Int × Int × Int} {i : Nat} {x : Int × Int × Int} (h1 : ∀ j : Nat, j < i → g j = f j) (h2 : g i = x) (t : Nat) : ∀ d : Nat, i + d = t → (∀ j : Nat, i ≤ j → j < t → g (j + 1) = f j) → cnt p g (t + 1) = cnt p f t + if p x = true then 1 else 0 := by
  intro d
  induction d generalizing t with
  | zero =>
    intro ht _
    obtain rfl : i = t := by omega
    rw [cnt, h2, cnt_congr i h1]
  | succ d ih =>
    intro ht h3
    obtain ⟨u, rfl⟩ : ∃ u, t = u + 1 := ⟨t - 1, by omega⟩
    rw [cnt, ih u (by omega) (fun j j1 j2 => h3 j j1 (by omega)), h3 u (by omega) (by omega), cnt]
    omega
def tri (M : JMem) (j : Nat) : Int × Int × Int := (jw (M 83 j), jw (M 84 j), jw (M 85 j))
theorem jup_if (M : JMem) (a k : Nat) (v : Int) (j : Nat) : jup M a k v a j = if j = k then v else M a j := by
  rw [jup_at]
  by_cases c : j = k
  · rw [if_pos ⟨rfl, c⟩, if_pos c]
  · rw [if_neg (fun w => c w.2), if_neg c]
theorem tri_jup (M : JMem) (i : Nat) (a b c : Int) (j : Nat) : tri (jup (jup (jup M 83 i a) 84 i b) 85 i c) j = if j = i then (jw a, jw b, jw c) else tri M j := by
  have e3 : jup (jup (jup M 83 i a) 84 i b) 85 i c 83 j = if j = i then a else M 83 j := by rw [jup_cell (by omega), jup_cell (by omega), jup_if]
  have e4 : jup (jup (jup M 83 i a) 84 i b) 85 i c 84 j = if j = i then b else M 84 j := by rw [jup_cell (by omega), jup_if, jup_cell (by omega)]
  have e5 : jup (jup (jup M 83 i a) 84 i b) 85 i c 85 j = if j = i then c else M 85 j := by rw [jup_if, jup_cell (by omega), jup_cell (by omega)]
  unfold tri
  rw [e3, e4, e5]
  by_cases h : j = i
  · rw [if_pos h, if_pos h, if_pos h, if_pos h]
  · rw [if_neg h, if_neg h, if_neg h, if_neg h]
theorem tri_82 (M : JMem) (v : Int) (j : Nat) : tri (jup M 82 0 v) j = tri M j := by
  unfold tri
  rw [jup_cell (b := 83) (by omega), jup_cell (b := 84) (by omega), jup_cell (b := 85) (by omega)]
theorem c_insert_L {x1 x2 x3 : Int} {t : Nat} (ht : t < 20) {M0 : JMem} (h82 : M0 82 0 = t) : ∀ (i k : Nat) (M : JMem), i ≤ t → i < k → (∀ c : Nat, c ≠ 83 → c ≠ 84 → c ≠ 85 → M c = M0 c) → (∀ j : Nat, j < i → tri M j = tri M0 j) → (∀ j : Nat, i ≤ j → j < t → tri M (j + 1) = tri M0 j ∧ jw x1 < jw (M0 83 j)) →
    ∃ M' q, f_X3_insert_L16 n k x1 x2 x3 (i : Int) M = some (0, M') ∧ (∀ c : Nat, c ≠ 82 → c ≠ 83 → c ≠ 84 → c ≠ 85 → M' c = M0 c) ∧ M' 82 0 = ((t + 1 : Nat) : Int) ∧ q ≤ t ∧ (∀ j : Nat, j < q → tri M' j = tri M0 j) ∧ tri M' q = (jw x1, jw x2, jw x3) ∧ (∀ j : Nat, q ≤ j → j < t → tri M' (j + 1) = tri M0 j ∧ jw x1 < jw (M0 83 j)) ∧ (0 < q → jw (M0 83 (q - 1)) ≤ jw x1) := by
  -- here it goes in
  have fin : ∀ (i : Nat) (M : JMem), i ≤ t → (∀ c : Nat, c ≠ 83 → c ≠ 84 → c ≠ 85 → M c = M0 c) → (∀ j : Nat, j < i → tri M j = tri M0 j) → (∀ j : Nat, i ≤ j → j < t → tri M (j + 1) = tri M0 j ∧ jw x1 < jw (M0 83 j)) → (0 < i → jw (M0 83 (i - 1)) ≤ jw x1) →
      ∃ M' q, f_X3_insert_L88 n x1 x2 x3 (i : Int) M = some (0, M') ∧ (∀ c : Nat, c ≠ 82 → c ≠ 83 → c ≠ 84 → c ≠ 85 → M' c = M0 c) ∧ M' 82 0 = ((t + 1 : Nat) : Int) ∧ q ≤ t ∧ (∀ j : Nat, j < q → tri M' j = tri M0 j) ∧ tri M' q = (jw x1, jw x2, jw x3) ∧ (∀ j : Nat, q ≤ j → j < t → tri M' (j + 1) = tri M0 j ∧ jw x1 < jw (M0 83 j)) ∧ (0 < q → jw (M0 83 (q - 1)) ≤ jw x1) := fun i M hi hF h1 h2 h3 => by
    have e82 : jup (jup (jup M 83 i x1) 84 i x2) 85 i x3 82 0 = t := by rw [jup_cell (by omega), jup_cell (by omega), jup_cell (by omega), hF 82 (by omega) (by omega) (by omega)]; exact h82
    have et : ∀ j : Nat, tri (jup (jup (jup (jup M 83 i x1) 84 i x2) 85 i x3) 82 0 ((t : Int) + 1)) j = if j = i then (jw x1, jw x2, jw x3) else tri M j := fun j => by rw [tri_82, tri_jup]
    refine ⟨jup (jup (jup (jup M 83 i x1) 84 i x2) 85 i x3) 82 0 ((t : Int) + 1), i, ?_, fun c c1 c2 c3 c4 => ?_, ?_, hi, fun j hj => ?_, ?_, fun j j1 j2 => ?_, h3⟩
    · unfold f_X3_insert_L88
      simp only [letv_ap, letm_ap]
      rw [chk_pos (jin_of (by omega) (by omega) (by omega)), chk_pos (jin_of (by omega) (by omega) (by omega)), chk_pos (jin_of (by omega) (by omega) (by omega)), jwb (by omega), e82]
    · rw [jup_cell c1, jup_cell c4, jup_cell c3, jup_cell c2, hF c c2 c3 c4]
    · rw [jup_at, if_pos ⟨rfl, rfl⟩]; omega
    · rw [et j, if_neg (by omega)]; exact h1 j hj
    · rw [et i, if_pos rfl]
    · rw [et (j + 1), if_neg (by omega)]; exact h2 j j1 j2
  intro i
  induction i with
  | zero =>
    intro k M hi hk hF h1 h2
    obtain ⟨k, rfl⟩ : ∃ q, k = q + 1 := ⟨k - 1, by omega⟩
    rw [f_X3_insert_L16, if_pos (by decide)]
    exact fin 0 M hi hF h1 h2 (fun q => by omega)
  | succ i ih =>
    intro k M hi hk hF h1 h2
    obtain ⟨k, rfl⟩ : ∃ q, k = q + 1 := ⟨k - 1, by omega⟩
    have ti := h1 i (by omega)
    have e83 : jw (M 83 i) = jw (M0 83 i) := congrArg Prod.fst ti
    have em : ((i + 1 : Nat) : Int) - 1 = (i : Int) := by omega
    rw [f_X3_insert_L16, if_neg (by rw [jw_of (x := ((i + 1 : Nat) : Int)) (by omega) (by omega)]; omega), em, chk_pos (jin_of (by omega) (by omega) (by omega)), show (jw (i : Int)).toNat = i from jwb (by omega), e83]
    by_cases c : jw (M0 83 i) ≤ jw x1
    · rw [if_pos c]
      exact fin (i + 1) M hi hF h1 h2 (fun _ => c)
    · rw [if_neg c]
      simp only [letv_ap, letm_ap]
      rw [chk_pos (jin_of (by omega) (by omega) (by omega)), chk_pos (jin_of (by omega) (by omega) (by omega)), chk_pos (jin_of (by omega) (by omega) (by omega)), chk_pos (jin_of (by omega) (by omega) (by omega)), chk_pos (jin_of (by omega) (by omega) (by omega)), chk_pos (jin_of (by omega) (by omega) (by omega)), show (jw ((i + 1 : Nat) : Int)).toNat = i + 1 from jwb (by omega), show ((i + 1 : Nat) : Int) + (-1) = (i : Int) by omega]
      have s1 : jup M 83 (i + 1) (M 83 i) 84 = M 84 := jup_cell (by omega)
      have s2 : jup (jup M 83 (i + 1) (M 83 i)) 84 (i + 1) (M 84 i) 85 = M 85 := by rw [jup_cell (by omega), jup_cell (by omega)]
      rw [s1, s2]
      have et : ∀ j : Nat, tri (jup (jup (jup M 83 (i + 1) (M 83 i)) 84 (i + 1) (M 84 i)) 85 (i + 1) (M 85 i)) j = if j = i + 1 then tri M i else tri M j := fun j => tri_jup M (i + 1) _ _ _ j
      refine ih k _ (by omega) (by omega) (fun c c1 c2 c3 => by rw [jup_cell c3, jup_cell c2, jup_cell c1, hF c c1 c2 c3]) (fun j hj => by rw [et j, if_neg (by omega)]; exact h1 j (by omega)) (fun j j1 j2 => ?_)
      rw [et (j + 1)]
      by_cases cj : j = i
      · subst cj
        rw [if_pos rfl]
        exact ⟨ti, by omega⟩
      · rw [if_neg (by omega)]
        exact h2 j (by omega) j2
/-- what the parrot keeps: the threes told, by hours -/
def TR (np nb : Int) (T : Nat → Int × Int × Int) (t : Nat) (M : JMem) : Prop := M 82 0 = t ∧ (∀ j : Nat, j < t → (0 ≤ jw (M 83 j) ∧ jw (M 83 j) ≤ 64) ∧ (1 ≤ jw (M 84 j) ∧ jw (M 84 j) < np) ∧ (0 ≤ jw (M 85 j) ∧ jw (M 85 j) < nb)) ∧ (∀ i j : Nat, i < j → j < t → jw (M 83 i) ≤ jw (M 83 j)) ∧ ∀ p, cnt p (tri M) t = cnt p T t
def okT (np nb : Int) (x : Int × Int × Int) : Prop := (0 ≤ x.1 ∧ x.1 ≤ 64) ∧ (1 ≤ x.2.1 ∧ x.2.1 < np) ∧ (0 ≤ x.2.2 ∧ x.2.2 < nb)
theorem c_insert {np nb : Int} {T : Nat → Int × Int × Int} {t : Nat} (ht : t < 20) (hf : 100 ≤ n) (h : TR np nb T t M) {x1 x2 x3 : Int} (hx : T t = (jw x1, jw x2, jw x3)) (ho : okT np nb (T t)) : ∃ M', f_X3_insert n x1 x2 x3 M = some (0, M') ∧ (∀ c : Nat, c < 82 ∨ 86 ≤ c → M' c = M c) ∧ TR np nb T (t + 1) M' := by
  obtain ⟨h1, h2, h3, h4⟩ := h
  obtain ⟨M', q, r1, r2, r3, r4, r5, r6, r7, r8⟩ := c_insert_L (n := n) (x1 := x1) (x2 := x2) (x3 := x3) ht h1 t n M (Nat.le_refl t) (by omega) (fun _ _ _ _ => rfl) (fun _ _ => rfl) (fun j j1 j2 => by omega)
  rw [hx] at ho
  have o1 : 0 ≤ jw x1 ∧ jw x1 ≤ 64 := ho.1
  have o2 : 1 ≤ jw x2 ∧ jw x2 < np := ho.2.1
  have o3 : 0 ≤ jw x3 ∧ jw x3 < nb := ho.2.2
  have w : ∀ j : Nat, j < t + 1 → (j < q ∧ tri M' j = tri M j) ∨ (j = q ∧ tri M' j = (jw x1, jw x2, jw x3)) ∨ (q < j ∧ tri M' j = tri M (j - 1) ∧ jw x1 < jw (M 83 (j - 1))) := fun j hj => by
    by_cases c : j < q
    · exact Or.inl ⟨c, r5 j c⟩
    · by_cases c2 : j = q
      · exact Or.inr (Or.inl ⟨c2, by rw [c2]; exact r6⟩)
      · have r := r7 (j - 1) (by omega) (by omega)
        rw [show j - 1 + 1 = j by omega] at r
        exact Or.inr (Or.inr ⟨by omega, r⟩)
  refine ⟨M', ?_, fun c hc => r2 c (by omega) (by omega) (by omega) (by omega), r3, fun j hj => ?_, fun i j hij hj => ?_, fun p => ?_⟩
  · unfold f_X3_insert
    rw [if_pos (by rw [h1, show jw 20 = 20 by decide, jw_of (by omega) (by omega)]; omega), h1]
    exact r1
  · rcases w j hj with ⟨a, b⟩ | ⟨a, b⟩ | ⟨a, b, c⟩
    · have e1 : jw (M' 83 j) = jw (M 83 j) := congrArg Prod.fst b
      have e2 : jw (M' 84 j) = jw (M 84 j) := congrArg (fun z => z.2.1) b
      have e3 : jw (M' 85 j) = jw (M 85 j) := congrArg (fun z => z.2.2) b
      rw [e1, e2, e3]; exact h2 j (by omega)
    · have e1 : jw (M' 83 j) = jw x1 := congrArg Prod.fst b
      have e2 : jw (M' 84 j) = jw x2 := congrArg (fun z => z.2.1) b
      have e3 : jw (M' 85 j) = jw x3 := congrArg (fun z => z.2.2) b
      rw [e1, e2, e3]; exact ⟨o1, o2, o3⟩
    · have e1 : jw (M' 83 j) = jw (M 83 (j - 1)) := congrArg Prod.fst b
      have e2 : jw (M' 84 j) = jw (M 84 (j - 1)) := congrArg (fun z => z.2.1) b
      have e3 : jw (M' 85 j) = jw (M 85 (j - 1)) := congrArg (fun z => z.2.2) b
      rw [e1, e2, e3]; exact h2 (j - 1) (by omega)
  · have ai : (i < q ∧ jw (M' 83 i) = jw (M 83 i)) ∨ (i = q ∧ jw (M' 83 i) = jw x1) ∨ (q < i ∧ jw (M' 83 i) = jw (M 83 (i - 1)) ∧ jw x1 < jw (M 83 (i - 1))) := by
      rcases w i (by omega) with ⟨a, b⟩ | ⟨a, b⟩ | ⟨a, b, c⟩
      · exact Or.inl ⟨a, congrArg Prod.fst b⟩
      · exact Or.inr (Or.inl ⟨a, congrArg Prod.fst b⟩)
      · exact Or.inr (Or.inr ⟨a, congrArg Prod.fst b, c⟩)
    have aj : (j < q ∧ jw (M' 83 j) = jw (M 83 j)) ∨ (j = q ∧ jw (M' 83 j) = jw x1) ∨ (q < j ∧ jw (M' 83 j) = jw (M 83 (j - 1)) ∧ jw x1 < jw (M 83 (j - 1))) := by
      rcases w j hj with ⟨a, b⟩ | ⟨a, b⟩ | ⟨a, b, c⟩
      · exact Or.inl ⟨a, congrArg Prod.fst b⟩
      · exact Or.inr (Or.inl ⟨a, congrArg Prod.fst b⟩)
      · exact Or.inr (Or.inr ⟨a, congrArg Prod.fst b, c⟩)
    rcases ai with ⟨a, b⟩ | ⟨a, b⟩ | ⟨a, b, c⟩
    · -- what lies ahead of it is no greater than the last one ahead
      have le : jw (M 83 i) ≤ jw x1 := by
        have z := r8 (by omega)
        by_cases c : i = q - 1
        · rw [c]; exact z
        · have := h3 i (q - 1) (by omega) (by omega); omega
      rcases aj with ⟨a', b'⟩ | ⟨a', b'⟩ | ⟨a', b', c'⟩
      · rw [b, b']; exact h3 i j hij (by omega)
      · rw [b, b']; exact le
      · rw [b, b']; omega
    · rcases aj with ⟨a', b'⟩ | ⟨a', b'⟩ | ⟨a', b', c'⟩
      · omega
      · omega
      · rw [b, b']; omega
    · rcases aj with ⟨a', b'⟩ | ⟨a', b'⟩ | ⟨a', b', c'⟩
      · omega
      · omega
      · rw [b, b']; exact h3 (i - 1) (j - 1) (by omega) (by omega)
  · rw [cnt_ins (f := tri M) (g := tri M') (i := q) (fun j hj => r5 j hj) r6 t (t - q) (by omega) (fun j j1 j2 => (r7 j j1 j2).1), h4 p, cnt, hx]
end PPARROT

section PLEX
variable {n : Nat} {M X : JMem}
/-! texts: both readers look at the next TOKEN alike -/
def kwL : List (List Nat) := [[15, 4, 4, 19], [16, 12, 1, 3, 5], [20, 18, 1, 9, 14], [6, 18, 15, 13], [20, 15], [1, 20], [20, 1, 11, 5, 19], [19, 5, 1, 20, 19], [2, 5, 1, 19, 20], [19, 9, 26, 5], [20, 18, 21, 19, 20], [15, 21, 20], [8, 21, 14, 20, 19], [20, 9, 3, 11, 5, 20], [8, 15, 21, 18], [13, 15, 14, 4, 1, 25], [2, 21, 25], [12, 5, 20], [8, 1, 12, 20], [1, 14, 25], [23, 8, 5, 14], [9, 14], [5, 1, 20, 5, 14], [3, 12, 15, 3, 11], [12, 15, 15, 16], [5, 14, 4], [19, 20, 15, 16]]
def kw (c : Nat) : List Nat := kwL.getD c []
def kpL : List Nat := [0, 1, 2, 6, 7, 8, 9, 10, 3, 11, 12, 13, 4, 5, 14, 15, 16, 17, 18, 19, 20, 24, 25, 26, 21, 22, 23]
def kp (c : Nat) : Nat := kpL.getD c 0
def kqL : List Nat := [0, 1, 2, 8, 12, 13, 3, 4, 5, 6, 7, 9, 10, 11, 14, 15, 16, 17, 18, 19, 20, 24, 25, 26, 21, 22, 23]
def kq (c : Nat) : Nat := kqL.getD c 0
def ksL : List Nat := [1, 6, 12, 18, 24, 30, 37, 42, 45, 48, 54, 60, 65, 71, 75, 80, 87, 91, 95, 100, 104, 109, 114, 118, 123, 126, 132, 138]
def ks (m : Nat) : Nat := ksL.getD m 0
theorem k_tab : ∀ c : Nat, c < 27 → jM0 11 c = ((wd5 (kw c) : Nat) : Int) := by decide +kernel
theorem k_wd : ∀ c : Nat, c < 27 → 1 ≤ (kw c).length ∧ (kw c).length ≤ 6 ∧ ∀ x ∈ kw c, 1 ≤ x ∧ x ≤ 26 := by decide +kernel
theorem k_inj : ∀ c : Nat, c < 27 → ∀ d : Nat, d < 27 → kw c = kw d → c = d := by decide +kernel
theorem k_pq : ∀ c : Nat, c < 27 → kq (kp c) = c ∧ kp c < 27 ∧ kp (kq c) = c ∧ kq c < 27 := by decide +kernel
theorem k_len : ∀ m : Nat, m < 27 → ks (m + 1) = ks m + (kw (kq m)).length + 1 ∧ ks (m + 1) ≤ 138 ∧ jSc (ks m + (kw (kq m)).length) = 32 := by decide +kernel
theorem k_chr : ∀ m : Nat, m < 27 → ∀ i : Nat, i < (kw (kq m)).length → jSc (ks m + i) = (((kw (kq m)).getD i 0 + 96 : Nat) : Int) := by decide +kernel
theorem ks_0 : ks 0 = 1 ∧ ks 27 = 138 := by decide
/-- the letters at a place -/
def wl (T : Nat → Int) (s m : Nat) : List Nat := (List.range m).map fun i => (T (s + i) - 96).toNat
theorem wl_len (T : Nat → Int) (s m : Nat) : (wl T s m).length = m := by simp [wl]
theorem wl_succ (T : Nat → Int) (s m : Nat) : wl T s (m + 1) = wl T s m ++ [(T (s + m) - 96).toNat] := by simp [wl, List.range_succ]
theorem wl_get {T : Nat → Int} {s m i : Nat} (h : i < m) : (wl T s m).getD i 0 = (T (s + i) - 96).toNat := by simp [wl, h]
theorem wd5_c (u : List Nat) (a : Nat) : wd5 (u ++ [a]) = 32 * wd5 u + a := by simp [wd5, List.foldl_append]
theorem wd8_c (u : List Nat) (a : Nat) : wd8 (u ++ [a]) = 256 * wd8 u + (a + 96) := by simp [wd8, List.foldl_append]
abbrev isL (b : Int) : Prop := 97 ≤ b ∧ b ≤ 122
abbrev isD (b : Int) : Prop := 48 ≤ b ∧ b ≤ 57
theorem wl_mem {T : Nat → Int} {s m : Nat} (h : ∀ i : Nat, i < m → isL (T (s + i))) : ∀ x ∈ wl T s m, 1 ≤ x ∧ x ≤ 26 := by
  intro x hx
  unfold wl at hx
  rw [List.mem_map] at hx
  obtain ⟨i, hi, rfl⟩ := hx
  have := h i (List.mem_range.1 hi)
  unfold isL at this
  omega
theorem wd5_lt {T : Nat → Int} {s : Nat} : ∀ m : Nat, (∀ i : Nat, i < m → isL (T (s + i))) → wd5 (wl T s m) < 32 ^ m := by
  intro m
  induction m with
  | zero => intro _; simp [wl, wd5]
  | succ m ih =>
    intro h
    have h1 := ih (fun i hi => h i (by omega))
    have h2 := h m (by omega)
    unfold isL at h2
    rw [wl_succ, wd5_c, Nat.pow_succ]
    omega
theorem wd8_lt {T : Nat → Int} {s : Nat} : ∀ m : Nat, (∀ i : Nat, i < m → isL (T (s + i))) → 2 * wd8 (wl T s m) < 256 ^ m := by
  intro m
  induction m with
  | zero => intro _; simp [wl, wd8]
  | succ m ih =>
    intro h
    have h1 := ih (fun i hi => h i (by omega))
    have h2 := h m (by omega)
    unfold isL at h2
    rw [wl_succ, wd8_c, Nat.pow_succ]
    omega
theorem f32_inj : ∀ l l' : List Nat, (∀ c ∈ l, 1 ≤ c ∧ c ≤ 26) → (∀ c ∈ l', 1 ≤ c ∧ c ≤ 26) → l.foldr (fun c v => 32 * v + c) 0 = l'.foldr (fun c v => 32 * v + c) 0 → l = l' := by
  intro l
  induction l with
  | nil =>
    intro l' _ h' h
    cases l' with
    | nil => rfl
    | cons a t =>
      have := h' a List.mem_cons_self
      simp only [List.foldr] at h
      omega
  | cons b u ih =>
    intro l' hl h' h
    have hb := hl b List.mem_cons_self
    cases l' with
    | nil =>
      simp only [List.foldr] at h
      omega
    | cons a t =>
      have := h' a List.mem_cons_self
      simp only [List.foldr] at h
      have e : b = a := by omega
      subst e
      rw [ih t (fun c hc => hl c (List.mem_cons_of_mem _ hc)) (fun c hc => h' c (List.mem_cons_of_mem _ hc)) (by omega)]
theorem f256_inj : ∀ l l' : List Nat, (∀ c ∈ l, 1 ≤ c ∧ c ≤ 26) → (∀ c ∈ l', 1 ≤ c ∧ c ≤ 26) → l.foldr (fun c v => 256 * v + (c + 96)) 0 = l'.foldr (fun c v => 256 * v + (c + 96)) 0 → l = l' := by
  intro l
  induction l with
  | nil =>
    intro l' _ h' h
    cases l' with
    | nil => rfl
    | cons a t =>
      have := h' a List.mem_cons_self
      simp only [List.foldr] at h
      omega
  | cons b u ih =>
    intro l' hl h' h
    have hb := hl b List.mem_cons_self
    cases l' with
    | nil =>
      simp only [List.foldr] at h
      omega
    | cons a t =>
      have := h' a List.mem_cons_self
      simp only [List.foldr] at h
      have e : b = a := by omega
      subst e
      rw [ih t (fun c hc => hl c (List.mem_cons_of_mem _ hc)) (fun c hc => h' c (List.mem_cons_of_mem _ hc)) (by omega)]
theorem wd5_inj {w w' : List Nat} (h : ∀ c ∈ w, 1 ≤ c ∧ c ≤ 26) (h' : ∀ c ∈ w', 1 ≤ c ∧ c ≤ 26) (e : wd5 w = wd5 w') : w = w' := by
  have q : w.reverse = w'.reverse := f32_inj w.reverse w'.reverse (fun c hc => h c (List.mem_reverse.1 hc)) (fun c hc => h' c (List.mem_reverse.1 hc)) (by rw [List.foldr_reverse, List.foldr_reverse]; exact e)
  exact List.reverse_inj.1 q
theorem wd8_inj {w w' : List Nat} (h : ∀ c ∈ w, 1 ≤ c ∧ c ≤ 26) (h' : ∀ c ∈ w', 1 ≤ c ∧ c ≤ 26) (e : wd8 w = wd8 w') : w = w' := by
  have q : w.reverse = w'.reverse := f256_inj w.reverse w'.reverse (fun c hc => h c (List.mem_reverse.1 hc)) (fun c hc => h' c (List.mem_reverse.1 hc)) (by rw [List.foldr_reverse, List.foldr_reverse]; exact e)
  exact List.reverse_inj.1 q
/-! codes in 64 bits -/
theorem jlor_nat {a b : Nat} (ha : a < 2 ^ 63) (hb : b < 2 ^ 63) : jlor (a : Int) (b : Int) = ((a ||| b : Nat) : Int) := by
  unfold jlor
  rw [Int64.ofInt_eq_ofNat, Int64.ofInt_eq_ofNat, show Int64.ofNat a ||| Int64.ofNat b = Int64.ofNat (a ||| b) from Int64.toBitVec_inj.1 (by simp), Int64.toInt_ofNat_of_lt (Nat.or_lt_two_pow ha hb)]
theorem jlshl_5 {a : Nat} (h : a * 32 < 2 ^ 63) : jlshl (a : Int) 5 = ((a * 32 : Nat) : Int) := by
  unfold jlshl
  have e : ((Int32.ofInt 5).toInt64 &&& 63) = 5 := by decide
  rw [e, Int64.ofInt_eq_ofNat]
  have e2 : Int64.ofNat a <<< (5 : Int64) = Int64.ofNat (a * 32) := by
    apply Int64.toBitVec_inj.1
    rw [Int64.toBitVec_shiftLeft, show (5 : Int64).toBitVec.smod 64 = 5#64 by decide]
    apply BitVec.eq_of_toNat_eq
    simp [Nat.shiftLeft_eq]
  rw [e2, Int64.toInt_ofNat_of_lt h]
theorem jlshl_8 {a : Nat} (h : a * 256 < 2 ^ 63) : jlshl (a : Int) 8 = ((a * 256 : Nat) : Int) := by
  unfold jlshl
  have e : ((Int32.ofInt 8).toInt64 &&& 63) = 8 := by decide
  rw [e, Int64.ofInt_eq_ofNat]
  have e2 : Int64.ofNat a <<< (8 : Int64) = Int64.ofNat (a * 256) := by
    apply Int64.toBitVec_inj.1
    rw [Int64.toBitVec_shiftLeft, show (8 : Int64).toBitVec.smod 64 = 8#64 by decide]
    apply BitVec.eq_of_toNat_eq
    simp [Nat.shiftLeft_eq]
  rw [e2, Int64.toInt_ofNat_of_lt h]
theorem code5 {a l : Nat} (ha : a < 2 ^ 50) (hl : l < 32) : jlor (jlshl (a : Int) 5) (l : Int) = ((32 * a + l : Nat) : Int) := by
  rw [jlshl_5 (by omega), jlor_nat (by omega) (by omega), Nat.mul_comm a, ← Nat.two_pow_add_eq_or_of_lt (i := 5) (by omega)]
theorem code8 {a l : Nat} (ha : a < 2 ^ 55) (hl : l < 256) : jlor (jlshl (a : Int) 8) (l : Int) = ((256 * a + l : Nat) : Int) := by
  rw [jlshl_8 (by omega), jlor_nat (by omega) (by omega), Nat.mul_comm a, ← Nat.two_pow_add_eq_or_of_lt (i := 8) (by omega)]
end PLEX

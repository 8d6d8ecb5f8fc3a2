section PTOK
variable {n : Nat} {M X : JMem}
/-! what is asked of a token -/
theorem list_ext : ∀ u w : List Nat, u.length = w.length → (∀ i : Nat, i < u.length → u.getD i 0 = w.getD i 0) → u = w := by
  intro u
  induction u with
  | nil => intro w h _; cases w with
    | nil => rfl
    | cons a t => simp at h
  | cons b u ih => intro w h g; cases w with
    | nil => simp at h
    | cons a t =>
      have e0 := g 0 (by simp)
      simp at e0
      rw [e0, ih t (by simpa using h) (fun i hi => by simpa using g (i + 1) (by simpa using hi))]
theorem getD_mem : ∀ (w : List Nat) (i : Nat), i < w.length → w.getD i 0 ∈ w := by
  intro w
  induction w with
  | nil => intro i h; simp at h
  | cons a t ih => intro i h; cases i with
    | zero => simp
    | succ j => exact List.mem_cons_of_mem a (by simpa using ih j (by simpa using h))
/-- a word stands at s, up to its end -/
def WSt (T : Nat → Int) (N : Nat) (g : Nat → Int) (s : Nat) (w : List Nat) : Prop := g 11 = (N : Int) ∧ g 12 = 2 ∧ g 13 = (s : Int) ∧ g 14 = ((s + w.length : Nat) : Int) ∧ s + w.length ≤ N ∧ (∀ c ∈ w, 1 ≤ c ∧ c ≤ 26) ∧ ∀ i : Nat, i < w.length → T (s + i) = ((w.getD i 0 + 96 : Nat) : Int)
theorem WSt.let_ {T : Nat → Int} {N s : Nat} {g : Nat → Int} {w : List Nat} (h : WSt T N g s w) {i : Nat} (hi : i < w.length) : 97 ≤ T (s + i) ∧ T (s + i) ≤ 122 := by
  have := h.2.2.2.2.2.1 (w.getD i 0) (getD_mem w i hi)
  have := h.2.2.2.2.2.2 i hi
  omega
theorem q_w68 {T : Nat → Int} {N s : Nat} {g : Nat → Int} {w : List Nat} (hT : TT T N) (hX : ∀ k : Nat, k < N → X 174 k = T k) (h : WSt T N g s w) {r : Int → Int → JMem → Option (Int × JMem)} {m : Nat} (hm : m < 27) (hl : w.length = (kw (kq m)).length) : ∀ (d i k : Nat), i + d = w.length → d < k → (∀ j : Nat, j < i → w.getD j 0 = (kw (kq m)).getD j 0) →
    f_X12_inWords_L68 n r k (m : Int) ((ks m : Nat) : Int) ((ks m + w.length : Nat) : Int) 1 ((ks m + i : Nat) : Int) (jrow X 167 g) = if w = kw (kq m) then some ((m : Int), jrow X 167 g) else r ((m + 1 : Nat) : Int) ((ks (m + 1) : Nat) : Int) (jrow X 167 g) := by
  have h900 := hT.1
  have h' := h
  obtain ⟨g11, g12, g13, g14, gN, gm, gT⟩ := h'
  have kl := k_len m hm
  have next : ∀ v : Int, jw v = 0 → f_X12_inWords_L115 n r (m : Int) ((ks m + w.length : Nat) : Int) v (jrow X 167 g) = r ((m + 1 : Nat) : Int) ((ks (m + 1) : Nat) : Int) (jrow X 167 g) := fun v hv => by
    unfold f_X12_inWords_L115
    rw [if_pos hv, letv_ap, letv_ap, show (m : Int) + 1 = ((m + 1 : Nat) : Int) by omega, show ((ks m + w.length : Nat) : Int) + 1 = ((ks (m + 1) : Nat) : Int) by rw [kl.1, hl]; omega]
  intro d
  induction d with
  | zero =>
    intro i k hi hk hp
    obtain ⟨k, rfl⟩ : ∃ z, k = z + 1 := ⟨k - 1, by omega⟩
    obtain rfl : i = w.length := by omega
    rw [f_X12_inWords_L68, if_pos (Int.le_refl _), if_pos (list_ext w _ hl hp)]
    unfold f_X12_inWords_L115
    rw [if_neg (by decide)]
  | succ d ih =>
    intro i k hi hk hp
    obtain ⟨k, rfl⟩ : ∃ z, k = z + 1 := ⟨k - 1, by omega⟩
    have hil : i < w.length := by omega
    have hlt := h.let_ hil
    have eb : bt T N (s + i) = T (s + i) := by
      unfold bt
      rw [if_pos (by omega), if_pos (by omega)]
    have ec := k_chr m hm i (by omega)
    have hmm := gm (w.getD i 0) (getD_mem w i hil)
    have hkm := (k_wd (kq m) (k_pq m hm).2.2.2).2.2 ((kw (kq m)).getD i 0) (getD_mem _ i (by omega))
    have e0 : (s : Int) + ((ks m + i : Nat) : Int) - ((ks m : Nat) : Int) = ((s + i : Nat) : Int) := by omega
    rw [f_X12_inWords_L68, if_neg (by rw [jwN (by omega), jwN (by omega)]; omega), if_neg (by decide), chk_pos (jinN (by omega) (by omega)), r67, g13, e0, q_byte hT hX g11 (by omega), bnd_some, jwT (by omega), ec, eb, gT i hil]
    unfold f_X12_inWords_L107
    have e1 : ((ks m + i : Nat) : Int) + 1 = ((ks m + (i + 1) : Nat) : Int) := by omega
    by_cases c : w.getD i 0 = (kw (kq m)).getD i 0
    · rw [if_pos (by rw [c]), letv_ap, letv_ap, e1]
      refine ih (i + 1) k (by omega) (by omega) (fun j hj => ?_)
      by_cases z : j = i
      · rw [z]; exact c
      · exact hp j (by omega)
    · rw [if_neg (by rw [jwN (by omega), jwN (by omega)]; omega), letv_ap, letv_ap, e1, if_neg (fun z => c (by rw [z]))]
      obtain ⟨k, rfl⟩ : ∃ z, k = z + 1 := ⟨k - 1, by omega⟩
      rw [f_X12_inWords_L68]
      by_cases z : jw ((ks m + w.length : Nat) : Int) ≤ jw ((ks m + (i + 1) : Nat) : Int)
      · rw [if_pos z, next 0 (by decide)]
      · rw [if_neg z, if_pos (by decide), next 0 (by decide)]
theorem q_w25 {r : Int → Int → JMem → Option (Int × JMem)} {m : Nat} (hm : m < 27) : ∀ (d i k : Nat), i + d = (kw (kq m)).length → d < k →
    f_X12_inWords_L25 n r k (m : Int) ((ks m : Nat) : Int) ((ks m + i : Nat) : Int) X = f_X12_inWords_L42 n r (m : Int) ((ks m : Nat) : Int) ((ks m + (kw (kq m)).length : Nat) : Int) X := by
  have kl := k_len m hm
  have c32 : jw 32 = 32 := by decide
  intro d
  induction d with
  | zero =>
    intro i k hi hk
    obtain ⟨k, rfl⟩ : ∃ z, k = z + 1 := ⟨k - 1, by omega⟩
    obtain rfl : i = (kw (kq m)).length := by omega
    rw [f_X12_inWords_L25, chk_pos (jinN (by omega) (by omega)), jwT (by omega), kl.2.2, if_pos rfl]
  | succ d ih =>
    intro i k hi hk
    obtain ⟨k, rfl⟩ : ∃ z, k = z + 1 := ⟨k - 1, by omega⟩
    have hkm := (k_wd (kq m) (k_pq m hm).2.2.2).2.2 ((kw (kq m)).getD i 0) (getD_mem _ i (by omega))
    rw [f_X12_inWords_L25, chk_pos (jinN (by omega) (by omega)), jwT (by omega), k_chr m hm i (by omega), if_neg (by rw [jwN (by omega), show jw 32 = 32 by decide]; omega), letv_ap, show ((ks m + i : Nat) : Int) + 1 = ((ks m + (i + 1) : Nat) : Int) by omega, ih (i + 1) k (by omega) (by omega)]
theorem q_w14 {T : Nat → Int} {N s : Nat} {g : Nat → Int} {w : List Nat} (hn : 2000 ≤ n) (hT : TT T N) (hX : ∀ k : Nat, k < N → X 174 k = T k) (h : WSt T N g s w) : ∀ (d m k : Nat), m + d = 27 → d < k → ∃ r : Int, f_X12_inWords_L14 n k (m : Int) ((ks m : Nat) : Int) (jrow X 167 g) = some (r, jrow X 167 g) ∧ (((∀ c : Nat, m ≤ c → c < 27 → w ≠ kw (kq c)) ∧ r = -1) ∨ ∃ c : Nat, m ≤ c ∧ c < 27 ∧ w = kw (kq c) ∧ r = (c : Int)) := by
  have h900 := hT.1
  have h' := h
  obtain ⟨g11, g12, g13, g14, gN, gm, gT⟩ := h'
  have esl : jSl = ((138 : Nat) : Int) := rfl
  intro d
  induction d with
  | zero =>
    intro m k hi hk
    obtain ⟨k, rfl⟩ : ∃ z, k = z + 1 := ⟨k - 1, by omega⟩
    obtain rfl : m = 27 := by omega
    exact ⟨-1, by rw [f_X12_inWords_L14, if_pos (by decide)], Or.inl ⟨fun c c1 c2 => by omega, rfl⟩⟩
  | succ d ih =>
    intro m k hi hk
    obtain ⟨k, rfl⟩ : ∃ z, k = z + 1 := ⟨k - 1, by omega⟩
    have hm : m < 27 := by omega
    have kl := k_len m hm
    have kd := k_wd (kq m) (k_pq m hm).2.2.2
    have e25 := q_w25 (n := n) (X := jrow X 167 g) (r := f_X12_inWords_L14 n k) hm (kw (kq m)).length 0 n (by omega) (by omega)
    obtain ⟨r, r1, r2⟩ := ih (m + 1) k (by omega) (by omega)
    have up : (w = kw (kq m) → False) → (((∀ c : Nat, m ≤ c → c < 27 → w ≠ kw (kq c)) ∧ r = -1) ∨ ∃ c : Nat, m ≤ c ∧ c < 27 ∧ w = kw (kq c) ∧ r = (c : Int)) := fun hw => by
      rcases r2 with ⟨r2, r3⟩ | ⟨c', r2, r3, r4, r5⟩
      · refine Or.inl ⟨fun c' c1 c2 => ?_, r3⟩
        by_cases z : c' = m
        · rw [z]; exact hw
        · exact r2 c' (by omega) c2
      · exact Or.inr ⟨c', by omega, r3, r4, r5⟩
    rw [f_X12_inWords_L14, esl, if_neg (by rw [jwN (by omega), jwN (by omega)]; omega), letv_ap, show f_X12_inWords_L25 n (f_X12_inWords_L14 n k) n (m : Int) ((ks m : Nat) : Int) ((ks m : Nat) : Int) (jrow X 167 g) = _ from e25]
    unfold f_X12_inWords_L42 f_X12_inWords_L63
    rw [r67, g13, g14]
    by_cases c : w.length = (kw (kq m)).length
    · rw [if_pos (by rw [jwS (by omega) (by omega), jwS (by omega) (by omega), c]; congr 1; omega), letv_ap, letv_ap, ← c]
      have e68 := q_w68 (n := n) hT hX h (r := f_X12_inWords_L14 n k) hm c w.length 0 n (by omega) (by omega) (fun j hj => by omega)
      rw [show f_X12_inWords_L68 n (f_X12_inWords_L14 n k) n (m : Int) ((ks m : Nat) : Int) ((ks m + w.length : Nat) : Int) 1 ((ks m : Nat) : Int) (jrow X 167 g) = _ from e68]
      by_cases z : w = kw (kq m)
      · rw [if_pos z]
        exact ⟨(m : Int), rfl, Or.inr ⟨m, Nat.le_refl _, hm, z, rfl⟩⟩
      · rw [if_neg z]
        exact ⟨r, r1, up z⟩
    · rw [if_neg (by rw [jwS (by omega) (by omega), jwS (by omega) (by omega)]; omega), letv_ap, letv_ap]
      obtain ⟨q, rfl⟩ : ∃ z, n = z + 1 := ⟨n - 1, by omega⟩
      rw [f_X12_inWords_L68]
      have next : f_X12_inWords_L115 (q + 1) (f_X12_inWords_L14 (q + 1) k) (m : Int) ((ks m + (kw (kq m)).length : Nat) : Int) 0 (jrow X 167 g) = some (r, jrow X 167 g) := by
        unfold f_X12_inWords_L115
        rw [if_pos (by decide), letv_ap, letv_ap, show (m : Int) + 1 = ((m + 1 : Nat) : Int) by omega, show ((ks m + (kw (kq m)).length : Nat) : Int) + 1 = ((ks (m + 1) : Nat) : Int) by rw [kl.1]; omega]
        exact r1
      refine ⟨r, ?_, up (fun z => c (by rw [z]))⟩
      by_cases z : jw ((ks m + (kw (kq m)).length : Nat) : Int) ≤ jw ((ks m : Nat) : Int)
      · rw [if_pos z, next]
      · rw [if_neg z, if_pos (by decide), next]
/-- which keyword a word is, for the reference -/
theorem q_inW {T : Nat → Int} {N s : Nat} {g : Nat → Int} {w : List Nat} (hn : 2000 ≤ n) (hT : TT T N) (hX : ∀ k : Nat, k < N → X 174 k = T k) (h : WSt T N g s w) : (∀ c : Nat, c < 27 → w = kw c → f_X12_inWords n (jrow X 167 g) = some (((kp c : Nat) : Int), jrow X 167 g)) ∧ ((∀ c : Nat, c < 27 → w ≠ kw c) → f_X12_inWords n (jrow X 167 g) = some (-1, jrow X 167 g)) := by
  obtain ⟨r, r1, r2⟩ := q_w14 (n := n) hn hT hX h 27 0 n (by omega) (by omega)
  have e : f_X12_inWords n (jrow X 167 g) = some (r, jrow X 167 g) := by
    unfold f_X12_inWords
    rw [r67, h.2.1, if_pos (by decide), letv_ap, letv_ap]
    exact r1
  refine ⟨fun c hc hw => ?_, fun hw => ?_⟩
  · rcases r2 with ⟨r2, r3⟩ | ⟨c', r2, r3, r4, r5⟩
    · exact absurd (hw.trans (by rw [(k_pq c hc).1])) (r2 (kp c) (by omega) (k_pq c hc).2.1)
    · have z := k_inj c hc (kq c') (k_pq c' r3).2.2.2 (hw.symm.trans r4)
      rw [e, r5, z, (k_pq c' r3).2.2.1]
  · rcases r2 with ⟨r2, r3⟩ | ⟨c', r2, r3, r4, r5⟩
    · rw [e, r3]
    · exact absurd r4 (hw (kq c') (k_pq c' r3).2.2.2)
/-- a name's number, for the reference -/
theorem WSt.wl_ {T : Nat → Int} {N s : Nat} {g : Nat → Int} {w : List Nat} (h : WSt T N g s w) : w = wl T s w.length := by
  refine list_ext w _ (by rw [wl_len]) (fun i hi => ?_)
  rw [wl_get hi, h.2.2.2.2.2.2 i hi]
  omega
theorem q_nameL {T : Nat → Int} {N s : Nat} {g : Nat → Int} {w : List Nat} (hT : TT T N) (hX : ∀ k : Nat, k < N → X 174 k = T k) (h : WSt T N g s w) (h8 : w.length ≤ 8) : ∀ (d i k : Nat), i + d = w.length → d < k → f_X12_nameHere_L7 n k ((wd8 (wl T s i) : Nat) : Int) ((s + i : Nat) : Int) (jrow X 167 g) = some (((wd8 w : Nat) : Int), jrow X 167 g) := by
  have h900 := hT.1
  have ew := h.wl_
  have h' := h
  obtain ⟨g11, g12, g13, g14, gN, gm, gT⟩ := h'
  intro d
  induction d with
  | zero =>
    intro i k hi hk
    obtain ⟨k, rfl⟩ : ∃ z, k = z + 1 := ⟨k - 1, by omega⟩
    obtain rfl : i = w.length := by omega
    rw [f_X12_nameHere_L7, r67, g14, if_pos (Int.le_refl _), ← ew]
  | succ d ih =>
    intro i k hi hk
    obtain ⟨k, rfl⟩ : ∃ z, k = z + 1 := ⟨k - 1, by omega⟩
    have hlt := h.let_ (i := i) (by omega)
    have eb : bt T N (s + i) = T (s + i) := by
      unfold bt
      rw [if_pos (by omega), if_pos (by omega)]
    have hw8 := wd8_lt (T := T) (s := s) i (fun j hj => h.let_ (by omega))
    have hp : 256 ^ i ≤ 256 ^ 7 := Nat.pow_le_pow_right (by omega) (by omega)
    have ec : jlor (jlshl ((wd8 (wl T s i) : Nat) : Int) 8) (jw (T (s + i))) = ((wd8 (wl T s (i + 1)) : Nat) : Int) := by
      rw [wl_succ, wd8_c, jw_of (x := T (s + i)) (by omega) (by omega), show T (s + i) = (((T (s + i) - 96).toNat + 96 : Nat) : Int) by omega, code8 (by omega) (by omega)]
      congr 3
      omega
    rw [f_X12_nameHere_L7, r67, g14, if_neg (by rw [jwN (by omega), jwN (by omega)]; omega), q_byte hT hX g11 (by omega), bnd_some, eb, letv_ap, letv_ap, ec, show ((s + i : Nat) : Int) + 1 = ((s + (i + 1) : Nat) : Int) by omega]
    exact ih (i + 1) k (by omega) (by omega)
theorem q_name {T : Nat → Int} {N s : Nat} {g : Nat → Int} {w : List Nat} (hn : 2000 ≤ n) (hT : TT T N) (hX : ∀ k : Nat, k < N → X 174 k = T k) (h : WSt T N g s w) (h8 : w.length ≤ 8) : f_X12_nameHere n (jrow X 167 g) = some (((wd8 w : Nat) : Int), jrow X 167 g) ∧ wd8 w < 2 ^ 63 := by
  have ew := h.wl_
  have hw8 := wd8_lt (T := T) (s := s) w.length (fun j hj => h.let_ hj)
  have hp : 256 ^ w.length ≤ 256 ^ 8 := Nat.pow_le_pow_right (by omega) h8
  rw [← ew] at hw8
  refine ⟨?_, by omega⟩
  unfold f_X12_nameHere
  rw [letv_ap, r67, h.2.2.1, letv_ap]
  exact q_nameL hT hX h h8 w.length 0 n (by omega) (by omega)
end PTOK

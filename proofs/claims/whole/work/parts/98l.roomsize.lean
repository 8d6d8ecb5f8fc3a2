section PRSIZE
variable {n : Nat} {M : JMem}
theorem jdiv2 {x : Nat} (hx : x < 1000) : jdiv (x : Int) 2 = ((x / 2 : Nat) : Int) := by
  unfold jdiv
  rw [Int32.toInt_div, jw_i, jw_i, jw_of (x := (x : Int)) (by omega) (by omega), show jw 2 = 2 by decide, Int.tdiv_eq_ediv_of_nonneg (by omega)]
  have e : (x : Int) / 2 = ((x / 2 : Nat) : Int) := by omega
  rw [e]
  exact jw_of (x := ((x / 2 : Nat) : Int)) (by omega) (by omega)
theorem isR.mono {F : Nat → Nat → Bool} {Z : Nat → Nat} {s s' : Nat} (h : s ≤ s') (y : Nat) (_ : y < 256) (r : isR F Z s y) : isR F Z s' y := ⟨r.1, Nat.le_trans r.2 h⟩
/-- rooms of a size are enough -/
def Fts (A : Nat → Int) (S m s : Nat) : Prop := ∃ k : Nat, k ≤ m ∧ Part (isR (hF A) (hZ A) s) k S
theorem Fts.mono {A : Nat → Int} {S m s s' : Nat} (h : s ≤ s') (f : Fts A S m s) : Fts A S m s' := by
  obtain ⟨k, k1, k2⟩ := f
  exact ⟨k, k1, Part.mono (isR.mono h) k S k2⟩
theorem LK.fts {A : Nat → Int} {S m s : Nat} {inf v : Int} (hi : 1000 ≤ inf) (m8 : m ≤ 8) (h : LK (isR (hF A) (hZ A) s) S inf v) : v ≤ m ↔ Fts A S m s := by
  rcases h with ⟨a, b⟩ | ⟨k, a, c, d, e⟩
  · exact ⟨fun q => by omega, fun ⟨k, _, k2⟩ => absurd k2 (b k)⟩
  · constructor
    · exact fun q => ⟨k, by omega, d⟩
    · rintro ⟨j, j1, j2⟩
      have := e j j2
      omega
def RSz (A : Nat → Int) (S m v : Nat) : Prop := 1 ≤ v ∧ v ≤ 73 ∧ (v = 73 ∨ Fts A S m v) ∧ ∀ s : Nat, 1 ≤ s → s < v → ¬ Fts A S m s
theorem RSz.uniq {A : Nat → Int} {S m v w : Nat} (h : RSz A S m v) (h2 : RSz A S m w) : v = w := by
  obtain ⟨a1, a2, a3, a4⟩ := h
  obtain ⟨b1, b2, b3, b4⟩ := h2
  by_cases c : v < w
  · rcases a3 with z | z
    · omega
    · exact absurd z (b4 v a1 c)
  · by_cases c2 : w < v
    · rcases b3 with z | z
      · omega
      · exact absurd z (a4 w b1 c2)
    · omega
theorem c_sizeL (hf : 1000 ≤ n) {A : Nat → Int} {nb : Nat} (n8 : nb ≤ 8) {M0 : JMem} (hW : WS A nb (M0 80)) {S m : Nat} (hS : S < 2 ^ nb) (m8 : m ≤ 8) :
    ∀ (d i lo hi q : Nat) (M : JMem), i + d = 8 → d < q → hi - lo < 2 ^ d → 1 ≤ lo → lo ≤ hi → hi ≤ 73 → (hi = 73 ∨ Fts A S m hi) → (∀ s : Nat, 1 ≤ s → s < lo → ¬ Fts A S m s) → (∀ c : Nat, c ≠ 81 → M c = M0 c) →
    ∃ v M', f_X11_roomSize_L45 n q (S : Int) (m : Int) (lo : Int) (hi : Int) (i : Int) M = f_X11_roomSize_L98 n (v : Nat) M' ∧ (∀ c : Nat, c ≠ 81 → M' c = M0 c) ∧ RSz A S m v := by
  intro d
  induction d with
  | zero =>
    intro i lo hi q M hid hq hr h1 h2 h3 h4 h5 gF
    obtain ⟨q, rfl⟩ : ∃ z, q = z + 1 := ⟨q - 1, by omega⟩
    rw [show (2 : Nat) ^ 0 = 1 from rfl] at hr
    have e : lo = hi := by omega
    refine ⟨lo, M, ?_, gF, h1, by omega, by rw [e]; exact h4, h5⟩
    rw [f_X11_roomSize_L45, if_pos (by rw [show jw 8 = 8 by decide, jw_of (x := (i : Int)) (by omega) (by omega)]; omega)]
  | succ d ih =>
    intro i lo hi q M hid hq hr h1 h2 h3 h4 h5 gF
    obtain ⟨q, rfl⟩ : ∃ z, q = z + 1 := ⟨q - 1, by omega⟩
    rw [Nat.pow_succ] at hr
    rw [f_X11_roomSize_L45, if_neg (by rw [show jw 8 = 8 by decide, jw_of (x := (i : Int)) (by omega) (by omega)]; omega), jw_of (x := (hi : Int)) (by omega) (by omega), jw_of (x := (lo : Int)) (by omega) (by omega)]
    by_cases c : hi ≤ lo
    · have e : lo = hi := by omega
      refine ⟨lo, M, ?_, gF, h1, by omega, by rw [e]; exact h4, h5⟩
      rw [if_pos (by omega)]
    · rw [if_neg (by omega), show (lo : Int) + (hi : Int) = ((lo + hi : Nat) : Int) by omega, jdiv2 (by omega)]
      simp only [letv_ap]
      obtain ⟨r, M2, r1, r2, r3⟩ := c_fewest (n := n) (M := M) hf n8 (by rw [gF 80 (by omega)]; exact hW) (s := (lo + hi) / 2) (by omega) hS
      have ft := r3.fts (by omega) m8
      have rr := r3.range
      rw [r1, bnd_some, jw_of (x := (m : Int)) (by omega) (by omega), jw_of (x := r) (by omega) (by omega)]
      unfold f_X11_roomSize_L92
      simp only [letv_ap]
      by_cases c2 : (m : Int) < r
      · obtain ⟨v, M3, k1, k2, k3⟩ := ih (i + 1) ((lo + hi) / 2 + 1) hi q M2 (by omega) (by omega) (by omega) (by omega) (by omega) h3 h4 (fun s s1 s2 f => by
          have := ft.2 (f.mono (show s ≤ (lo + hi) / 2 by omega))
          omega) (fun c hc => by rw [r2 c hc, gF c hc])
        refine ⟨v, M3, ?_, k2, k3⟩
        rw [if_pos c2, show (((lo + hi) / 2 : Nat) : Int) + 1 = (((lo + hi) / 2 + 1 : Nat) : Int) by omega, show (i : Int) + 1 = ((i + 1 : Nat) : Int) by omega]
        exact k1
      · obtain ⟨v, M3, k1, k2, k3⟩ := ih (i + 1) lo ((lo + hi) / 2) q M2 (by omega) (by omega) (by omega) h1 (by omega) (by omega) (Or.inr (ft.1 (by omega))) h5 (fun c hc => by rw [r2 c hc, gF c hc])
        refine ⟨v, M3, ?_, k2, k3⟩
        rw [if_neg c2, show (i : Int) + 1 = ((i + 1 : Nat) : Int) by omega]
        exact k1
theorem q_sizeL (hf : 1000 ≤ n) {A : Nat → Int} (hn : 0 ≤ A 2 ∧ A 2 ≤ 8) (hb : ∀ b : Nat, b < 8 → (b : Int) < A 2 → (1 ≤ A (56 + 10 * b) ∧ A (56 + 10 * b) ≤ 9) ∧ S8 (A (62 + 10 * b))) {M0 : JMem} (h168 : M0 168 = A) {S m : Nat} (hS : S < 2 ^ (A 2).toNat) (m8 : m ≤ 8) :
    ∀ (d i q : Nat) (M : JMem), i + d = 73 → d < q → 1 ≤ i → (∀ s : Nat, 1 ≤ s → s < i → ¬ Fts A S m s) → (∀ c : Nat, c ≠ 181 → M c = M0 c) →
    ∃ (v : Nat) (M' : JMem), f_X12_roomSize_L28 n q (S : Int) (m : Int) (i : Int) M = (if v ≤ 72 then some ((v : Int), jup M' 167 2 0) else some (-1, jup M' 167 2 6)) ∧ (∀ c : Nat, c ≠ 181 → M' c = M0 c) ∧ RSz A S m v := by
  intro d
  induction d with
  | zero =>
    intro i q M hi hq h1 h2 gF
    obtain ⟨q, rfl⟩ : ∃ z, q = z + 1 := ⟨q - 1, by omega⟩
    refine ⟨73, M, ?_, gF, by omega, by omega, Or.inl rfl, by rw [show 73 = i by omega]; exact h2⟩
    rw [f_X12_roomSize_L28, if_pos (by rw [show jw 72 = 72 by decide, jw_of (x := (i : Int)) (by omega) (by omega)]; omega), if_neg (by omega)]
    rfl
  | succ d ih =>
    intro i q M hi hq h1 h2 gF
    obtain ⟨q, rfl⟩ : ∃ z, q = z + 1 := ⟨q - 1, by omega⟩
    obtain ⟨r, M2, r1, r2, r3⟩ := q_roomsOf (n := n) (M := M) hf hn hb (s := i) (by omega) (by rw [gF 168 (by omega)]; exact h168) hS
    have ft := r3.fts (by omega) m8
    have rr := r3.range
    rw [f_X12_roomSize_L28, if_neg (by rw [show jw 72 = 72 by decide, jw_of (x := (i : Int)) (by omega) (by omega)]; omega), r1, bnd_some, jw_of (x := (m : Int)) (by omega) (by omega), jw_of (x := r) (by omega) (by omega)]
    by_cases c : (m : Int) < r
    · rw [if_pos c]
      simp only [letv_ap]
      rw [show (i : Int) + 1 = ((i + 1 : Nat) : Int) by omega]
      exact ih (i + 1) q M2 (by omega) (by omega) (by omega) (fun s s1 s2 f => by
        by_cases e : s = i
        · rw [e] at f
          have := ft.2 f
          omega
        · exact h2 s s1 (by omega) f) (fun c hc => by rw [r2 c hc, gF c hc])
    · refine ⟨i, M2, ?_, fun c hc => by rw [r2 c hc, gF c hc], h1, by omega, Or.inr (ft.1 (by omega)), h2⟩
      rw [if_neg c, if_pos (by omega)]
      rfl
theorem p_roomSize (hf : 1000 ≤ n) : jO_roomSize JR n := by
  intro x1 x2 hx1 hx2 M h
  have e2 := jwI hx2
  have nb := h.nb
  have p8 := pow8 (M 168 2).toNat (by omega)
  by_cases w1 : 0 ≤ x1 ∧ x1 < ((2 ^ (M 168 2).toNat : Nat) : Int)
  · by_cases w2 : 1 ≤ x2 ∧ x2 ≤ 8
    · obtain ⟨S, S8', eS⟩ := natOf (x := x1) (k := 256) (by omega) (by omega)
      obtain ⟨m, m9, em⟩ := natOf (x := x2) (k := 9) (by omega) (by omega)
      obtain ⟨M1, a1, a2, a3⟩ := c_weigh (n := n) hf h.cur.1
      obtain ⟨v, M2, b1, b2, b3⟩ := c_sizeL (n := n) hf (nb := (M 168 2).toNat) (by omega) (M0 := M1) a3 (S := S) (m := m) (by omega) (by omega) 8 0 1 73 n M1 (by omega) (by omega) (by decide) (by omega) (by omega) (by omega) (Or.inl rfl) (fun s s1 s2 => by omega) (fun _ _ => rfl)
      have gF : ∀ c : Nat, c ≠ 80 → c ≠ 81 → M2 c = M c := fun c c1 c2 => by rw [b2 c c2, a2 c c1]
      have vr := b3
      have cl0 : f_X11_roomSize n x1 x2 M = if v ≤ 72 then some ((v : Int), jup M2 0 0 0) else some (-1, jup M2 0 0 6) := by
        unfold f_X11_roomSize
        rw [h.isS hx1, bnd_some, if_pos w1, if_neg (by decide), e2, show jw 1 = 1 by decide, if_neg (by omega), show jw 8 = 8 by decide, if_pos w2.2, a1, bnd_some]
        simp only [letv_ap]
        rw [eS, em, show f_X11_roomSize_L45 n n (S : Int) (m : Int) 1 73 0 M1 = _ from b1]
        unfold f_X11_roomSize_L98
        rw [show jw 72 = 72 by decide, jw_of (x := (v : Int)) (by omega) (by have := vr.2.1; omega)]
        by_cases c : v ≤ 72
        · rw [if_pos c, if_pos (by omega)]; rfl
        · rw [if_neg c, if_neg (by omega)]; rfl
      have key : ∀ y : Int, ∃ M3, f_X12_roomSize n x1 x2 (jup M2 0 0 y) = (if v ≤ 72 then some ((v : Int), jup M3 167 2 0) else some (-1, jup M3 167 2 6)) ∧ ∀ c : Nat, c ≠ 181 → M3 c = jup M2 0 0 y c := fun y => by
        have e168 : jup M2 0 0 y 168 = M 168 := by rw [jup_cell (by omega), gF 168 (by omega) (by omega)]
        obtain ⟨v', M3, d1, d2, d3⟩ := q_sizeL (n := n) hf (A := M 168) nb.2 h.hbs (M0 := jup M2 0 0 y) e168 (S := S) (m := m) (by omega) (by omega) 72 1 n (jup M2 0 0 y) (by omega) (by omega) (by omega) (fun s s1 s2 => by omega) (fun _ _ => rfl)
        have ev : v' = v := d3.uniq b3
        rw [ev] at d1
        refine ⟨M3, ?_, d2⟩
        unfold f_X12_roomSize
        rw [h.isSM hx1 _ e168, bnd_some, if_pos w1, if_neg (by decide), e2, q_isFrom (by omega) (by omega) (by omega), bnd_some, if_pos w2, if_neg (by decide)]
        simp only [letv_ap]
        rw [eS, em]
        exact d1
      by_cases c : v ≤ 72
      · obtain ⟨M3, k1, k2⟩ := key 0
        exact Pr.room h (by rw [cl0, if_pos c]) gF (by rw [k1, if_pos c]) k2 rfl
      · obtain ⟨M3, k1, k2⟩ := key 6
        exact Pr.room h (by rw [cl0, if_neg c]) gF (by rw [k1, if_neg c]) k2 rfl
    · refine Pr.end (r := -1) (s := -1) (x := 1) (y := 1) h ?_ ?_ rfl rfl
      · unfold f_X11_roomSize f_X11_roomSize_L19
        rw [h.isS hx1, bnd_some, if_pos w1, if_neg (by decide), e2, show jw 1 = 1 by decide, show jw 8 = 8 by decide]
        by_cases c : x2 < 1
        · rw [if_pos c]; rfl
        · rw [if_neg c, if_neg (by omega)]; rfl
      · unfold f_X12_roomSize f_X12_roomSize_L20
        rw [h.isSM hx1 (jup M 0 0 1) rfl, bnd_some, if_pos w1, if_neg (by decide), e2, q_isFrom ⟨by have := hx2.1; omega, by have := hx2.2; omega⟩ (by omega) (by omega), bnd_some, if_neg w2, if_pos (by decide)]; rfl
  · refine Pr.end (r := -1) (s := -1) (x := 1) (y := 1) h ?_ ?_ rfl rfl
    · unfold f_X11_roomSize f_X11_roomSize_L19
      rw [h.isS hx1, bnd_some, if_neg w1, if_pos (by decide)]; rfl
    · unfold f_X12_roomSize f_X12_roomSize_L20
      rw [h.isSM hx1 (jup M 0 0 1) rfl, bnd_some, if_neg w1, if_pos (by decide)]; rfl
end PRSIZE

section PSNOW
variable {n : Nat} {M : JMem}
def sumT (f : Nat → Int) : Nat → Int
  | 0 => 0
  | k + 1 => sumT f k + f k
theorem sumT_congr {f g : Nat → Int} : ∀ k : Nat, (∀ i : Nat, i < k → f i = g i) → sumT f k = sumT g k := by
  intro k
  induction k with
  | zero => intro _; rfl
  | succ k ih =>
    intro h
    unfold sumT
    rw [ih (fun i hi => h i (by omega)), h k (by omega)]
theorem sumT_add (f g : Nat → Int) : ∀ k : Nat, sumT (fun i => f i + g i) k = sumT f k + sumT g k := by
  intro k
  induction k with
  | zero => rfl
  | succ k ih =>
    unfold sumT
    rw [ih]
    omega
theorem sumT_zero : ∀ k : Nat, sumT (fun _ => 0) k = 0 := by
  intro k
  induction k with
  | zero => rfl
  | succ k ih =>
    unfold sumT
    rw [ih]; rfl
theorem sumT_swap (h : Nat → Nat → Int) (b : Nat) : ∀ a : Nat, sumT (fun i => sumT (fun j => h i j) b) a = sumT (fun j => sumT (fun i => h i j) a) b := by
  intro a
  induction a with
  | zero =>
    show (0 : Int) = sumT (fun _ => (0 : Int)) b
    rw [sumT_zero]
  | succ a ih =>
    have e : ∀ j : Nat, sumT (fun i => h i j) (a + 1) = sumT (fun i => h i j) a + h a j := fun j => rfl
    rw [show sumT (fun i => sumT (fun j => h i j) b) (a + 1) = sumT (fun i => sumT (fun j => h i j) b) a + sumT (fun j => h a j) b from rfl, ih, ← sumT_add]
    exact sumT_congr b (fun j _ => (e j).symm)
theorem sumT_one (f : Nat → Int) (a : Nat) : ∀ k : Nat, sumT (fun i => if i = a then f i else 0) k = if a < k then f a else 0 := by
  intro k
  induction k with
  | zero => rfl
  | succ k ih =>
    unfold sumT
    rw [ih]
    by_cases e : k = a
    · subst e
      rw [if_neg (by omega), if_pos rfl, if_pos (by omega)]; omega
    · rw [if_neg e]
      by_cases c : a < k
      · rw [if_pos c, if_pos (by omega)]; omega
      · rw [if_neg c, if_neg (by omega)]; rfl
/-- a sum told in another order -/
theorem sumT_inv (f : Nat → Int) (s : Nat → Nat) (k : Nat) (h1 : ∀ i : Nat, i < k → s i < k) (h2 : ∀ i : Nat, i < k → s (s i) = i) : sumT (fun i => f (s i)) k = sumT f k := by
  have a : sumT (fun i => f (s i)) k = sumT (fun i => sumT (fun j => if j = s i then f j else 0) k) k := sumT_congr k (fun i hi => by
    rw [sumT_one f (s i) k, if_pos (h1 i hi)])
  rw [a, sumT_swap]
  refine sumT_congr k (fun j hj => ?_)
  have b : sumT (fun i => if j = s i then f j else 0) k = sumT (fun i => if i = s j then (fun _ => f j) i else 0) k := sumT_congr k (fun i hi => by
    by_cases c : i = s j
    · rw [if_pos c, c, if_pos (h2 j hj).symm]
    · rw [if_neg c, if_neg (fun q => c (by rw [q, h2 i hi]))])
  rw [b, sumT_one (fun _ => f j) (s j) k, if_pos (h1 j hj)]
theorem powb {x y : Int} (hx : 0 ≤ x ∧ x ≤ 16) (hy : 0 ≤ y ∧ y ≤ 16) (b : Nat) : ∀ a : Nat, 0 ≤ x ^ a * y ^ b ∧ x ^ a * y ^ b ≤ ((16 ^ (a + b) : Nat) : Int) := by
  have hb : ∀ b : Nat, 0 ≤ y ^ b ∧ y ^ b ≤ ((16 ^ b : Nat) : Int) := fun b => by
    induction b with
    | zero => rw [Int.pow_zero]; exact ⟨by decide, by decide⟩
    | succ b ih =>
      rw [Int.pow_succ, Nat.pow_succ]
      refine ⟨Int.mul_nonneg ih.1 hy.1, ?_⟩
      rw [Int.natCast_mul]
      exact Int.mul_le_mul ih.2 hy.2 hy.1 (by omega)
  intro a
  induction a with
  | zero =>
    rw [Int.pow_zero, Int.one_mul, Nat.zero_add]
    exact hb b
  | succ a ih =>
    rw [Int.pow_succ, show x ^ a * x * y ^ b = x ^ a * y ^ b * x from Int.mul_right_comm _ _ _, show a + 1 + b = a + b + 1 by omega, Nat.pow_succ]
    refine ⟨Int.mul_nonneg ih.1 hx.1, ?_⟩
    rw [Int.natCast_mul]
    exact Int.mul_le_mul ih.2 hx.2 hx.1 (by omega)
theorem q_power {x : Int} (hf : 100 ≤ n) {m : Nat} (hm : m ≤ 50) : f_X11_power n x (m : Int) M = some (x ^ m, M) := by
  have key : ∀ (d i q : Nat), i + d = m → d < q → f_X11_power_L5 n q x (m : Int) (x ^ i) (i : Int) M = some (x ^ m, M) := fun d => by
    induction d with
    | zero =>
      intro i q hi hq
      obtain ⟨q, rfl⟩ : ∃ z, q = z + 1 := ⟨q - 1, by omega⟩
      rw [f_X11_power_L5, if_pos (by rw [jw_of (x := (m : Int)) (by omega) (by omega), jw_of (x := (i : Int)) (by omega) (by omega)]; omega), show i = m by omega]
    | succ d ih =>
      intro i q hi hq
      obtain ⟨q, rfl⟩ : ∃ z, q = z + 1 := ⟨q - 1, by omega⟩
      rw [f_X11_power_L5, if_neg (by rw [jw_of (x := (m : Int)) (by omega) (by omega), jw_of (x := (i : Int)) (by omega) (by omega)]; omega)]
      simp only [letv_ap]
      rw [← Int.pow_succ, show (i : Int) + 1 = ((i + 1 : Nat) : Int) by omega]
      exact ih (i + 1) q (by omega) (by omega)
  unfold f_X11_power
  simp only [letv_ap]
  have k := key m 0 n (by omega) (by omega)
  rw [Int.pow_zero] at k
  exact k
/-- how many of the first i are in a set -/
def cntN (x : Int) : Nat → Nat
  | 0 => 0
  | i + 1 => cntN x i + if bit x i = true then 1 else 0
theorem cntN_le {x y : Int} (h : ∀ t : Nat, t < 8 → bit x t = true → bit y t = true) : ∀ i : Nat, i ≤ 8 → cntN x i ≤ cntN y i := by
  intro i
  induction i with
  | zero => intro _; exact Nat.le_refl _
  | succ i ih =>
    intro hi
    have := ih (by omega)
    unfold cntN
    by_cases c : bit x i = true
    · rw [if_pos c, if_pos (h i (by omega) c)]; omega
    · rw [if_neg c]; omega
theorem cntN_8 {x : Int} (h : S8 x) : pcI x = (cntN x 8 : Int) := by
  rw [pcI_sum h]
  have e : ∀ t : Nat, b01 x t = ((if bit x t = true then 1 else 0 : Nat) : Int) := fun t => by
    unfold b01
    by_cases c : bit x t = true
    · rw [if_pos c, if_pos c]; rfl
    · rw [if_neg c, if_neg c]; rfl
  simp only [cntN, e]
  omega
theorem cntN_low {x : Int} {k : Nat} (h : ∀ t : Nat, t < 8 → bit x t = true → t < k) : ∀ d : Nat, k + d ≤ 8 → cntN x (k + d) = cntN x k := by
  intro d
  induction d with
  | zero => intro _; rfl
  | succ d ih =>
    intro hd
    show cntN x (k + d) + (if bit x (k + d) = true then 1 else 0) = cntN x k
    rw [ih (by omega), if_neg (fun q => by have := h (k + d) (by omega) q; omega)]
    rfl
theorem cntN_two {x y : Int} {k : Nat} (h : ∀ t : Nat, t < k → (bit x t = true ↔ ¬ bit y t = true)) : ∀ i : Nat, i ≤ k → cntN x i + cntN y i = i := by
  intro i
  induction i with
  | zero => intro _; rfl
  | succ i ih =>
    intro hi
    have := ih (by omega)
    unfold cntN
    by_cases c : bit y i = true
    · rw [if_pos c, if_neg (fun q => (h i (by omega)).1 q c)]; omega
    · rw [if_neg c, if_pos ((h i (by omega)).2 c)]; omega
def snF (R : Nat → Bool) (od : Int) (gn m : Nat) : Int := if R m = true then od ^ (cntN (m : Int) 8) * (16 - od) ^ (gn - cntN (m : Int) 8) else 0
theorem JR.snowL (h : JR M) (hf : 1000 ≤ n) {pl : Nat} (p6 : pl < 6) {R : Nat → Bool} {gn : Nat} (g8 : gn ≤ 8) (hR : ∀ m : Nat, m < 2 ^ (M 168 1).toNat → (R m = true ↔ jand (m : Int) (M 52 4) = 0 ∧ ∃ V, EA (M 168) (fun t => ¬ bit (jor (M 52 4) (m : Int)) t = true) 0 0 V ∧ V pl ≤ 64)) (hg : ∀ m : Nat, m < 2 ^ (M 168 1).toNat → R m = true → cntN (m : Int) 8 ≤ gn) :
    ∀ (d i q : Nat) (M1 : JMem), i + d = 2 ^ (M 168 1).toNat → d < q → (∀ c : Nat, c ≠ 77 → c ≠ 78 → M1 c = M c) → OrdK (M 168) (M 168 1).toNat (M1 78) →
    ∃ M2, f_X11_snow_L49 n q (pl : Int) (gn : Int) (sumT (snF R (M 168 3) gn) i) (i : Int) M1 = f_X11_snow_L153 n (gn : Int) (sumT (snF R (M 168 3) gn) (2 ^ (M 168 1).toNat)) M2 ∧ (∀ c : Nat, c ≠ 77 → M2 c = M1 c) := by
  have nt := h.nt
  have od := h.cur.1.2.2.2.1
  have sp := jsh_pow (nb := M 168 1) ⟨by omega, by omega⟩
  have p8 := pow8 (M 168 1).toNat (by omega)
  have hcl := h.cl
  intro d
  induction d with
  | zero =>
    intro i q M1 hi hq hF hO
    obtain ⟨q, rfl⟩ : ∃ z, q = z + 1 := ⟨q - 1, by omega⟩
    have e1 : M1 40 1 = M 168 1 := by rw [hF 40 (by omega) (by omega)]; exact nt.1
    refine ⟨M1, ?_, fun _ _ => rfl⟩
    rw [f_X11_snow_L49, e1, sp.2, if_pos (by rw [jw_of (x := (i : Int)) (by omega) (by omega)]; omega), show i = 2 ^ (M 168 1).toNat by omega]
  | succ d ih =>
    intro i q M1 hi hq hF hO
    obtain ⟨q, rfl⟩ : ∃ z, q = z + 1 := ⟨q - 1, by omega⟩
    have e1 : M1 40 1 = M 168 1 := by rw [hF 40 (by omega) (by omega)]; exact nt.1
    have i8 : S8 (i : Int) := ⟨by omega, by omega⟩
    have ja := (jandS i8 hcl).1
    have jo := (jorS hcl i8).1
    have go : ∀ (w : Int) (M2 : JMem), (∀ c : Nat, c ≠ 77 → M2 c = M1 c) → w = sumT (snF R (M 168 3) gn) (i + 1) → ∃ M3, f_X11_snow_L147 n (f_X11_snow_L49 n q) (pl : Int) (gn : Int) w (i : Int) M2 = f_X11_snow_L153 n (gn : Int) (sumT (snF R (M 168 3) gn) (2 ^ (M 168 1).toNat)) M3 ∧ (∀ c : Nat, c ≠ 77 → M3 c = M1 c) := fun w M2 h2 hw => by
      obtain ⟨M3, r1, r2⟩ := ih (i + 1) q M2 (by omega) (by omega) (fun c c1 c2 => by rw [h2 c c1, hF c c1 c2]) (by rw [h2 78 (by omega)]; exact hO)
      refine ⟨M3, ?_, fun c hc => by rw [r2 c hc, h2 c hc]⟩
      unfold f_X11_snow_L147
      simp only [letv_ap]
      rw [hw]
      exact r1
    have no : ¬ R i = true → sumT (snF R (M 168 3) gn) i = sumT (snF R (M 168 3) gn) (i + 1) := fun hr => by
      show _ = sumT (snF R (M 168 3) gn) i + snF R (M 168 3) gn i
      unfold snF
      rw [if_neg hr]
      omega
    have Ri := hR i (by omega)
    rw [f_X11_snow_L49, e1, sp.2, if_neg (by rw [jw_of (x := (i : Int)) (by omega) (by omega)]; omega), hF 52 (by omega) (by omega), jw_of (x := jand (i : Int) (M 52 4)) (by have := ja.1; omega) (by have := ja.2; omega)]
    by_cases c1 : jand (i : Int) (M 52 4) = 0
    · obtain ⟨M2, a1, a2, a3⟩ := h.soon (n := n) (by omega) jo (p0 := 0) (to := pl) (by omega) p6 (k := 0) ⟨by omega, by omega⟩ (M1 := M1) hF hO
      have vb := a3.2.1 pl p6
      rw [if_pos c1, show f_X8_soon n 40 (jor (M 52 4) (i : Int)) 0 0 (pl : Int) M1 = _ from a1, bnd_some, jw_of (x := M2 77 pl) (by omega) (by omega), show jw 64 = 64 by decide]
      by_cases c2 : 64 < M2 77 pl
      · rw [if_pos c2]
        refine go _ M2 a2 (no fun hr => ?_)
        obtain ⟨_, V, v1, v2⟩ := Ri.1 hr
        have := EA.uniq h.sa v1 a3 p6
        omega
      · have hr : R i = true := Ri.2 ⟨c1, M2 77, a3, by omega⟩
        have cg := hg i (by omega) hr
        have e3 : M2 40 3 = M 168 3 := by rw [a2 40 (by omega), hF 40 (by omega) (by omega)]; exact od.1
        rw [if_neg c2, q_bc i8, bnd_some]
        simp only [letv_ap]
        rw [e3, jw_of (x := M 168 3) (by omega) (by omega), cntN_8 i8, q_power (by omega) (by omega), bnd_some, e3, jw_of (x := 16 - M 168 3) (by omega) (by omega), show (gn : Int) - (cntN (i : Int) 8 : Int) = ((gn - cntN (i : Int) 8 : Nat) : Int) by omega, q_power (by omega) (by omega), bnd_some]
        refine go _ M2 a2 ?_
        show _ = sumT (snF R (M 168 3) gn) i + snF R (M 168 3) gn i
        rw [show snF R (M 168 3) gn i = (M 168 3) ^ (cntN (i : Int) 8) * (16 - M 168 3) ^ (gn - cntN (i : Int) 8) from if_pos hr]
    · rw [if_neg c1]
      exact go _ M1 (fun _ _ => rfl) (no fun hr => c1 (Ri.1 hr).1)
/-! the reference -/
theorem JR.snowP (h : JR M) (hf : 1000 ≤ n) {g : Int} (g1 : S8 g) (g3 : ∀ M1 : JMem, M1 168 = M 168 → f_X12_going n M1 = some (g, M1)) {M1 : JMem} (e168 : M1 168 = M 168) {pl its all : Int} {s m : Int} (hs : S8 s) (hsm : ∀ t : Nat, t < 8 → bit g t = true → (bit s t = true ↔ ¬ bit m t = true)) (hm : ∀ t : Nat, t < 8 → bit m t = true → bit g t = true) {r67 : Int → Int → Int → Int → JMem → Option (Int × JMem)} :
    ∀ (d i q : Nat), i + d = (M 168 1).toNat → d < q → f_X12_snow_L115 n r67 q pl its all s ((M 168 3) ^ (cntN m i) * (16 - M 168 3) ^ (cntN g i - cntN m i)) (i : Int) M1 = f_X12_snow_L185 n r67 pl its all s ((M 168 3) ^ (cntN m (M 168 1).toNat) * (16 - M 168 3) ^ (cntN g (M 168 1).toNat - cntN m (M 168 1).toNat)) M1 := by
  have nt := h.nt
  have od := h.cur.1.2.2.2.1
  intro d
  induction d with
  | zero =>
    intro i q hi hq
    obtain ⟨q, rfl⟩ : ∃ z, q = z + 1 := ⟨q - 1, by omega⟩
    rw [f_X12_snow_L115, chk_pos (by decide), show (jw 1).toNat = 1 by decide, show M1 168 1 = M 168 1 by rw [e168], if_pos (by rw [jw_of (x := M 168 1) (by omega) (by omega), jw_of (x := (i : Int)) (by omega) (by omega)]; omega), show i = (M 168 1).toNat by omega]
  | succ d ih =>
    intro i q hi hq
    obtain ⟨q, rfl⟩ : ∃ z, q = z + 1 := ⟨q - 1, by omega⟩
    have i8 : i < 8 := by omega
    have le := cntN_le hm i (by omega)
    have r := ih (i + 1) q (by omega) (by omega)
    rw [f_X12_snow_L115, chk_pos (by decide), show (jw 1).toNat = 1 by decide, show M1 168 1 = M 168 1 by rw [e168], if_neg (by rw [jw_of (x := M 168 1) (by omega) (by omega), jw_of (x := (i : Int)) (by omega) (by omega)]; omega), g3 M1 e168, bnd_some, q_isInM g1 i8, bnd_some]
    unfold f_X12_snow_L176
    simp only [letv_ap]
    by_cases c : bit g i = true
    · rw [if_pos c, if_neg (by decide), q_isInM hs i8, bnd_some, chk_pos (by decide), chk_pos (by decide), show (jw 3).toNat = 3 by decide, show M1 168 3 = M 168 3 by rw [e168], jw_of (x := M 168 3) (by omega) (by omega), jw_of (x := 16 - M 168 3) (by omega) (by omega)]
      by_cases c2 : bit s i = true
      · have cm := (hsm i i8 c).1 c2
        rw [if_pos c2, if_neg (by decide)]
        rw [show cntN m (i + 1) = cntN m i from by rw [cntN, if_neg cm]; rfl, show cntN g (i + 1) = cntN g i + 1 from by rw [cntN, if_pos c], show cntN g i + 1 - cntN m i = cntN g i - cntN m i + 1 by omega, Int.pow_succ (16 - M 168 3), ← Int.mul_assoc] at r
        exact r
      · have cm : bit m i = true := by
          by_cases z : bit m i = true
          · exact z
          · exact absurd ((hsm i i8 c).2 z) c2
        rw [if_neg c2, if_pos (by decide)]
        rw [show cntN m (i + 1) = cntN m i + 1 from by rw [cntN, if_pos cm], show cntN g (i + 1) = cntN g i + 1 from by rw [cntN, if_pos c], show cntN g i + 1 - (cntN m i + 1) = cntN g i - cntN m i by omega, Int.pow_succ (M 168 3), Int.mul_right_comm] at r
        exact r
    · have cm : ¬ bit m i = true := fun q => c (hm i i8 q)
      rw [if_neg c, if_pos (by decide), Int.mul_one]
      rw [show cntN m (i + 1) = cntN m i from by rw [cntN, if_neg cm]; rfl, show cntN g (i + 1) = cntN g i from by rw [cntN, if_neg c]; rfl] at r
      exact r
end PSNOW

section PNAMES2
variable {n : Nat} {M X : JMem} {T : Nat → Int} {N s k : Nat} {w : List Nat} {v : Int}
/-! names -/
def ki (o : Nat) : Int := if o = 0 then 1 else if o = 1 then 2 else 8
def bi (o : Nat) : Nat := if o = 0 then 0 else if o = 1 then 6 else 14
/-- names, so many of each kind -/
def RKn (P : JV) (K : Nat → Int) (a : Nat → Int) : Prop :=
  P 0 4 = a 0 + a 1 + a 2 ∧
  ∃ nw : Nat → List Nat, (∀ i : Nat, (i : Int) < P 0 4 → isWd (nw i) ∧ P 1 i = ((wd5 (nw i) : Nat) : Int)) ∧ (∀ i j : Nat, (i : Int) < P 0 4 → (j : Int) < P 0 4 → nw i = nw j → i = j) ∧
    (∀ i : Nat, (i : Int) < P 0 4 → ∃ o : Nat, o < 3 ∧ P 2 i = ki o ∧ 0 ≤ P 3 i ∧ P 3 i < a o ∧ K (bi o + (P 3 i).toNat) = ((wd8 (nw i) : Nat) : Int)) ∧
    ∀ o : Nat, o < 3 → ∀ k : Nat, (k : Int) < a o → ∃ i : Nat, (i : Int) < P 0 4 ∧ P 2 i = ki o ∧ P 3 i = k
theorem ki_inj : ∀ o : Nat, o < 3 → ∀ u : Nat, u < 3 → ki o = ki u → o = u := by decide
theorem o3 {Q : Nat → Prop} (h0 : Q 0) (h1 : Q 1) (h2 : Q 2) : ∀ o : Nat, o < 3 → Q o := fun o ho => by
  rcases (show o = 0 ∨ o = 1 ∨ o = 2 by omega) with rfl | rfl | rfl
  · exact h0
  · exact h1
  · exact h2
theorem RK.toN {P : JV} {K : Nat → Int} (h : RK P K) : RKn P K (fun o => P 0 o) := by
  obtain ⟨h0, nw, h1, h2, h3, h4, h5, h6⟩ := h
  refine ⟨h0, nw, h1, h2, fun i hi => ?_, o3 h4 h5 h6⟩
  rcases h3 i hi with q | q | q
  · exact ⟨0, by omega, q.1, q.2.1, q.2.2.1, by rw [show bi 0 = 0 from rfl, Nat.zero_add]; exact q.2.2.2⟩
  · exact ⟨1, by omega, q.1, q.2.1, q.2.2.1, q.2.2.2⟩
  · exact ⟨2, by omega, q.1, q.2.1, q.2.2.1, q.2.2.2⟩
theorem RKn.rk {P : JV} {K : Nat → Int} (h : RKn P K (fun o => P 0 o)) : RK P K := by
  obtain ⟨h0, nw, h1, h2, h3, h4⟩ := h
  refine ⟨h0, nw, h1, h2, fun i hi => ?_, h4 0 (by omega), h4 1 (by omega), h4 2 (by omega)⟩
  obtain ⟨o, ho, q⟩ := h3 i hi
  rcases (show o = 0 ∨ o = 1 ∨ o = 2 by omega) with rfl | rfl | rfl
  · rw [show bi 0 = 0 from rfl, Nat.zero_add] at q
    exact Or.inl q
  · exact Or.inr (Or.inl q)
  · exact Or.inr (Or.inr q)
theorem fb32 : ∀ (u : List Nat) (a : Nat), (∀ c ∈ u, 1 ≤ c ∧ c ≤ 26) → u.foldl (fun v c => 32 * v + c) a < (a + 1) * 32 ^ u.length := by
  intro u
  induction u with
  | nil => intro a _; simp
  | cons b t ih =>
    intro a h
    have hb := h b List.mem_cons_self
    have := ih (32 * a + b) (fun c hc => h c (List.mem_cons_of_mem _ hc))
    rw [List.foldl_cons, List.length_cons, Nat.pow_succ]
    refine Nat.lt_of_lt_of_le this ?_
    rw [show (a + 1) * (32 ^ t.length * 32) = ((a + 1) * 32) * 32 ^ t.length by rw [Nat.mul_comm (32 ^ t.length) 32, Nat.mul_assoc]]
    exact Nat.mul_le_mul_right _ (by omega)
theorem fb256 : ∀ (u : List Nat) (a : Nat), (∀ c ∈ u, 1 ≤ c ∧ c ≤ 26) → u.foldl (fun v c => 256 * v + (c + 96)) a < (a + 1) * 256 ^ u.length := by
  intro u
  induction u with
  | nil => intro a _; simp
  | cons b t ih =>
    intro a h
    have hb := h b List.mem_cons_self
    have := ih (256 * a + (b + 96)) (fun c hc => h c (List.mem_cons_of_mem _ hc))
    rw [List.foldl_cons, List.length_cons, Nat.pow_succ]
    refine Nat.lt_of_lt_of_le this ?_
    rw [show (a + 1) * (256 ^ t.length * 256) = ((a + 1) * 256) * 256 ^ t.length by rw [Nat.mul_comm (256 ^ t.length) 256, Nat.mul_assoc]]
    exact Nat.mul_le_mul_right _ (by omega)
theorem isWd.b5 {u : List Nat} (h : isWd u) : wd5 u < 2 ^ 40 := by
  have := fb32 u 0 h.2.2
  have hp : 32 ^ u.length ≤ 32 ^ 8 := Nat.pow_le_pow_right (by omega) h.2.1
  unfold wd5
  omega
theorem isWd.b8 {u : List Nat} (h : isWd u) : wd8 u < 2 ^ 64 := by
  have := fb256 u 0 h.2.2
  have hp : 256 ^ u.length ≤ 256 ^ 8 := Nat.pow_le_pow_right (by omega) h.2.1
  unfold wd8
  omega
theorem jwl_inj {a b : Nat} (ha : a < 2 ^ 64) (hb : b < 2 ^ 64) (h : jwl (a : Int) = jwl (b : Int)) : a = b := by
  unfold jwl at h
  have e := congrArg (fun z : Int => z % ((2 ^ 64 : Nat) : Int)) h
  simp only [Int.bmod_emod] at e
  omega
theorem cmp5 {u u' : List Nat} (h : isWd u) (h' : isWd u') : (jw (jcmp ((wd5 u : Nat) : Int) ((wd5 u' : Nat) : Int)) = 0) ↔ u = u' := by
  have := h.b5
  have := h'.b5
  rw [jcmp_sign.2.2]
  exact ⟨fun z => wd5_inj h.2.2 h'.2.2 (jwl_inj (by omega) (by omega) z), fun z => by rw [z]⟩
theorem cmp8 {u u' : List Nat} (h : isWd u) (h' : isWd u') : (jw (jcmp ((wd8 u : Nat) : Int) ((wd8 u' : Nat) : Int)) = 0) ↔ u = u' := by
  rw [jcmp_sign.2.2]
  exact ⟨fun z => wd8_inj h.2.2 h'.2.2 (jwl_inj h.b8 h'.b8 z), fun z => by rw [z]⟩
/-- the reference finds a name -/
theorem q_find {b A : Nat} (hbA : b + A ≤ 132) {x : Int} (hx : f_X12_nameHere n X = some (x, X)) : ∀ (d i q : Nat), i + d = A → d < q → ∃ r : Int, f_X12_findHere_L2 n q (b : Int) (A : Int) (i : Int) X = some (r, X) ∧ (((∀ j : Nat, i ≤ j → j < A → ¬ jw (jcmp (X 169 (b + j)) x) = 0) ∧ r = -1) ∨ ∃ j : Nat, i ≤ j ∧ j < A ∧ r = (j : Int) ∧ jw (jcmp (X 169 (b + j)) x) = 0) := by
  intro d
  induction d with
  | zero =>
    intro i q hi hq
    obtain ⟨q, rfl⟩ : ∃ z, q = z + 1 := ⟨q - 1, by omega⟩
    obtain rfl : i = A := by omega
    exact ⟨-1, by rw [f_X12_findHere_L2, if_pos (Int.le_refl _)], Or.inl ⟨fun j j1 j2 => by omega, rfl⟩⟩
  | succ d ih =>
    intro i q hi hq
    obtain ⟨q, rfl⟩ : ∃ z, q = z + 1 := ⟨q - 1, by omega⟩
    have e0 : (b : Int) + (i : Int) = ((b + i : Nat) : Int) := by omega
    rw [f_X12_findHere_L2, if_neg (by rw [jwN (by omega), jwN (by omega)]; omega), e0, chk_pos (jinN (by omega) (by omega)), hx, bnd_some, jwT (by omega)]
    by_cases c : jw (jcmp (X 169 (b + i)) x) = 0
    · rw [if_pos c]
      exact ⟨(i : Int), rfl, Or.inr ⟨i, Nat.le_refl _, by omega, rfl, c⟩⟩
    · rw [if_neg c, letv_ap, show (i : Int) + 1 = ((i + 1 : Nat) : Int) by omega]
      obtain ⟨r, r1, r2⟩ := ih (i + 1) q (by omega) (by omega)
      refine ⟨r, r1, ?_⟩
      rcases r2 with ⟨r2, r3⟩ | ⟨j, r2, r3, r4, r5⟩
      · refine Or.inl ⟨fun j j1 j2 => ?_, r3⟩
        by_cases z : j = i
        · rw [z]; exact c
        · exact r2 j (by omega) j2
      · exact Or.inr ⟨j, by omega, r3, r4, r5⟩
theorem c_find {th A : Nat} (hA : A ≤ 22) (h4 : M th 4 = (A : Int)) {kd : Int} : ∀ (d i q : Nat), i + d = A → d < q → (f_X4_numberAt_L17 n th q kd (i : Int) M = f_X4_numberAt_L62 n th M ∧ ∀ j : Nat, i ≤ j → j < A → ¬ (jw (jcmp (M (th + 1) j) (M 9 7)) = 0 ∧ jw (M (th + 2) j) = jw kd)) ∨
    ∃ j : Nat, i ≤ j ∧ j < A ∧ f_X4_numberAt_L17 n th q kd (i : Int) M = some (M (th + 3) j, M) ∧ jw (jcmp (M (th + 1) j) (M 9 7)) = 0 ∧ jw (M (th + 2) j) = jw kd := by
  intro d
  induction d with
  | zero =>
    intro i q hi hq
    obtain ⟨q, rfl⟩ : ∃ z, q = z + 1 := ⟨q - 1, by omega⟩
    obtain rfl : i = A := by omega
    exact Or.inl ⟨by rw [f_X4_numberAt_L17, h4, if_pos (Int.le_refl _)], fun j j1 j2 => by omega⟩
  | succ d ih =>
    intro i q hi hq
    obtain ⟨q, rfl⟩ : ∃ z, q = z + 1 := ⟨q - 1, by omega⟩
    have hin : jin (i : Int) 22 := jinN (by omega) (by omega)
    have next : (f_X4_numberAt_L17 n th (q + 1) kd (i : Int) M = f_X4_numberAt_L17 n th q kd ((i + 1 : Nat) : Int) M) → ¬ (jw (jcmp (M (th + 1) i) (M 9 7)) = 0 ∧ jw (M (th + 2) i) = jw kd) → (f_X4_numberAt_L17 n th (q + 1) kd (i : Int) M = f_X4_numberAt_L62 n th M ∧ ∀ j : Nat, i ≤ j → j < A → ¬ (jw (jcmp (M (th + 1) j) (M 9 7)) = 0 ∧ jw (M (th + 2) j) = jw kd)) ∨
        ∃ j : Nat, i ≤ j ∧ j < A ∧ f_X4_numberAt_L17 n th (q + 1) kd (i : Int) M = some (M (th + 3) j, M) ∧ jw (jcmp (M (th + 1) j) (M 9 7)) = 0 ∧ jw (M (th + 2) j) = jw kd := fun e c => by
      rw [e]
      rcases ih (i + 1) q (by omega) (by omega) with ⟨r1, r2⟩ | ⟨j, r1, r2, r3⟩
      · refine Or.inl ⟨r1, fun j j1 j2 => ?_⟩
        by_cases z : j = i
        · rw [z]; exact c
        · exact r2 j (by omega) j2
      · exact Or.inr ⟨j, by omega, r2, r3⟩
    have e1 : f_X4_numberAt_L56 n th (f_X4_numberAt_L17 n th q) kd (i : Int) M = f_X4_numberAt_L17 n th q kd ((i + 1 : Nat) : Int) M := by
      unfold f_X4_numberAt_L56
      rw [letv_ap, show (i : Int) + 1 = ((i + 1 : Nat) : Int) by omega]
    by_cases c1 : jw (jcmp (M (th + 1) i) (M 9 7)) = 0
    · by_cases c2 : jw (M (th + 2) i) = jw kd
      · refine Or.inr ⟨i, Nat.le_refl _, by omega, ?_, c1, c2⟩
        unfold f_X4_numberAt_L17 f_X4_numberAt_L49
        rw [h4, if_neg (by rw [jwN (by omega), jwN (by omega)]; omega), chk_pos hin, jwT (by omega), if_pos c1, chk_pos hin, if_pos c2, chk_pos hin]
      · refine next ?_ (fun z => c2 z.2)
        rw [f_X4_numberAt_L17, h4, if_neg (by rw [jwN (by omega), jwN (by omega)]; omega), chk_pos hin, jwT (by omega), if_pos c1, chk_pos hin, if_neg c2, e1]
    · refine next ?_ (fun z => c1 z.1)
      rw [f_X4_numberAt_L17, h4, if_neg (by rw [jwN (by omega), jwN (by omega)]; omega), chk_pos hin, jwT (by omega), if_neg c1, e1]
theorem ki_jw : ∀ o : Nat, o < 3 → ∀ u : Nat, u < 3 → (jw (ki o) = jw (ki u) ↔ o = u) := by decide
/-- a name told ahead, of one kind -/
theorem look {th off o : Nat} {a : Nat → Int} (hn : 2000 ≤ n) (ho : o < 3) (hR : RKn (blk M th 12) (fun j => X 169 (off + j)) a) (ha : ∀ u : Nat, u < 3 → 0 ≤ a u ∧ a u ≤ (if u = 0 then 6 else 8)) (h7 : M 9 7 = ((wd5 w : Nat) : Int)) (hw : isWd w) (hN : f_X12_nameHere n X = some (((wd8 w : Nat) : Int), X)) (hoff : off ≤ 88) :
    (∃ j : Nat, (j : Int) < a o ∧ f_X4_numberAt_L17 n th n (ki o) 0 M = some ((j : Int), M) ∧ f_X12_findHere n ((off + bi o : Nat) : Int) (a o) X = some ((j : Int), X)) ∨
    (f_X4_numberAt_L17 n th n (ki o) 0 M = f_X4_numberAt_L62 n th M ∧ f_X12_findHere n ((off + bi o : Nat) : Int) (a o) X = some (-1, X)) := by
  obtain ⟨h0, nw, h1, h2, h3, h4⟩ := hR
  have a0 := ha 0 (by omega)
  have a1 := ha 1 (by omega)
  have a2 := ha 2 (by omega)
  have ao := ha o ho
  rw [if_pos rfl] at a0
  rw [if_neg (by decide)] at a1 a2
  have hbi : bi o + (if o = 0 then 6 else 8) ≤ 22 := by
    have : ∀ o : Nat, o < 3 → bi o + (if o = 0 then 6 else 8) ≤ 22 := by decide
    exact this o ho
  have ao8 : a o ≤ 8 := by
    refine Int.le_trans ao.2 ?_
    by_cases z : o = 0
    · rw [if_pos z]; omega
    · rw [if_neg z]; omega
  obtain ⟨A, A9, eA⟩ := natOf (x := a o) (k := 9) ao.1 (by omega)
  have hAb : (A : Int) ≤ (if o = 0 then 6 else 8) := by rw [← eA]; exact ao.2
  have hAb' : bi o + A ≤ 22 := by
    by_cases z : o = 0
    · rw [if_pos z] at hbi hAb; omega
    · rw [if_neg z] at hbi hAb; omega
  have p04 : blk M th 12 0 4 = M th 4 := rfl
  obtain ⟨B, B23, eB⟩ := natOf (x := M th 4) (k := 23) (by rw [← p04, h0]; omega) (by rw [← p04, h0]; omega)
  have eb1 : ∀ i : Nat, blk M th 12 1 i = M (th + 1) i := fun i => rfl
  have eb2 : ∀ i : Nat, blk M th 12 2 i = M (th + 2) i := fun i => rfl
  have eb3 : ∀ i : Nat, blk M th 12 3 i = M (th + 3) i := fun i => rfl
  have eB' : blk M th 12 0 4 = (B : Int) := eB
  rw [eB'] at h1 h2 h3 h4
  obtain ⟨r, r1, r2⟩ := q_find (n := n) (b := off + bi o) (A := A) (by omega) hN A 0 n (by omega) (by omega)
  have er : f_X12_findHere n ((off + bi o : Nat) : Int) (a o) X = some (r, X) := by
    unfold f_X12_findHere
    rw [letv_ap, eA]
    exact r1
  -- what the reference's name is
  have key : ∀ j : Nat, j < A → ∃ i : Nat, i < B ∧ M (th + 2) i = ki o ∧ M (th + 3) i = (j : Int) ∧ ((jw (jcmp (X 169 (off + bi o + j)) ((wd8 w : Nat) : Int)) = 0) ↔ nw i = w) := fun j hj => by
    obtain ⟨i, i1, i2, i3⟩ := h4 o ho j (by rw [eA]; omega)
    obtain ⟨u, u1, u2, u3, u4, u5⟩ := h3 i i1
    have eu : u = o := ki_inj u u1 o ho (u2.symm.trans i2)
    rw [eu, i3] at u5
    refine ⟨i, by omega, i2, i3, ?_⟩
    have e5 : X 169 (off + bi o + j) = ((wd8 (nw i) : Nat) : Int) := by rw [← u5]; show _ = X 169 (off + (bi o + ((j : Int)).toNat)); rw [Nat.add_assoc]; rfl
    rw [e5]
    exact cmp8 (h1 i i1).1 hw
  have cls : ∀ i : Nat, i < B → ((jw (jcmp (M (th + 1) i) (M 9 7)) = 0) ↔ nw i = w) := fun i hi => by
    have q := h1 i (by omega)
    rw [← eb1 i, q.2, h7]
    exact cmp5 q.1 hw
  rcases c_find (n := n) (M := M) (th := th) (A := B) (by omega) eB (kd := ki o) B 0 n (by omega) (by omega) with ⟨c1, c2⟩ | ⟨i, c1, c2, c3, c4, c5⟩
  · right
    refine ⟨c1, ?_⟩
    rw [er]
    rcases r2 with ⟨-, r3⟩ | ⟨j, j1, j2, j3, j4⟩
    · rw [r3]
    · obtain ⟨i, i1, i2, i3, i4⟩ := key j j2
      exact absurd ⟨(cls i i1).2 (i4.1 j4), by rw [i2]⟩ (c2 i (by omega) i1)
  · left
    have ewi := (cls i c2).1 c4
    obtain ⟨u, u1, u2, u3, u4, u5⟩ := h3 i (by omega)
    rw [eb2] at u2
    rw [u2] at c5
    have eu : u = o := (ki_jw u u1 o ho).1 c5
    subst eu
    rw [eb3] at u3 u4 u5
    obtain ⟨j, jA, ej⟩ := natOf (x := M (th + 3) i) (k := A) u3 (by rw [← eA]; exact u4)
    refine ⟨j, by omega, by rw [← ej]; exact c3, ?_⟩
    rw [er]
    rcases r2 with ⟨r3, -⟩ | ⟨j', j1, j2, j3, j4⟩
    · obtain ⟨i', i1, i2, i3, i4⟩ := key j jA
      have : X 169 (off + bi u + j) = ((wd8 (nw i) : Nat) : Int) := by rw [← u5, ej]; show _ = X 169 (off + (bi u + ((j : Int)).toNat)); rw [Nat.add_assoc]; rfl
      have z := (cmp8 (h1 i (by omega)).1 hw).2 ewi
      rw [← this] at z
      exact absurd z (r3 j (by omega) jA)
    · obtain ⟨i', i1, i2, i3, i4⟩ := key j' j2
      have e := h2 i i' (by omega) (by omega) (ewi.trans (i4.1 j4).symm)
      subst e
      rw [j3]
      rw [ej] at i3
      rw [i3]
end PNAMES2

section PNEW
variable {n : Nat} {M X : JMem} {T : Nat → Int} {N s k : Nat} {w : List Nat} {v : Int}
/-! a name told ahead; a new name -/
theorem TL.wd (hS : TXT T N M X) (h : TL T N (M 9) (X 167) s k w v) (hk : k = 2) : isWd w ∧ M 9 7 = ((wd5 w : Nat) : Int) := by
  have hw := h.ws hS (by omega)
  have h2 := (h.k23 (by omega)).2.1 hk
  obtain ⟨a1, a2, a3, a4, a5, a6, a7, a8, a9, a10, a11, a12⟩ := h
  obtain ⟨b1, b2, p, b3, b4, b5, b6, b7, b8⟩ := a12 (by omega)
  have e := hw.2.2.2.1
  have b7' := b7 (by omega)
  rw [b4] at e
  exact ⟨⟨by clear b8 a11 a12; omega, h2.1, hw.2.2.2.2.2.1⟩, h2.2⟩
theorem q_nm (hn : 2000 ≤ n) (hS : TXT T N M X) (h : TL T N (M 9) (X 167) s k w v) (hk : k = 2) : f_X12_nameHere n X = some (((wd8 w : Nat) : Int), X) := by
  have hw := h.ws hS (by omega)
  have h2 := (h.k23 (by omega)).2.1 hk
  have q := (q_name (n := n) hn hS.1 hS.2.2.1 hw h2.1).1
  rw [jrow_self] at q
  exact q
def mo (o : Nat) : Int := if o = 0 then 6 else 8
def am (a : Nat → Int) : Prop := ∀ u : Nat, u < 3 → 0 ≤ a u ∧ a u ≤ (if u = 0 then 6 else 8)
theorem s_peek {th off o : Nat} {a : Nat → Int} (hn : 2000 ≤ n) (hS : TXT T N M X) (h : TL T N (M 9) (X 167) s k w v) (ho : o < 3) (hR : RKn (blk M th 12) (fun j => X 169 (off + j)) a) (ha : am a) (hoff : off ≤ 88) :
    (∃ j : Nat, (j : Int) < a o ∧ f_X4_numberAt n th (ki o) M = some ((j : Int), M) ∧ f_X12_isName n X = some (1, X) ∧ f_X12_findHere n ((off + bi o : Nat) : Int) (a o) X = some ((j : Int), X) ∧ k = 2) ∨
    (f_X4_numberAt n th (ki o) M = (bnd (f_X6_fail n 3 M) fun _ M2 => some (-1, M2)) ∧ f_X12_isName n X = some (1, X) ∧ f_X12_findHere n ((off + bi o : Nat) : Int) (a o) X = some (-1, X) ∧ k = 2) ∨
    (f_X4_numberAt n th (ki o) M = (bnd (f_X6_fail n 2 M) fun _ M2 => some (-1, M2)) ∧ f_X12_isName n X = some (0, X) ∧ k ≠ 2) := by
  have hi := q_isName (n := n) hn hS h
  by_cases k2 : k = 2
  · obtain ⟨hw, h7⟩ := h.wd hS k2
    rw [if_pos k2] at hi
    have hu : f_X4_numberAt n th (ki o) M = f_X4_numberAt_L17 n th n (ki o) 0 M := by
      unfold f_X4_numberAt
      rw [if_pos (show jw (M 9 4) = jw 2 from (c_kind h (c := 2) (by omega)).2 k2), letv_ap]
    rcases look (n := n) hn ho hR ha h7 hw (q_nm hn hS h k2) hoff with ⟨j, j1, j2, j3⟩ | ⟨j2, j3⟩
    · exact Or.inl ⟨j, j1, by rw [hu, j2], hi, j3, k2⟩
    · refine Or.inr (Or.inl ⟨?_, hi, j3, k2⟩)
      rw [hu, j2]
      rfl
  · rw [if_neg k2] at hi
    refine Or.inr (Or.inr ⟨?_, hi, k2⟩)
    unfold f_X4_numberAt
    rw [if_neg (show ¬ jw (M 9 4) = jw 2 from fun q => k2 ((c_kind h (c := 2) (by omega)).1 q))]
theorem s_old {th off o to : Nat} {a : Nat → Int} (hn : 2000 ≤ n) (hS : TXT T N M X) (h : TL T N (M 9) (X 167) s k w v) (ho : o < 3) (hR : RKn (blk M th 12) (fun j => X 169 (off + j)) a) (ha : am a) (hoff : off ≤ 88) (ht : to < 3160) :
    (∃ (j : Nat) (F' G' : Nat → Int) (s' k' : Nat) (w' : List Nat) (v' : Int), (j : Int) < a o ∧ f_X4_numberAt n th (ki o) M = some ((j : Int), M) ∧ f_X6_advance n M = some (0, jrow M 9 F') ∧ f_X12_oldOne n ((off + bi o : Nat) : Int) (a o) (to : Int) X = some (1, jrow (jup X 168 to j) 167 G') ∧ TL T N F' G' s' k' w' v' ∧ s < s' ∧ Fr9 (M 9) F' ∧ FrX (X 167) G') ∨
    (∃ (F' G' : Nat → Int) (x : Int), f_X4_numberAt n th (ki o) M = some (-1, jrow M 9 F') ∧ f_X12_oldOne n ((off + bi o : Nat) : Int) (a o) (to : Int) X = some (0, jrow (jup X 168 to x) 167 G') ∧ FLT F' G' ∧ Fr9 (M 9) F' ∧ FrX (X 167) G') := by
  have hto : jin (to : Int) 3160 := jinN ht (by omega)
  rcases s_peek (n := n) hn hS h ho hR ha hoff with ⟨j, j1, j2, j3, j4, k2⟩ | ⟨j2, j3, j4, k2⟩ | ⟨j2, j3, k2⟩
  · have ao8 : a o ≤ 8 := by
      have := (ha o ho).2
      by_cases z : o = 0
      · rw [if_pos z] at this; omega
      · rw [if_neg z] at this; omega
    obtain ⟨F', G', s', k', w', v', a1, a2, a3, a4, a5, a6, a7⟩ := s_adv (n := n) (X := jup X 168 to (j : Int)) hn (hS.mv rfl rfl (by rw [jup_cell (by omega)])) (by rw [jup_cell (by omega)]; exact h) (by omega)
    rw [jup_cell (by omega)] at a7
    refine Or.inl ⟨j, F', G', s', k', w', v', j1, j2, a1, ?_, a3, a5 (by omega), a6, a7⟩
    unfold f_X12_oldOne
    rw [j3, bnd_some, if_neg (by decide), j4, bnd_some, chk_pos hto, jwT (by omega), letm_ap, chk_pos hto, jup_if, if_pos rfl, if_neg (by rw [jwm1, jwN (by omega)]; omega), a2, bnd_some]
  · obtain ⟨F', G', a1, a2, a3, a4, a5, -⟩ := s_fail (n := n) (X := jup X 168 to (-1)) (M := M) (by rw [jup_cell (by omega)]; exact h) (why := 3) (by omega)
    rw [jup_cell (by omega)] at a5
    refine Or.inr ⟨F', G', -1, by rw [j2, a1, bnd_some], ?_, a3, a4, a5⟩
    unfold f_X12_oldOne
    rw [j3, bnd_some, if_neg (by decide), j4, bnd_some, chk_pos hto, jwT (by omega), letm_ap, chk_pos hto, jup_if, if_pos rfl, if_pos rfl, fails_chk a2]
  · obtain ⟨F', G', a1, a2, a3, a4, a5, -⟩ := s_fail (n := n) h (why := 2) (by omega)
    refine Or.inr ⟨F', G', X 168 to, by rw [j2, a1, bnd_some], ?_, a3, a4, a5⟩
    unfold f_X12_oldOne
    rw [j3, bnd_some, if_pos (by decide), fails_chk a2, jup_jrow, upA_id rfl, jrow_self]
theorem c_has {A : Nat} (hA : A ≤ 22) (h4 : M 13 4 = (A : Int)) {x : Int} : ∀ (d i q : Nat), i + d = A → d < q → (f_X4_hasName_L2 n 13 q x (i : Int) M = some (0, M) ∧ ∀ j : Nat, i ≤ j → j < A → ¬ jw (jcmp (M 14 j) x) = 0) ∨ (f_X4_hasName_L2 n 13 q x (i : Int) M = some (1, M) ∧ ∃ j : Nat, i ≤ j ∧ j < A ∧ jw (jcmp (M 14 j) x) = 0) := by
  intro d
  induction d with
  | zero =>
    intro i q hi hq
    obtain ⟨q, rfl⟩ : ∃ z, q = z + 1 := ⟨q - 1, by omega⟩
    obtain rfl : i = A := by omega
    exact Or.inl ⟨by rw [f_X4_hasName_L2, h4, if_pos (Int.le_refl _)], fun j j1 j2 => by omega⟩
  | succ d ih =>
    intro i q hi hq
    obtain ⟨q, rfl⟩ : ∃ z, q = z + 1 := ⟨q - 1, by omega⟩
    rw [f_X4_hasName_L2, h4, if_neg (by rw [jwN (by omega), jwN (by omega)]; omega), chk_pos (jinN (by omega) (by omega)), jwT (by omega)]
    by_cases c : jw (jcmp (M 14 i) x) = 0
    · rw [if_pos c]
      exact Or.inr ⟨rfl, i, Nat.le_refl _, by omega, c⟩
    · rw [if_neg c, letv_ap, show (i : Int) + 1 = ((i + 1 : Nat) : Int) by omega]
      rcases ih (i + 1) q (by omega) (by omega) with ⟨r1, r2⟩ | ⟨r1, j, r2, r3, r4⟩
      · refine Or.inl ⟨r1, fun j j1 j2 => ?_⟩
        by_cases z : j = i
        · rw [z]; exact c
        · exact r2 j (by omega) j2
      · exact Or.inr ⟨r1, j, by omega, r3, r4⟩
def upO (a : Nat → Int) (o : Nat) : Nat → Int := fun u => if u = o then a u + 1 else a u
theorem s_new {o : Nat} {a : Nat → Int} (hn : 2000 ≤ n) (hS : TXT T N M X) (h : TL T N (M 9) (X 167) s k w v) (hk : k = 1) (ho : o < 3) (hR : RKn (blk M 13 12) (fun j => X 169 (88 + j)) a) (ha : am a) (hX : ∀ u : Nat, u < 3 → X 168 (2016 + u) = a u) (h0 : M 13 0 = a 0) (hlt : a o < mo o) :
    ∃ F1 : Nat → Int, f_X6_advance n M = some (0, jrow M 9 F1) ∧
    ((∃ (M2 X2 : JMem) (s' k' : Nat) (w' : List Nat) (v' : Int), f_X2_passNewName n (ki o) (a o) (jrow M 9 F1) = some (0, M2) ∧ f_X12_newOne n (o : Int) (mo o) ((bi o : Nat) : Int) X = some (1, X2) ∧ TL T N (M2 9) (X2 167) s' k' w' v' ∧ s < s' ∧ Fr9 (M 9) (M2 9) ∧ FrX (X 167) (X2 167) ∧ (∀ c : Nat, c ≠ 9 → c ≠ 13 → c ≠ 14 → c ≠ 15 → c ≠ 16 → M2 c = M c) ∧ (∀ j : Nat, j ≠ 4 → M2 13 j = M 13 j) ∧ (∀ c : Nat, c ≠ 167 → c ≠ 169 → X2 c = X c) ∧ (∀ j : Nat, j < 88 → X2 169 j = X 169 j) ∧ (o = 2 → a 0 ≠ 0) ∧ RKn (blk M2 13 12) (fun j => X2 169 (88 + j)) (upO a o)) ∨
     (∃ F' G' : Nat → Int, f_X2_passNewName n (ki o) (a o) (jrow M 9 F1) = some (0, jrow M 9 F') ∧ f_X12_newOne n (o : Int) (mo o) ((bi o : Nat) : Int) X = some (0, jrow X 167 G') ∧ FLT F' G' ∧ Fr9 (M 9) F' ∧ FrX (X 167) G')) := by
  have hR' := hR
  obtain ⟨n0, nw, n1, n2, n3, n4⟩ := hR'
  have a0 := ha 0 (by omega)
  have a1 := ha 1 (by omega)
  have a2 := ha 2 (by omega)
  have ao := ha o ho
  rw [if_pos rfl] at a0
  rw [if_neg (by decide)] at a1 a2
  have m8 : mo o ≤ 8 ∧ mo o = (if o = 0 then 6 else 8) := by
    unfold mo
    by_cases z : o = 0
    · rw [if_pos z]; omega
    · rw [if_neg z]; omega
  obtain ⟨A, A9, eA⟩ := natOf (x := a o) (k := 8) ao.1 (by omega)
  have hsum : a 0 + a 1 + a 2 < 22 := by
    rcases (show o = 0 ∨ o = 1 ∨ o = 2 by omega) with rfl | rfl | rfl
    · have : mo 0 = 6 := rfl
      omega
    · have : mo 1 = 8 := rfl
      omega
    · have : mo 2 = 8 := rfl
      omega
  have p04 : M 13 4 = a 0 + a 1 + a 2 := n0
  obtain ⟨B, B22, eB⟩ := natOf (x := M 13 4) (k := 22) (by omega) (by omega)
  have hbA : bi o + A < 22 := by
    rcases (show o = 0 ∨ o = 1 ∨ o = 2 by omega) with rfl | rfl | rfl
    · have : mo 0 = 6 := rfl
      show 0 + A < 22
      omega
    · have : mo 1 = 8 := rfl
      show 6 + A < 22
      omega
    · have : mo 2 = 8 := rfl
      show 14 + A < 22
      omega
  obtain ⟨F1, G1, s1, k1, w1, v1, b1, b2, b3, b4, b5, b6, b7⟩ := s_adv (n := n) hn hS h (by omega)
  refine ⟨F1, b1, ?_⟩
  have hS1 : TXT T N (jrow M 9 F1) (jrow X 167 G1) := hS.mv (jrow_ne _ (by omega)) (jrow_ne _ (by omega)) (jrow_ne _ (by omega))
  have h1 : TL T N (jrow M 9 F1 9) (jrow X 167 G1 167) s1 k1 w1 v1 := by rw [jrow_same, jrow_same]; exact b3
  have hi := q_isName (n := n) hn hS1 h1
  have eNew : ∀ r : Int, r = (if k1 = 2 then 1 else 0) → f_X12_newOne n (o : Int) (mo o) ((bi o : Nat) : Int) X = if jw r = 0 then (bnd (f_X12_fails n 2 (jrow X 167 G1)) fun r13 M14 => chk (jw r13 = 0 ∨ jw r13 = 1) (some (r13, M14))) else (bnd (f_X12_findHere n 88 (a 0) (jrow X 167 G1)) fun r5 M6 => if jw r5 = jw (-1) then (chk (jin 2017 3160) <| bnd (f_X12_findHere n 94 (M6 168 (jw 2017).toNat) M6) fun r7 M8 => if jw r7 = jw (-1) then (chk (jin 2018 3160) <| bnd (f_X12_findHere n 102 (M8 168 (jw 2018).toNat) M8) fun r9 M10 => if jw r9 = jw (-1) then (if jw ((bi o : Nat) : Int) = jw 14 then (chk (jin 2016 3160) <| if jw (M10 168 (jw 2016).toNat) = 0 then (bnd (f_X12_fails n 3 M10) fun r11 M12 => chk (jw r11 = 0 ∨ jw r11 = 1) (some (r11, M12))) else (f_X12_newOne_L123 n (o : Int) ((bi o : Nat) : Int) M10)) else (f_X12_newOne_L123 n (o : Int) ((bi o : Nat) : Int) M10)) else (f_X12_newOne_L94 n M10)) else (f_X12_newOne_L94 n M8)) else (f_X12_newOne_L94 n M6)) := fun r hr => by
    unfold f_X12_newOne
    rw [show (2016 : Int) + (o : Int) = ((2016 + o : Nat) : Int) by omega, chk_pos (jinN (by omega) (by omega)), jwT (by omega), hX o ho, eA, if_neg (by rw [jwN (by omega), jw_of (x := mo o) (by omega) (by omega)]; omega), b2, bnd_some, hi, bnd_some, ← hr, chk_pos (by decide), show jrow X 167 G1 168 (jw 2016).toNat = a 0 by rw [jrow_ne _ (by omega)]; exact hX 0 (by omega)]
  by_cases k2 : k1 = 2
  · obtain ⟨hw, h7⟩ := h1.wd hS1 k2
    have hnm := q_nm (n := n) hn hS1 h1 k2
    have hR1 : RKn (blk (jrow M 9 F1) 13 12) (fun j => jrow X 167 G1 169 (88 + j)) a := by
      rw [blk_congr (by decide) (M := M) (a := 13) (z := 12) (fun j hj => jrow_ne _ (by omega)), jrow_ne _ (by omega)]
      exact hR
    have fnd : ∀ u : Nat, u < 3 → (∃ j : Nat, f_X12_findHere n ((88 + bi u : Nat) : Int) (a u) (jrow X 167 G1) = some ((j : Int), jrow X 167 G1) ∧ j < 8 ∧ ∃ i : Nat, i < B ∧ nw i = w1) ∨ (f_X12_findHere n ((88 + bi u : Nat) : Int) (a u) (jrow X 167 G1) = some (-1, jrow X 167 G1) ∧ ∀ i : Nat, i < B → M 15 i = ki u → nw i ≠ w1) := fun u hu => by
      have au := ha u hu
      have au8 : a u ≤ 8 := by
        by_cases z : u = 0
        · rw [if_pos z] at au; omega
        · rw [if_neg z] at au; omega
      obtain ⟨U, U9, eU⟩ := natOf (x := a u) (k := 9) au.1 (by omega)
      have hbU : bi u + U ≤ 22 := by
        rcases (show u = 0 ∨ u = 1 ∨ u = 2 by omega) with rfl | rfl | rfl
        · show 0 + U ≤ 22
          omega
        · show 6 + U ≤ 22
          omega
        · show 14 + U ≤ 22
          omega
      obtain ⟨r, r1, r2⟩ := q_find (n := n) (b := 88 + bi u) (A := U) (by omega) hnm U 0 n (by omega) (by omega)
      have er : f_X12_findHere n ((88 + bi u : Nat) : Int) (a u) (jrow X 167 G1) = some (r, jrow X 167 G1) := by
        unfold f_X12_findHere
        rw [letv_ap, eU]
        exact r1
      have key : ∀ i : Nat, i < B → M 15 i = ki u → ∃ j : Nat, j < U ∧ ((jw (jcmp (jrow X 167 G1 169 (88 + bi u + j)) ((wd8 w1 : Nat) : Int)) = 0) ↔ nw i = w1) := fun i hi hk => by
        obtain ⟨z, z1, z2, z3, z4, z5⟩ := n3 i (by show (i : Int) < M 13 4; omega)
        have ez : z = u := ki_inj z z1 u hu (z2.symm.trans hk)
        subst ez
        have e3 : blk M 13 12 3 i = M 16 i := rfl
        rw [e3] at z3 z4 z5
        obtain ⟨j, jU, ej⟩ := natOf (x := M 16 i) (k := U) z3 (by omega)
        rw [ej] at z5
        refine ⟨j, jU, ?_⟩
        have e5 : jrow X 167 G1 169 (88 + bi z + j) = ((wd8 (nw i) : Nat) : Int) := by
          rw [jrow_ne _ (by omega), ← z5]
          show _ = X 169 (88 + (bi z + ((j : Int)).toNat))
          rw [Nat.add_assoc]; rfl
        rw [e5]
        exact cmp8 (n1 i (by show (i : Int) < M 13 4; omega)).1 hw
      rcases r2 with ⟨r2, r3⟩ | ⟨j, j1, j2, j3, j4⟩
      · refine Or.inr ⟨by rw [er, r3], fun i i1 i2 z => ?_⟩
        obtain ⟨j, q1, q2⟩ := key i i1 i2
        exact r2 j (by omega) q1 (q2.2 z)
      · refine Or.inl ⟨j, by rw [er, j3], by omega, ?_⟩
        obtain ⟨i, i1, i2, i3⟩ := n4 u hu j (by omega)
        obtain ⟨j', q1, q2⟩ := key i (by have : (i : Int) < M 13 4 := i1; omega) i2
        refine ⟨i, by have : (i : Int) < M 13 4 := i1; omega, ?_⟩
        obtain ⟨z, z1, z2, z3, z4, z5⟩ := n3 i i1
        have ez : z = u := ki_inj z z1 u hu (z2.symm.trans i2)
        subst ez
        rw [i3] at z5
        have e5 : jrow X 167 G1 169 (88 + bi z + j) = ((wd8 (nw i) : Nat) : Int) := by
          rw [jrow_ne _ (by omega), ← z5]
          show _ = X 169 (88 + (bi z + ((j : Int)).toNat))
          rw [Nat.add_assoc]; rfl
        rw [e5] at j4
        exact (cmp8 (n1 i i1).1 hw).1 j4
    have hpass : f_X2_passNewName n (ki o) (a o) (jrow M 9 F1) = bnd (f_X4_hasName n 13 ((wd5 w1 : Nat) : Int) (jrow M 9 F1)) fun r1 M2 => if jw r1 = 0 then (if jw (ki o) = jw 8 then (if jw (M2 13 0) = 0 then (f_X2_passNewName_L53 n M2) else (f_X2_passNewName_L62 n (ki o) (a o) M2)) else (f_X2_passNewName_L62 n (ki o) (a o) M2)) else (f_X2_passNewName_L53 n M2) := by
      unfold f_X2_passNewName
      rw [if_pos (show jw (jrow M 9 F1 9 4) = jw 2 from (c_kind h1 (c := 2) (by omega)).2 k2), h7]
    have hhas : f_X4_hasName n 13 ((wd5 w1 : Nat) : Int) (jrow M 9 F1) = f_X4_hasName_L2 n 13 n ((wd5 w1 : Nat) : Int) ((0 : Nat) : Int) (jrow M 9 F1) := by
      unfold f_X4_hasName
      rw [letv_ap]
      rfl
    have clsw : ∀ i : Nat, i < B → ((jw (jcmp (jrow M 9 F1 14 i) ((wd5 w1 : Nat) : Int)) = 0) ↔ nw i = w1) := fun i hi => by
      have q := n1 i (by show (i : Int) < M 13 4; omega)
      have e1 : M 14 i = ((wd5 (nw i) : Nat) : Int) := q.2
      rw [jrow_ne _ (by omega), e1]
      exact cmp5 q.1 hw
    rw [eNew 1 (by rw [if_pos k2]), if_neg (by decide), hpass, hhas]
    have bad : ∀ (X' : JMem), X' = jrow X 167 G1 → (∃ F' G' : Nat → Int, f_X6_fail n 3 (jrow M 9 F1) = some (0, jrow M 9 F') ∧ f_X12_fails n 3 X' = some (0, jrow X 167 G') ∧ FLT F' G' ∧ Fr9 (M 9) F' ∧ FrX (X 167) G') := fun X' hX' => by
      obtain ⟨F', G', q1, q2, q3, q4, q5, -⟩ := s_fail (n := n) h1 (why := 3) (by omega)
      rw [jrow_same] at q4 q5
      exact ⟨F', G', by rw [q1, jrow_jrow], by rw [hX', q2, jrow_jrow], q3, b6.trans q4, b7.trans q5⟩
    rcases c_has (n := n) (M := jrow M 9 F1) (A := B) (by omega) (by rw [jrow_ne _ (by omega)]; exact eB) (x := ((wd5 w1 : Nat) : Int)) B 0 n (by omega) (by omega) with ⟨c1, c2⟩ | ⟨c1, i, -, i2, i3⟩
    · -- a new one
      have nn : ∀ i : Nat, i < B → nw i ≠ w1 := fun i hi z => c2 i (by omega) hi ((clsw i hi).2 z)
      have f0 := (fnd 0 (by omega)).resolve_left (fun ⟨j, _, _, i, i1, i2⟩ => nn i i1 i2)
      have f1 := (fnd 1 (by omega)).resolve_left (fun ⟨j, _, _, i, i1, i2⟩ => nn i i1 i2)
      have f2 := (fnd 2 (by omega)).resolve_left (fun ⟨j, _, _, i, i1, i2⟩ => nn i i1 i2)
      rw [c1, bnd_some, if_pos (by decide), show f_X12_findHere n 88 (a 0) (jrow X 167 G1) = _ from f0.1, bnd_some, if_pos rfl, chk_pos (by decide), show jrow X 167 G1 168 (jw 2017).toNat = a 1 by rw [jrow_ne _ (by omega)]; exact hX 1 (by omega), show f_X12_findHere n 94 (a 1) (jrow X 167 G1) = _ from f1.1, bnd_some, if_pos rfl, chk_pos (by decide), show jrow X 167 G1 168 (jw 2018).toNat = a 2 by rw [jrow_ne _ (by omega)]; exact hX 2 (by omega), show f_X12_findHere n 102 (a 2) (jrow X 167 G1) = _ from f2.1, bnd_some, if_pos rfl, jrow_ne (M := M) F1 (show (13 : Nat) ≠ 9 by omega), h0]
      have e16 : jrow X 167 G1 168 (jw 2016).toNat = a 0 := by rw [jrow_ne _ (by omega)]; exact hX 0 (by omega)
      have good : (o = 2 → a 0 ≠ 0) → (∃ (M2 X2 : JMem) (s' k' : Nat) (w' : List Nat) (v' : Int), f_X2_passNewName_L62 n (ki o) (a o) (jrow M 9 F1) = some (0, M2) ∧ f_X12_newOne_L123 n (o : Int) ((bi o : Nat) : Int) (jrow X 167 G1) = some (1, X2) ∧ TL T N (M2 9) (X2 167) s' k' w' v' ∧ s < s' ∧ Fr9 (M 9) (M2 9) ∧ FrX (X 167) (X2 167) ∧ (∀ c : Nat, c ≠ 9 → c ≠ 13 → c ≠ 14 → c ≠ 15 → c ≠ 16 → M2 c = M c) ∧ (∀ j : Nat, j ≠ 4 → M2 13 j = M 13 j) ∧ (∀ c : Nat, c ≠ 167 → c ≠ 169 → X2 c = X c) ∧ (∀ j : Nat, j < 88 → X2 169 j = X 169 j) ∧ (o = 2 → a 0 ≠ 0) ∧ RKn (blk M2 13 12) (fun j => X2 169 (88 + j)) (upO a o)) := fun hz => by
        have hMa : ∀ c : Nat, c = 9 ∨ c = 10 ∨ c = 11 → jup (jup (jup (jup (jrow M 9 F1) 14 B ((wd5 w1 : Nat) : Int)) 15 B (ki o)) 16 B (A : Int)) 13 4 ((B : Int) + 1) c = jrow M 9 F1 c := fun c hc => by rw [jup_cell (by omega), jup_cell (by omega), jup_cell (by omega), jup_cell (by omega)]
        have hXa : ∀ c : Nat, c = 167 ∨ c = 174 → jup (jrow X 167 G1) 169 (88 + bi o + A) ((wd8 w1 : Nat) : Int) c = jrow X 167 G1 c := fun c hc => by rw [jup_cell (by omega)]
        obtain ⟨F2, G2, s2, k2', w2, v2, d1, d2, d3, d4, d5, d6, d7⟩ := s_adv (n := n) (M := jup (jup (jup (jup (jrow M 9 F1) 14 B ((wd5 w1 : Nat) : Int)) 15 B (ki o)) 16 B (A : Int)) 13 4 ((B : Int) + 1)) (X := jup (jrow X 167 G1) 169 (88 + bi o + A) ((wd8 w1 : Nat) : Int)) hn (hS1.mv (hMa 10 (by omega)) (hMa 11 (by omega)) (hXa 174 (by omega))) (by rw [hMa 9 (by omega), hXa 167 (by omega)]; exact h1) (by omega)
        rw [hMa 9 (by omega), jrow_same] at d6
        rw [hXa 167 (by omega), jrow_same] at d7
        have m13 : ∀ j : Nat, jrow (jup (jup (jup (jup (jrow M 9 F1) 14 B ((wd5 w1 : Nat) : Int)) 15 B (ki o)) 16 B (A : Int)) 13 4 ((B : Int) + 1)) 9 F2 13 j = if j = 4 then (B : Int) + 1 else M 13 j := fun j => by
          rw [jrow_ne _ (by omega), jup_if, jup_cell (by omega), jup_cell (by omega), jup_cell (by omega), jrow_ne _ (by omega)]
        have m14 : ∀ j : Nat, jrow (jup (jup (jup (jup (jrow M 9 F1) 14 B ((wd5 w1 : Nat) : Int)) 15 B (ki o)) 16 B (A : Int)) 13 4 ((B : Int) + 1)) 9 F2 14 j = if j = B then ((wd5 w1 : Nat) : Int) else M 14 j := fun j => by
          rw [jrow_ne _ (by omega), jup_cell (by omega), jup_cell (by omega), jup_cell (by omega), jup_if, jrow_ne _ (by omega)]
        have m15 : ∀ j : Nat, jrow (jup (jup (jup (jup (jrow M 9 F1) 14 B ((wd5 w1 : Nat) : Int)) 15 B (ki o)) 16 B (A : Int)) 13 4 ((B : Int) + 1)) 9 F2 15 j = if j = B then ki o else M 15 j := fun j => by
          rw [jrow_ne _ (by omega), jup_cell (by omega), jup_cell (by omega), jup_if, jup_cell (by omega), jrow_ne _ (by omega)]
        have m16 : ∀ j : Nat, jrow (jup (jup (jup (jup (jrow M 9 F1) 14 B ((wd5 w1 : Nat) : Int)) 15 B (ki o)) 16 B (A : Int)) 13 4 ((B : Int) + 1)) 9 F2 16 j = if j = B then (A : Int) else M 16 j := fun j => by
          rw [jrow_ne _ (by omega), jup_cell (by omega), jup_if, jup_cell (by omega), jup_cell (by omega), jrow_ne _ (by omega)]
        have x69 : ∀ j : Nat, jrow (jup (jrow X 167 G1) 169 (88 + bi o + A) ((wd8 w1 : Nat) : Int)) 167 G2 169 j = if j = 88 + bi o + A then ((wd8 w1 : Nat) : Int) else X 169 j := fun j => by
          rw [jrow_ne _ (by omega), jup_if, jrow_ne _ (by omega)]
        refine ⟨jrow (jup (jup (jup (jup (jrow M 9 F1) 14 B ((wd5 w1 : Nat) : Int)) 15 B (ki o)) 16 B (A : Int)) 13 4 ((B : Int) + 1)) 9 F2, jrow (jup (jrow X 167 G1) 169 (88 + bi o + A) ((wd8 w1 : Nat) : Int)) 167 G2, s2, k2', w2, v2, ?_, ?_, by rw [jrow_same, jrow_same]; exact d3, by have := d5 (by omega); omega, by rw [jrow_same]; exact b6.trans d6, by rw [jrow_same]; exact b7.trans d7, fun c c1 c2 c3 c4 c5 => ?_, fun j hj => ?_, fun c c1 c2 => ?_, fun j hj => ?_, hz, ?_⟩
        · unfold f_X2_passNewName_L62 f_X4_addName
          rw [h7, jrow_ne (M := M) F1 (show (13 : Nat) ≠ 9 by omega), eB, if_neg (by rw [jwN (by omega), show jw 22 = 22 by decide]; omega), chk_pos (jinN (by omega) (by omega)), jwT (by omega), letm_ap, show jup (jrow M 9 F1) (13 + 1) B ((wd5 w1 : Nat) : Int) 13 4 = (B : Int) by rw [jup_cell (by omega), jrow_ne _ (by omega)]; exact eB, chk_pos (jinN (by omega) (by omega)), jwT (by omega), letm_ap, show jup (jup (jrow M 9 F1) (13 + 1) B ((wd5 w1 : Nat) : Int)) (13 + 2) B (ki o) 13 4 = (B : Int) by rw [jup_cell (by omega), jup_cell (by omega), jrow_ne _ (by omega)]; exact eB, chk_pos (jinN (by omega) (by omega)), jwT (by omega), letm_ap, letm_ap, show jup (jup (jup (jrow M 9 F1) (13 + 1) B ((wd5 w1 : Nat) : Int)) (13 + 2) B (ki o)) (13 + 3) B (a o) 13 4 = (B : Int) by rw [jup_cell (by omega), jup_cell (by omega), jup_cell (by omega), jrow_ne _ (by omega)]; exact eB, bnd_some, eA, d1, bnd_some]
        · unfold f_X12_newOne_L123
          rw [show (2016 : Int) + (o : Int) = ((2016 + o : Nat) : Int) by omega, chk_pos (jinN (by omega) (by omega)), hnm, bnd_some, jwT (by omega), show jrow X 167 G1 168 (2016 + o) = (A : Int) by rw [jrow_ne _ (by omega), hX o ho]; exact eA, show (88 : Int) + ((bi o : Nat) : Int) + (A : Int) = ((88 + bi o + A : Nat) : Int) by omega, chk_pos (jinN (by omega) (by omega)), jwT (by omega), letm_ap, d2, bnd_some]
        · rw [jrow_ne _ c1, jup_cell c2, jup_cell c5, jup_cell c4, jup_cell c3, jrow_ne _ c1]
        · rw [m13, if_neg hj]
        · rw [jrow_ne _ c1, jup_cell c2, jrow_ne _ c1]
        · rw [x69, if_neg (by omega)]
        · -- the names anew
          have q04 : blk (jrow (jup (jup (jup (jup (jrow M 9 F1) 14 B ((wd5 w1 : Nat) : Int)) 15 B (ki o)) 16 B (A : Int)) 13 4 ((B : Int) + 1)) 9 F2) 13 12 0 4 = (B : Int) + 1 := by rw [blk_at (by omega)]; exact (m13 4).trans (if_pos rfl)
          have q1 : ∀ i : Nat, blk (jrow (jup (jup (jup (jup (jrow M 9 F1) 14 B ((wd5 w1 : Nat) : Int)) 15 B (ki o)) 16 B (A : Int)) 13 4 ((B : Int) + 1)) 9 F2) 13 12 1 i = if i = B then ((wd5 w1 : Nat) : Int) else M 14 i := fun i => by rw [blk_at (by omega)]; exact m14 i
          have q2 : ∀ i : Nat, blk (jrow (jup (jup (jup (jup (jrow M 9 F1) 14 B ((wd5 w1 : Nat) : Int)) 15 B (ki o)) 16 B (A : Int)) 13 4 ((B : Int) + 1)) 9 F2) 13 12 2 i = if i = B then ki o else M 15 i := fun i => by rw [blk_at (by omega)]; exact m15 i
          have q3 : ∀ i : Nat, blk (jrow (jup (jup (jup (jup (jrow M 9 F1) 14 B ((wd5 w1 : Nat) : Int)) 15 B (ki o)) 16 B (A : Int)) 13 4 ((B : Int) + 1)) 9 F2) 13 12 3 i = if i = B then (A : Int) else M 16 i := fun i => by rw [blk_at (by omega)]; exact m16 i
          have kb : ∀ i : Nat, i < B → (i : Int) < blk M 13 12 0 4 := fun i hi => by show (i : Int) < M 13 4; omega
          refine ⟨?_, fun i => if i = B then w1 else nw i, fun i hi => ?_, fun i j hi hj hij => ?_, fun i hi => ?_, fun u hu k hk => ?_⟩
          · rw [q04]
            unfold upO
            rcases (show o = 0 ∨ o = 1 ∨ o = 2 by omega) with rfl | rfl | rfl
            · rw [if_pos rfl, if_neg (by decide), if_neg (by decide)]; omega
            · rw [if_neg (by decide), if_pos rfl, if_neg (by decide)]; omega
            · rw [if_neg (by decide), if_neg (by decide), if_pos rfl]; omega
          · rw [q04] at hi
            rw [q1]
            dsimp only
            by_cases z : i = B
            · rw [if_pos z, if_pos z]; exact ⟨hw, rfl⟩
            · rw [if_neg z, if_neg z]; exact n1 i (kb i (by omega))
          · rw [q04] at hi hj
            have hij' : (if i = B then w1 else nw i) = (if j = B then w1 else nw j) := hij
            by_cases z : i = B
            · by_cases z2 : j = B
              · omega
              · rw [if_pos z, if_neg z2] at hij'
                exact absurd hij'.symm (nn j (by omega))
            · by_cases z2 : j = B
              · rw [if_neg z, if_pos z2] at hij'
                exact absurd hij' (nn i (by omega))
              · rw [if_neg z, if_neg z2] at hij'
                exact n2 i j (kb i (by omega)) (kb j (by omega)) hij'
          · rw [q04] at hi
            rw [q2, q3]
            dsimp only
            by_cases z : i = B
            · rw [if_pos z, if_pos z]
              refine ⟨o, ho, rfl, by omega, ?_, ?_⟩
              · unfold upO
                rw [if_pos rfl]; omega
              · rw [show ((A : Int)).toNat = A from rfl, x69, if_pos (by omega), if_pos z]
            · rw [if_neg z, if_neg z]
              obtain ⟨u, u1, u2, u3, u4, u5⟩ := n3 i (kb i (by omega))
              have u2' : M 15 i = ki u := u2
              have u3' : 0 ≤ M 16 i := u3
              have u4' : M 16 i < a u := u4
              have u5' : X 169 (88 + (bi u + (M 16 i).toNat)) = ((wd8 (nw i) : Nat) : Int) := u5
              have au := ha u u1
              refine ⟨u, u1, u2', u3', ?_, ?_⟩
              · unfold upO
                by_cases e : u = o
                · rw [if_pos e]; omega
                · rw [if_neg e]; exact u4'
              · rw [x69, if_neg, if_neg z]
                · exact u5'
                · intro e
                  have aou : a u ≤ if u = 0 then 6 else 8 := au.2
                  by_cases eu : u = o
                  · rw [eu] at e u4'
                    omega
                  · have hA6 : (A : Int) < mo o := by rw [← eA]; exact hlt
                    rcases (show u = 0 ∨ u = 1 ∨ u = 2 by omega) with rfl | rfl | rfl
                    · rw [if_pos rfl] at aou
                      rcases (show o = 1 ∨ o = 2 by omega) with rfl | rfl
                      · have : 88 + (0 + (M 16 i).toNat) = 88 + 6 + A := e
                        omega
                      · have : 88 + (0 + (M 16 i).toNat) = 88 + 14 + A := e
                        omega
                    · rw [if_neg (by decide)] at aou
                      rcases (show o = 0 ∨ o = 2 by omega) with rfl | rfl
                      · have : 88 + (6 + (M 16 i).toNat) = 88 + 0 + A := e
                        have : mo 0 = 6 := rfl
                        omega
                      · have : 88 + (6 + (M 16 i).toNat) = 88 + 14 + A := e
                        omega
                    · rw [if_neg (by decide)] at aou
                      rcases (show o = 0 ∨ o = 1 by omega) with rfl | rfl
                      · have : 88 + (14 + (M 16 i).toNat) = 88 + 0 + A := e
                        have : mo 0 = 6 := rfl
                        omega
                      · have : 88 + (14 + (M 16 i).toNat) = 88 + 6 + A := e
                        have : mo 1 = 8 := rfl
                        omega
          · rw [q04]
            by_cases e : u = o ∧ k = A
            · refine ⟨B, by omega, ?_, ?_⟩
              · rw [q2, if_pos rfl, e.1]
              · rw [q3, if_pos rfl, e.2]
            · have hk' : (k : Int) < a u := by
                unfold upO at hk
                by_cases e1 : u = o
                · rw [if_pos e1] at hk
                  rw [e1] at hk ⊢
                  have : k ≠ A := fun z => e ⟨e1, z⟩
                  omega
                · rw [if_neg e1] at hk; exact hk
              obtain ⟨i, i1, i2, i3⟩ := n4 u hu k hk'
              have i1' : (i : Int) < M 13 4 := i1
              refine ⟨i, by omega, ?_, ?_⟩
              · rw [q2, if_neg (by omega)]; exact i2
              · rw [q3, if_neg (by omega)]; exact i3
      by_cases o2 : o = 2
      · subst o2
        rw [if_pos (show jw (ki 2) = jw 8 by decide), if_pos (show jw ((bi 2 : Nat) : Int) = jw 14 by decide), chk_pos (by decide), e16]
        have ja : jw (a 0) = a 0 := jw_of (by omega) (by omega)
        by_cases z0 : a 0 = 0
        · rw [if_pos (by rw [ja]; exact z0), if_pos (by rw [ja]; exact z0)]
          obtain ⟨F', G', q1, q2, q3, q4, q5⟩ := bad _ rfl
          refine Or.inr ⟨F', G', ?_, fails_chk q2, q3, q4, q5⟩
          unfold f_X2_passNewName_L53
          rw [q1, bnd_some]
        · rw [if_neg (by rw [ja]; exact z0), if_neg (by rw [ja]; exact z0)]
          exact Or.inl (good (fun _ => z0))
      · rw [if_neg (show ¬ jw (ki o) = jw 8 from fun z => o2 ((ki_jw o ho 2 (by omega)).1 z)), if_neg (show ¬ jw ((bi o : Nat) : Int) = jw 14 by
          have : ∀ o : Nat, o < 3 → o ≠ 2 → ¬ jw ((bi o : Nat) : Int) = jw 14 := by decide
          exact this o ho o2)]
        exact Or.inl (good (fun z => absurd z o2))
    · have ei := (clsw i i2).1 i3
      rw [c1, bnd_some, if_neg (by decide)]
      obtain ⟨F', G', q1, q2, q3, q4, q5⟩ := bad _ rfl
      refine Or.inr ⟨F', G', ?_, ?_, q3, q4, q5⟩
      · unfold f_X2_passNewName_L53
        rw [q1, bnd_some]
      · have e94 : f_X12_newOne_L94 n (jrow X 167 G1) = some (0, jrow X 167 G') := by
          unfold f_X12_newOne_L94
          exact fails_chk q2
        have hm1 : ∀ j : Nat, j < 8 → ¬ jw ((j : Nat) : Int) = jw (-1) := fun j hj => by rw [jwm1, jwN (by omega)]; omega
        rcases fnd 0 (by omega) with ⟨j, r1, r2, -⟩ | ⟨r1, r2⟩
        · rw [show f_X12_findHere n 88 (a 0) (jrow X 167 G1) = _ from r1, bnd_some, if_neg (hm1 j r2), e94]
        · rw [show f_X12_findHere n 88 (a 0) (jrow X 167 G1) = _ from r1, bnd_some, if_pos rfl, chk_pos (by decide), show jrow X 167 G1 168 (jw 2017).toNat = a 1 by rw [jrow_ne _ (by omega)]; exact hX 1 (by omega)]
          rcases fnd 1 (by omega) with ⟨j, r3, r4, -⟩ | ⟨r3, r4⟩
          · rw [show f_X12_findHere n 94 (a 1) (jrow X 167 G1) = _ from r3, bnd_some, if_neg (hm1 j r4), e94]
          · rw [show f_X12_findHere n 94 (a 1) (jrow X 167 G1) = _ from r3, bnd_some, if_pos rfl, chk_pos (by decide), show jrow X 167 G1 168 (jw 2018).toNat = a 2 by rw [jrow_ne _ (by omega)]; exact hX 2 (by omega)]
            rcases fnd 2 (by omega) with ⟨j, r5, r6, -⟩ | ⟨r5, r6⟩
            · rw [show f_X12_findHere n 102 (a 2) (jrow X 167 G1) = _ from r5, bnd_some, if_neg (hm1 j r6), e94]
            · exfalso
              obtain ⟨u, u1, u2, -⟩ := n3 i (by show (i : Int) < M 13 4; omega)
              have u2' : M 15 i = ki u := u2
              rcases (show u = 0 ∨ u = 1 ∨ u = 2 by omega) with rfl | rfl | rfl
              · exact r2 i i2 u2' ei
              · exact r4 i i2 u2' ei
              · exact r6 i i2 u2' ei
  · obtain ⟨F', G', q1, q2, q3, q4, q5, -⟩ := s_fail (n := n) h1 (why := 2) (by omega)
    rw [jrow_same] at q4 q5
    rw [jrow_jrow] at q1 q2
    refine Or.inr ⟨F', G', ?_, ?_, q3, b6.trans q4, b7.trans q5⟩
    · unfold f_X2_passNewName
      rw [if_neg (show ¬ jw (jrow M 9 F1 9 4) = jw 2 from fun q => k2 ((c_kind h1 (c := 2) (by omega)).1 q)), q1, bnd_some]
    · rw [eNew 0 (by rw [if_neg k2]), if_pos (by decide), fails_chk q2]
end PNEW

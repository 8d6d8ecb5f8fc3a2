section PPART
variable {n : Nat} {M X M0 X0 : JMem} {T : Nat → Int} {N s s0 k : Nat} {w : List Nat} {v : Int} {a a' : Nat → Int}
/-! one part of a PARK, all of them -/
theorem bnd_bnd {o : Option (Int × JMem)} {f : Int → JMem → Option (Int × JMem)} {g : Int → JMem → Option (Int × JMem)} : bnd (bnd o f) g = bnd o fun r M => bnd (f r M) g := by
  cases o <;> rfl
theorem po_sign {f g : Option (Int × JMem)} (hn : 2000 ≤ n) (h : PO T N M0 X0 s f g) : PO T N M0 X0 s (bnd f fun _ M' => f_X6_passSign n 59 M') (bnd g fun y X' => f_X12_parkPart_L150 n y X') := by
  rcases h with ⟨M', X', s', k', w', v', b, e1, e2, h1, h2⟩ | ⟨M', X', e1, e2, h1⟩
  · rw [e1, e2, bnd_some, bnd_some]
    exact po_ok hn h1 h2
  · rw [e1, e2, bnd_some, bnd_some]
    exact po_no h1
theorem fails_0 (why : Int) (X : JMem) : ∃ X2, f_X12_fails n why X = some (0, X2) := by
  unfold f_X12_fails f_X12_fails_L21
  simp only [letm_ap]
  split
  · split
    · exact ⟨_, rfl⟩
    · exact ⟨_, rfl⟩
  · exact ⟨_, rfl⟩
def cb (n : Nat) (M : JMem) : Option (Int × JMem) := bnd (f_X6_wordAt n M) fun r1 M2 => if jw r1 = 0 then (bnd (f_X2_takeOdds n M2) fun _ M' => f_X6_passSign n 59 M') else (if jw r1 = 1 then (bnd (f_X2_takePlace n M2) fun _ M' => f_X6_passSign n 59 M') else (if jw r1 = 2 then (bnd (f_X2_takeTrain n M2) fun _ M' => f_X6_passSign n 59 M') else (if jw r1 = 8 then (bnd (f_X2_takeBeast n M2) fun _ M' => f_X6_passSign n 59 M') else (if jw r1 = 12 then (bnd (f_X2_takeHunts n M2) fun _ M' => f_X6_passSign n 59 M') else (if jw r1 = 13 then (bnd (f_X2_takeTicket n M2) fun _ M' => f_X6_passSign n 59 M') else (bnd (f_X6_fail n 2 M2) fun _ M' => f_X6_passSign n 59 M'))))))
theorem wordAt_some (M : JMem) : ∃ r, f_X6_wordAt n M = some (r, M) := by
  unfold f_X6_wordAt
  split
  · exact ⟨_, rfl⟩
  · exact ⟨_, rfl⟩
theorem cb_step {q : Nat} {v1 v2 : Int} (h1 : ¬ jw v1 < jw v2) (h2 : jw (M 9 2) = 0) (h3 : ¬ jw (M 9 4) = 0) : f_X2_takesAll_L33 n (q + 1) v1 v2 M = bnd (cb n M) fun _ M2 => f_X2_takesAll_L33 n q v1 (v2 + 1) M2 := by
  obtain ⟨r, hr⟩ := wordAt_some (n := n) M
  have e : ∀ (o : Option (Int × JMem)), (bnd o fun _ M5 => f_X2_takesAll_L186 n (f_X2_takesAll_L33 n q) v1 v2 M5) = bnd (bnd o fun _ M' => f_X6_passSign n 59 M') fun _ M2 => f_X2_takesAll_L33 n q v1 (v2 + 1) M2 := fun o => by
    rw [bnd_bnd]
    rfl
  rw [f_X2_takesAll_L33, if_neg h1, if_pos h2, if_neg h3, hr, bnd_some]
  unfold cb f_X2_takesAll_L178
  rw [hr, bnd_some]
  by_cases c0 : jw r = 0
  · rw [if_pos c0, if_pos c0, e]
  · by_cases c1 : jw r = 1
    · rw [if_neg c0, if_pos c1, if_neg c0, if_pos c1, e]
    · by_cases c2 : jw r = 2
      · rw [if_neg c0, if_neg c1, if_pos c2, if_neg c0, if_neg c1, if_pos c2, e]
      · by_cases c3 : jw r = 8
        · rw [if_neg c0, if_neg c1, if_neg c2, if_pos c3, if_neg c0, if_neg c1, if_neg c2, if_pos c3, e]
        · by_cases c4 : jw r = 12
          · rw [if_neg c0, if_neg c1, if_neg c2, if_neg c3, if_pos c4, if_neg c0, if_neg c1, if_neg c2, if_neg c3, if_pos c4, e]
          · by_cases c5 : jw r = 13
            · rw [if_neg c0, if_neg c1, if_neg c2, if_neg c3, if_neg c4, if_pos c5, if_neg c0, if_neg c1, if_neg c2, if_neg c3, if_neg c4, if_pos c5, e]
            · rw [if_neg c0, if_neg c1, if_neg c2, if_neg c3, if_neg c4, if_neg c5, if_neg c0, if_neg c1, if_neg c2, if_neg c3, if_neg c4, if_neg c5, e]
theorem p_part (hn : 2000 ≤ n) (h : MS T N M0 X0 M X s k w v a a) (hk : k ≠ 6) : PO T N M0 X0 s (cb n M) (f_X12_parkPart n X) := by
  have hi := q_inWords (n := n) hn h.1 h.2.1
  -- it can't stand there
  have bad : PO T N M0 X0 s (bnd (f_X6_fail n 2 M) fun _ M' => f_X6_passSign n 59 M') (bnd (f_X12_fails n 2 X) fun r27 M28 => chk (jw r27 = 0 ∨ jw r27 = 1) (some (r27, M28))) := by
    obtain ⟨F', G', c1, c2, c3, c4, c5, -⟩ := s_fail (n := n) h.2.1 (why := 2) (by omega)
    have hf := h.fl c3 c4 c5
    rw [c1, bnd_some, fails_chk c2, j_passSign hf.1.jk]
    exact Or.inr ⟨_, _, rfl, rfl, hf⟩
  unfold cb f_X12_parkPart
  rw [hi, bnd_some]
  by_cases k1 : k = 1
  · obtain ⟨c, c27, e1, e2, e3⟩ := h.2.1.k1 k1
    have hw : f_X6_wordAt n M = some ((c : Int), M) := by
      unfold f_X6_wordAt
      rw [if_pos (show jw (M 9 4) = jw 1 from (c_kind h.2.1 (c := 1) (by omega)).2 k1), e3]
    have hc := jwN (a := c) (by omega)
    have hp := (k_pq c c27).2.1
    have hpc := jwN (a := kp c) (by omega)
    rw [hw, bnd_some, if_pos k1, e2, show ((c : Int)).toNat = c from rfl, hc, hpc]
    clear hc hpc
    have tab : ∀ c : Nat, c < 27 → (kp c = 0 ↔ c = 0) ∧ (kp c = 1 ↔ c = 1) ∧ (kp c = 2 ↔ c = 2) ∧ (kp c = 3 ↔ c = 8) ∧ (kp c = 4 ↔ c = 12) ∧ (kp c = 5 ↔ c = 13) := by decide +kernel
    obtain ⟨t0, t1, t2, t3, t4, t5⟩ := tab c c27
    by_cases c0 : c = 0
    · rw [if_pos (show (c : Int) = 0 by omega), if_pos (show ((kp c : Nat) : Int) = 0 by have := t0.2 c0; omega)]
      have hp := po_sign hn (p_odds hn h k1)
      by_cases z : jw (X 167 20) = 0
      · rw [if_pos z] at hp
        rw [if_pos z, chk_pos (by decide)]
        refine cast (congrArg (PO T N M0 X0 s _) ?_) hp
        rw [letm_ap, letm_ap, bnd_bnd]
        congr 1
        funext r M'
        rw [bnd_bnd]
        rfl
      · rw [if_neg z] at hp
        rw [if_neg z]
        obtain ⟨X2, hX2⟩ := fails_0 (n := n) 5 X
        rw [fails_chk hX2, bnd_some] at hp
        rw [fails_chk hX2]
        refine cast (congrArg (PO T N M0 X0 s _) ?_) hp
        unfold f_X12_parkPart_L150
        rw [if_pos (by decide)]
    · rw [if_neg (show ¬ (c : Int) = 0 by omega), if_neg (show ¬ ((kp c : Nat) : Int) = 0 by intro z; exact c0 (t0.1 (by omega)))]
      by_cases c1 : c = 1
      · rw [if_pos (show (c : Int) = 1 by omega), if_pos (show ((kp c : Nat) : Int) = 1 by have := t1.2 c1; omega)]
        exact p_place hn h k1
      · rw [if_neg (show ¬ (c : Int) = 1 by omega), if_neg (show ¬ ((kp c : Nat) : Int) = 1 by intro z; exact c1 (t1.1 (by omega)))]
        by_cases c2 : c = 2
        · rw [if_pos (show (c : Int) = 2 by omega), if_pos (show ((kp c : Nat) : Int) = 2 by have := t2.2 c2; omega)]
          exact po_sign hn (p_trainT hn h k1)
        · rw [if_neg (show ¬ (c : Int) = 2 by omega), if_neg (show ¬ ((kp c : Nat) : Int) = 2 by intro z; exact c2 (t2.1 (by omega)))]
          by_cases c3 : c = 8
          · rw [if_pos (show (c : Int) = 8 by omega), if_pos (show ((kp c : Nat) : Int) = 3 by have := t3.2 c3; omega)]
            exact po_sign hn (p_beastT hn h k1)
          · rw [if_neg (show ¬ (c : Int) = 8 by omega), if_neg (show ¬ ((kp c : Nat) : Int) = 3 by intro z; exact c3 (t3.1 (by omega)))]
            by_cases c4 : c = 12
            · rw [if_pos (show (c : Int) = 12 by omega), if_pos (show ((kp c : Nat) : Int) = 4 by have := t4.2 c4; omega)]
              exact po_sign hn (p_huntsT hn h k1)
            · rw [if_neg (show ¬ (c : Int) = 12 by omega), if_neg (show ¬ ((kp c : Nat) : Int) = 4 by intro z; exact c4 (t4.1 (by omega)))]
              by_cases c5 : c = 13
              · rw [if_pos (show (c : Int) = 13 by omega), if_pos (show ((kp c : Nat) : Int) = 5 by have := t5.2 c5; omega)]
                exact po_sign hn (p_ticketT hn h k1)
              · rw [if_neg (show ¬ (c : Int) = 13 by omega), if_neg (show ¬ ((kp c : Nat) : Int) = 5 by intro z; exact c5 (t5.1 (by omega)))]
                exact bad
  · have hw : f_X6_wordAt n M = some (-1, M) := by
      unfold f_X6_wordAt
      rw [if_neg (show ¬ jw (M 9 4) = jw 1 from fun z => k1 ((c_kind h.2.1 (c := 1) (by omega)).1 z))]
    rw [hw, bnd_some, if_neg k1, jwm1, if_neg (by decide), if_neg (by decide), if_neg (by decide), if_neg (by decide), if_neg (by decide), if_neg (by decide), if_neg (by decide), if_neg (by decide), if_neg (by decide), if_neg (by decide), if_neg (by decide), if_neg (by decide)]
    exact bad
/-- all parts -/
theorem park_loop (hn : 2000 ≤ n) : ∀ (d i q q' : Nat) (M X : JMem) (s k : Nat) (w : List Nat) (v : Int) (a : Nat → Int), N - s ≤ d → d + 2 ≤ q → d + 3 ≤ q' → i ≤ s → MS T N M0 X0 M X s k w v a a →
    (∃ (M' X' : JMem) (s' : Nat) (w' : List Nat) (v' : Int) (b : Nat → Int), f_X2_takesAll_L33 n q (N : Int) (i : Int) M = f_X2_takesAll_L201 n M' ∧ f_X12_park_L31 n q' 1 X = f_X12_park_L50 n X' ∧ MS T N M0 X0 M' X' s' 0 w' v' b b) ∨
    (∃ M' X' : JMem, f_X2_takesAll_L33 n q (N : Int) (i : Int) M = f_X2_takesAll_L201 n M' ∧ f_X12_park_L31 n q' 1 X = f_X12_park_L50 n X' ∧ FJ M0 X0 M' X') := by
  intro d
  induction d with
  | zero =>
    intro i q q' M X s k w v a hd hq hq' his h
    obtain ⟨q, rfl⟩ : ∃ z, q = z + 1 := ⟨q - 1, by omega⟩
    obtain ⟨q', rfl⟩ : ∃ z, q' = z + 1 := ⟨q' - 1, by omega⟩
    have h900 := h.1.1.1
    have hsN := h.2.1.2.2.2.2.2.1
    have k0 : k = 0 := by
      by_cases z : k = 0
      · exact z
      · have := h.2.1.2.2.2.2.2.2.2.2.2.1 z
        omega
    subst k0
    have ht := h.2.1.tok
    have hF := (h.2.1.2.2.2.2.2.2.2.2.2.2.2 (by omega)).1
    refine Or.inl ⟨M, X, s, w, v, a, ?_, ?_, h⟩
    · rw [f_X2_takesAll_L33, if_neg (by rw [jwN (by omega), jwN (by omega)]; omega), hF, if_pos (by decide), h.2.1.2.2.1, if_pos (by decide)]
    · rw [f_X12_park_L31, if_neg (by decide), ht, if_pos rfl, if_pos (by decide)]
  | succ d ih =>
    intro i q q' M X s k w v a hd hq hq' his h
    obtain ⟨q, rfl⟩ : ∃ z, q = z + 1 := ⟨q - 1, by omega⟩
    obtain ⟨q', rfl⟩ : ∃ z, q' = z + 1 := ⟨q' - 1, by omega⟩
    have h900 := h.1.1.1
    have hsN := h.2.1.2.2.2.2.2.1
    have hk6 := h.2.1.2.2.2.2.2.2.2.2.1
    have ht := h.2.1.tok
    have hle : ¬ jw (N : Int) < jw (i : Int) := by rw [jwN (by omega), jwN (by omega)]; omega
    by_cases k0 : k = 0
    · subst k0
      have hF := (h.2.1.2.2.2.2.2.2.2.2.2.2.2 (by omega)).1
      refine Or.inl ⟨M, X, s, w, v, a, ?_, ?_, h⟩
      · rw [f_X2_takesAll_L33, if_neg hle, hF, if_pos (by decide), h.2.1.2.2.1, if_pos (by decide)]
      · rw [f_X12_park_L31, if_neg (by decide), ht, if_pos rfl, if_pos (by decide)]
    · have htn : ¬ jw (X 167 12) = 0 := by
        rw [ht, if_neg k0]
        split
        · decide
        · split
          · decide
          · split <;> decide
      by_cases k6 : k = 6
      · obtain ⟨q', rfl⟩ : ∃ z, q' = z + 1 := ⟨q' - 1, by omega⟩
        obtain ⟨F', G', c1, c2, c3, c4, c5, c6⟩ := s_fail (n := n) h.2.1 (why := 2) (by omega)
        have hj := h.2.1.jk k6
        have hf := h.fl c3 c4 c5
        rw [c6 k6, jrow_self] at hf
        have hi := q_inWords (n := n) hn h.1 h.2.1
        refine Or.inr ⟨M, jrow X 167 G', ?_, ?_, hf⟩
        · rw [f_X2_takesAll_L33, if_neg hle, if_neg (j12 _ hj.1 hj.2.1)]
        · have ep : f_X12_parkPart n X = some (0, jrow X 167 G') := by
            unfold f_X12_parkPart
            rw [hi, bnd_some, if_neg (show ¬ k = 1 by omega), jwm1, if_neg (by decide), if_neg (by decide), if_neg (by decide), if_neg (by decide), if_neg (by decide), if_neg (by decide), fails_chk c2]
          rw [f_X12_park_L31, if_neg (by decide), if_neg htn, ep, bnd_some, letv_ap, f_X12_park_L31, if_pos (by decide)]
      · have hF := (h.2.1.2.2.2.2.2.2.2.2.2.2.2 k6).1
        have hcs := cb_step (n := n) (M := M) (q := q) hle (by rw [hF]; decide) (by rw [h.2.1.2.2.1, jwN (by omega)]; omega)
        rw [hcs, f_X12_park_L31, if_neg (by decide), if_neg htn]
        rcases p_part hn h k6 with ⟨M1, X1, s1, k1, w1, v1, b, e1, e2, h1, h2⟩ | ⟨M1, X1, e1, e2, h1⟩
        · rw [e1, bnd_some, e2, bnd_some, letv_ap, show (i : Int) + 1 = ((i + 1 : Nat) : Int) by omega]
          exact ih (i + 1) q q' M1 X1 s1 k1 w1 v1 b (by omega) (by omega) (by omega) (by omega) h1
        · rw [e1, bnd_some, e2, bnd_some, letv_ap]
          obtain ⟨q, rfl⟩ : ∃ z, q = z + 1 := ⟨q - 1, by omega⟩
          obtain ⟨q', rfl⟩ : ∃ z, q' = z + 1 := ⟨q' - 1, by omega⟩
          refine Or.inr ⟨M1, X1, ?_, ?_, h1⟩
          · rw [f_X2_takesAll_L33, if_neg (j12 _ h1.1.jk.1 h1.1.jk.2.1)]
            split <;> rfl
          · rw [f_X12_park_L31, if_pos (by decide)]
end PPART

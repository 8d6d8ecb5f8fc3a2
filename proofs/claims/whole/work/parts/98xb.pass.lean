section PPASS
variable {n : Nat} {M X : JMem} {T : Nat → Int} {N s k : Nat} {w : List Nat} {v : Int}
/-! what must stand there: both pass it, or both tell a fault -/
def Go (T : Nat → Int) (N : Nat) (M X : JMem) (s : Nat) (f g : Option (Int × JMem)) (r : Int) (X2 : JMem) : Prop := ∃ (F' G' : Nat → Int) (s' k' : Nat) (w' : List Nat) (v' : Int), f = some (r, jrow M 9 F') ∧ g = some (1, jrow X2 167 G') ∧ TL T N F' G' s' k' w' v' ∧ s < s' ∧ Fr9 (M 9) F' ∧ FrX (X 167) G'
def No (M X : JMem) (f g : Option (Int × JMem)) (r : Int) : Prop := ∃ F' G' : Nat → Int, f = some (r, jrow M 9 F') ∧ g = some (0, jrow X 167 G') ∧ FLT F' G' ∧ Fr9 (M 9) F' ∧ FrX (X 167) G'
theorem inW_eq (h : TL T N (M 9) (X 167) s k w v) {c : Nat} (hc : c < 27) : (jw (if k = 1 then ((kp v.toNat : Nat) : Int) else -1) = jw ((kp c : Nat) : Int)) ↔ k = 1 ∧ v = (c : Int) := by
  have hp := (k_pq c hc).2.1
  by_cases k1 : k = 1
  · obtain ⟨c', e1, e2, e3, e4⟩ := h.k1 k1
    have hp' := (k_pq c' e1).2.1
    rw [if_pos k1, e3, show ((c' : Int)).toNat = c' from rfl, jwN (by omega), jwN (by omega)]
    constructor
    · intro z
      have z2 : kp c' = kp c := by omega
      have := (k_pq c' e1).1
      rw [z2, (k_pq c hc).1] at this
      exact ⟨k1, by rw [this]⟩
    · intro z
      have : c' = c := by omega
      rw [this]
  · rw [if_neg k1, jwm1, jwN (by omega)]
    exact ⟨fun z => by omega, fun z => absurd z.1 k1⟩
theorem fails_chk {why : Int} {X2 : JMem} (h : f_X12_fails n why X = some (0, X2)) : (bnd (f_X12_fails n why X) fun r5 M6 => chk (jw r5 = 0 ∨ jw r5 = 1) (some (r5, M6))) = some (0, X2) := by
  rw [h, bnd_some, chk_pos (by decide)]
theorem s_word (hn : 2000 ≤ n) (hS : TXT T N M X) (h : TL T N (M 9) (X 167) s k w v) {c : Nat} (hc : c < 27) : Go T N M X s (f_X6_passWord n (c : Int) M) (f_X12_wantWord n ((kp c : Nat) : Int) X) 0 X ∨ No M X (f_X6_passWord n (c : Int) M) (f_X12_wantWord n ((kp c : Nat) : Int) X) 0 := by
  have hi := q_inWords (n := n) hn hS h
  by_cases c1 : k = 1 ∧ v = (c : Int)
  · obtain ⟨F', G', s', k', w', v', a1, a2, a3, a4, a5, a6, a7⟩ := s_adv (n := n) hn hS h (by omega)
    refine Or.inl ⟨F', G', s', k', w', v', ?_, ?_, a3, a5 (by omega), a6, a7⟩
    · unfold f_X6_passWord
      rw [c_isAt h hc, bnd_some, if_pos c1, if_neg (by decide), a1, bnd_some]
    · unfold f_X12_wantWord
      rw [hi, bnd_some, if_pos ((inW_eq h hc).2 c1), a2, bnd_some]
  · obtain ⟨F', G', a1, a2, a3, a4, a5, -⟩ := s_fail (n := n) h (why := 2) (by omega)
    refine Or.inr ⟨F', G', ?_, ?_, a3, a4, a5⟩
    · unfold f_X6_passWord
      rw [c_isAt h hc, bnd_some, if_neg c1, if_pos (by decide), a1, bnd_some]
    · unfold f_X12_wantWord
      rw [hi, bnd_some, if_neg (fun z => c1 ((inW_eq h hc).1 z)), fails_chk a2]
theorem s_sign (hn : 2000 ≤ n) (hS : TXT T N M X) (h : TL T N (M 9) (X 167) s k w v) : Go T N M X s (f_X6_passSign n 59 M) (f_X12_wantSign n 59 X) 0 X ∨ No M X (f_X6_passSign n 59 M) (f_X12_wantSign n 59 X) 0 := by
  have hi := q_isSign (n := n) h (c := 59) (by omega)
  have ec : f_X6_passSign n 59 M = if k = 5 ∧ v = 59 then bnd (f_X6_advance n M) fun _ M2 => some (0, M2) else bnd (f_X6_fail n 2 M) fun _ M2 => some (0, M2) := by
    unfold f_X6_passSign f_X6_passSign_L23
    by_cases k5 : k = 5
    · have hv := h.num (Or.inr k5)
      rw [if_pos (show jw (M 9 4) = jw 5 from (c_kind h (c := 5) (by omega)).2 k5), hv.1]
      by_cases e : v = 59
      · rw [if_pos (by rw [e]), if_pos ⟨k5, e⟩]
      · rw [if_neg (by rw [jw_of (x := v) (by omega) (by omega), show jw 59 = 59 by decide]; exact e), if_neg (fun z => e z.2)]
    · rw [if_neg (show ¬ jw (M 9 4) = jw 5 from fun q => k5 ((c_kind h (c := 5) (by omega)).1 q)), if_neg (fun q => k5 q.1)]
  by_cases c1 : k = 5 ∧ v = 59
  · obtain ⟨F', G', s', k', w', v', a1, a2, a3, a4, a5, a6, a7⟩ := s_adv (n := n) hn hS h (by omega)
    refine Or.inl ⟨F', G', s', k', w', v', ?_, ?_, a3, a5 (by omega), a6, a7⟩
    · rw [ec, if_pos c1, a1, bnd_some]
    · unfold f_X12_wantSign
      rw [hi, bnd_some, if_pos c1, if_neg (by decide), a2, bnd_some]
  · obtain ⟨F', G', a1, a2, a3, a4, a5, -⟩ := s_fail (n := n) h (why := 2) (by omega)
    refine Or.inr ⟨F', G', ?_, ?_, a3, a4, a5⟩
    · rw [ec, if_neg c1, a1, bnd_some]
    · unfold f_X12_wantSign
      rw [hi, bnd_some, if_neg c1, if_pos (by decide), fails_chk a2]
theorem s_number (hn : 2000 ≤ n) (hS : TXT T N M X) (h : TL T N (M 9) (X 167) s k w v) {to : Nat} {lo hi : Int} (ht : to < 3160) (hlo : 0 ≤ lo ∧ lo ≤ 1) (hhi : 1 ≤ hi ∧ hi ≤ 99) :
    (∃ x : Int, lo ≤ x ∧ x ≤ hi ∧ Go T N M X s (f_X6_passNumber n lo hi M) (f_X12_number n (to : Int) lo hi X) x (jup X 168 to x)) ∨ No M X (f_X6_passNumber n lo hi M) (f_X12_number n (to : Int) lo hi X) (-1) := by
  have htk := h.tok
  have jlo : jw lo = lo := jw_of (by omega) (by omega)
  have jhi : jw hi = hi := jw_of (by omega) (by omega)
  by_cases k4 : k = 4
  · have hv := h.num (Or.inl k4)
    have t3 : X 167 12 = 3 := by rw [htk, if_neg (by omega), if_neg (by omega), if_neg (by omega), if_pos k4]
    have jv : jw v = v := jw_of (by omega) (by omega)
    by_cases c1 : lo ≤ v ∧ v ≤ hi
    · obtain ⟨F', G', s', k', w', v', a1, a2, a3, a4, a5, a6, a7⟩ := s_adv (n := n) (X := jup X 168 to v) hn (hS.mv rfl rfl (by rw [jup_cell (by omega)])) (by rw [jup_cell (by omega)]; exact h) (by omega)
      rw [jup_cell (by omega)] at a7
      refine Or.inl ⟨v, c1.1, c1.2, F', G', s', k', w', v', ?_, ?_, a3, a5 (by omega), a6, a7⟩
      · unfold f_X6_passNumber
        rw [if_pos (show jw (M 9 4) = jw 4 from (c_kind h (c := 4) (by omega)).2 k4), letv_ap, hv.1, jv, jlo, jhi, if_neg (by omega), if_pos (by omega), a1, bnd_some]
      · unfold f_X12_number
        rw [t3, if_pos rfl, hv.2.1, jv, jlo, jhi, if_neg (by omega), if_pos (by omega), chk_pos (jinN ht (by omega)), jwT (by omega), letm_ap, a2, bnd_some]
    · obtain ⟨F', G', a1, a2, a3, a4, a5, -⟩ := s_fail (n := n) h (why := 4) (by omega)
      refine Or.inr ⟨F', G', ?_, ?_, a3, a4, a5⟩
      · unfold f_X6_passNumber f_X6_passNumber_L30
        rw [if_pos (show jw (M 9 4) = jw 4 from (c_kind h (c := 4) (by omega)).2 k4), letv_ap, hv.1, jv, jlo, jhi, a1, bnd_some]
        by_cases c2 : v < lo
        · rw [if_pos c2]
        · rw [if_neg c2, if_neg (by omega)]
      · unfold f_X12_number f_X12_number_L30
        rw [t3, if_pos rfl, hv.2.1, jv, jlo, jhi, fails_chk a2]
        by_cases c2 : v < lo
        · rw [if_pos c2]
        · rw [if_neg c2, if_neg (by omega)]
  · obtain ⟨F', G', a1, a2, a3, a4, a5, -⟩ := s_fail (n := n) h (why := 2) (by omega)
    have t3 : ¬ jw (X 167 12) = jw 3 := by
      have h9 := h.2.2.2.2.2.2.2.2.1
      rw [htk]
      by_cases z0 : k = 0
      · rw [if_pos z0]; decide
      · by_cases z6 : k = 6
        · rw [if_neg z0, if_pos z6]; decide
        · by_cases z3 : k ≤ 3
          · rw [if_neg z0, if_neg z6, if_pos z3]; decide
          · rw [if_neg z0, if_neg z6, if_neg z3, if_neg k4]; decide
    refine Or.inr ⟨F', G', ?_, ?_, a3, a4, a5⟩
    · unfold f_X6_passNumber
      rw [if_neg (show ¬ jw (M 9 4) = jw 4 from fun q => k4 ((c_kind h (c := 4) (by omega)).1 q)), a1, bnd_some]
    · unfold f_X12_number
      rw [if_neg t3, fails_chk a2]
/-- a word that may stand there -/
theorem s_there (hn : 2000 ≤ n) (hS : TXT T N M X) (h : TL T N (M 9) (X 167) s k w v) {c : Nat} (hc : c < 27) : (∃ (F' G' : Nat → Int) (s' k' : Nat) (w' : List Nat) (v' : Int), f_X6_isAt n (c : Int) M = some (1, M) ∧ f_X6_advance n M = some (0, jrow M 9 F') ∧ f_X12_isThere n ((kp c : Nat) : Int) X = some (1, jrow X 167 G') ∧ TL T N F' G' s' k' w' v' ∧ s < s' ∧ Fr9 (M 9) F' ∧ FrX (X 167) G') ∨
    (f_X6_isAt n (c : Int) M = some (0, M) ∧ f_X12_isThere n ((kp c : Nat) : Int) X = some (0, X)) := by
  have hi := q_inWords (n := n) hn hS h
  by_cases c1 : k = 1 ∧ v = (c : Int)
  · obtain ⟨F', G', s', k', w', v', a1, a2, a3, a4, a5, a6, a7⟩ := s_adv (n := n) hn hS h (by omega)
    refine Or.inl ⟨F', G', s', k', w', v', by rw [c_isAt h hc, if_pos c1], a1, ?_, a3, a5 (by omega), a6, a7⟩
    unfold f_X12_isThere
    rw [hi, bnd_some, if_pos ((inW_eq h hc).2 c1), a2, bnd_some]
  · refine Or.inr ⟨by rw [c_isAt h hc, if_neg c1], ?_⟩
    unfold f_X12_isThere
    rw [hi, bnd_some, if_neg (fun z => c1 ((inW_eq h hc).1 z))]
theorem row_up {a b q : Nat} {f g : Nat → Int} {x : Int} (hab : b ≠ a) : jrow (jup (jrow X a f) b q x) a g = jrow (jup X b q x) a g := by
  funext c j
  rw [jrow_at, jrow_at]
  by_cases e : c = a
  · rw [if_pos e, if_pos e]
  · rw [if_neg e, if_neg e, jup_at, jup_at, jrow_at, if_neg e]
theorem s_optional (hn : 2000 ≤ n) (hS : TXT T N M X) (h : TL T N (M 9) (X 167) s k w v) {c to : Nat} {lo hi d : Int} (hc : c < 27) (ht : to < 3160) (hlo : 0 ≤ lo ∧ lo ≤ 1) (hhi : 1 ≤ hi ∧ hi ≤ 99) :
    (f_X2_optional n (c : Int) lo hi d M = some (d, M) ∧ f_X12_isThere n ((kp c : Nat) : Int) X = some (0, X)) ∨
    (∃ (x : Int) (G1 : Nat → Int), lo ≤ x ∧ x ≤ hi ∧ f_X12_isThere n ((kp c : Nat) : Int) X = some (1, jrow X 167 G1) ∧ Go T N M X s (f_X2_optional n (c : Int) lo hi d M) (f_X12_number n (to : Int) lo hi (jrow X 167 G1)) x (jup X 168 to x)) ∨
    (∃ G1 : Nat → Int, f_X12_isThere n ((kp c : Nat) : Int) X = some (1, jrow X 167 G1) ∧ No M X (f_X2_optional n (c : Int) lo hi d M) (f_X12_number n (to : Int) lo hi (jrow X 167 G1)) (-1)) := by
  rcases s_there (n := n) hn hS h hc with ⟨F', G', s', k', w', v', a1, a2, a3, a4, a5, a6, a7⟩ | ⟨a1, a2⟩
  · have hS' : TXT T N (jrow M 9 F') (jrow X 167 G') := hS.mv (jrow_ne _ (by omega)) (jrow_ne _ (by omega)) (jrow_ne _ (by omega))
    have h' : TL T N (jrow M 9 F' 9) (jrow X 167 G' 167) s' k' w' v' := by rw [jrow_same, jrow_same]; exact a4
    rcases s_number (n := n) (to := to) (lo := lo) (hi := hi) hn hS' h' ht hlo hhi with ⟨x, x1, x2, F2, G2, s2, k2, w2, v2, b1, b2, b3, b4, b5, b6⟩ | ⟨F2, G2, b1, b2, b3, b4, b5⟩
    · rw [jrow_same] at b5 b6
      refine Or.inr (Or.inl ⟨x, G', x1, x2, a3, F2, G2, s2, k2, w2, v2, ?_, ?_, b3, by omega, a6.trans b5, a7.trans b6⟩)
      · unfold f_X2_optional
        rw [a1, bnd_some, if_neg (by decide), a2, bnd_some, b1, bnd_some, jrow_jrow]
      · rw [b2, row_up (by omega)]
    · rw [jrow_same] at b4 b5
      refine Or.inr (Or.inr ⟨G', a3, F2, G2, ?_, ?_, b3, a6.trans b4, a7.trans b5⟩)
      · unfold f_X2_optional
        rw [a1, bnd_some, if_neg (by decide), a2, bnd_some, b1, bnd_some, jrow_jrow]
      · rw [b2, jrow_jrow]
  · refine Or.inl ⟨?_, a2⟩
    unfold f_X2_optional
    rw [a1, bnd_some, if_pos (by decide)]
end PPASS

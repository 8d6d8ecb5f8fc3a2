section PWEEKS
variable {n : Nat} {M X M0 X0 : JMem} {T : Nat → Int} {N s s0 k r dp st : Nat} {w : List Nat} {v : Int} {a : Nat → Int}
theorem ws_step (hn : 2000 ≤ n) (h : WT T N M0 X0 M X s k w v a) (hq : WQ (a 2) (a 1) (a 0) M X r dp st) : WO T N M0 X0 s a (wsf n M) (f_X12_weekStep n X) := by
  have hi := q_inWords (n := n) hn h.1 h.2.1
  by_cases k1 : k = 1
  · obtain ⟨c, c27, e1, e2, e3⟩ := h.2.1.k1 k1
    rw [if_pos k1, e2, show ((c : Int)).toNat = c from rfl] at hi
    rw [q_ws hi hq.1.2.2.1]
    unfold wsf
    by_cases c25 : c = 25
    · rw [show f_X6_isAt n 25 M = _ from c_isAt h.2.1 (c := 25) (by omega), if_pos ⟨k1, by rw [e2, c25]⟩, bnd_some, if_neg (show ¬ jw 1 = 0 by decide), c25, show ((kp 25 : Nat) : Int) = 22 from rfl, if_neg (show ¬ (jw 22 = 20 ∨ jw 22 = 21) by decide)]
      exact ws_close hn h hq k1
    · rw [show f_X6_isAt n 25 M = _ from c_isAt h.2.1 (c := 25) (by omega), if_neg (fun z => c25 (by have := z.2; omega)), bnd_some, if_pos (show jw 0 = 0 by decide)]
      by_cases hs : stepc c
      · exact ws_go hn h hq k1 c27 hs e3
      · have hw : f_X6_wordAt n M = some ((c : Int), M) := by
          unfold f_X6_wordAt
          rw [if_pos (show jw (M 9 4) = jw 1 from (c_kind h.2.1 (c := 1) (by omega)).2 k1), e3]
        refine wo_bad (n := n) (why := 2) h hq.r60 (by omega) (ts_no hw (mb_no ((c_isStep c27).2 hs))) (fun X2 hX2 => ?_)
        have tab : ∀ c : Nat, c < 27 → c ≠ 25 → ¬ stepc c → kp c < 14 ∨ 23 < kp c := by
          unfold stepc
          decide +kernel
        have hp := (k_pq c c27).2.1
        unfold f_X12_weekStep_L42 f_X12_weekStep_L69
        rw [letv_ap]
        rcases tab c c27 c25 hs with z | z
        · rw [if_pos (show jw ((kp c : Nat) : Int) < jw 14 by rw [jwN (by omega), show jw 14 = 14 by decide]; omega), fails_chk hX2]
        · rw [if_neg (show ¬ jw ((kp c : Nat) : Int) < jw 14 by rw [jwN (by omega), show jw 14 = 14 by decide]; omega), if_pos (show jw 23 < jw ((kp c : Nat) : Int) by rw [jwN (by omega), show jw 23 = 23 by decide]; omega), fails_chk hX2]
  · rw [if_neg k1] at hi
    have hw : f_X6_wordAt n M = some (-1, M) := by
      unfold f_X6_wordAt
      rw [if_neg (show ¬ jw (M 9 4) = jw 1 from fun z => k1 ((c_kind h.2.1 (c := 1) (by omega)).1 z))]
    rw [q_ws hi hq.1.2.2.1]
    unfold wsf
    rw [show f_X6_isAt n 25 M = _ from c_isAt h.2.1 (c := 25) (by omega), if_neg (fun z => k1 z.1), bnd_some, if_pos (show jw 0 = 0 by decide)]
    refine wo_bad (n := n) (why := 2) h hq.r60 (by omega) (ts_no hw (mb_no rfl)) (fun X2 hX2 => ?_)
    unfold f_X12_weekStep_L42 f_X12_weekStep_L69
    rw [letv_ap, if_pos (show jw (-1) < jw 14 by decide), fails_chk hX2]
theorem ca_step {q : Nat} {v1 v2 : Int} (h1 : ¬ jw v1 < jw v2) (h2 : jw (M 9 2) = 0) (h3 : ¬ jw (M 9 4) = 0) (hi : ∃ x : Int, f_X6_isAt n 25 M = some (x, M)) : f_X10_takesAll_L30 n 40 (q + 1) v1 v2 M = bnd (wsf n M) fun _ M2 => f_X10_takesAll_L30 n 40 q v1 (v2 + 1) M2 := by
  obtain ⟨x, hx⟩ := hi
  have e : ∀ (o : Option (Int × JMem)), (bnd o fun _ M4 => f_X10_takesAll_L79 n 40 (f_X10_takesAll_L30 n 40 q) v1 v2 M4) = bnd (bnd o fun _ M' => f_X6_passSign n 59 M') fun _ M2 => f_X10_takesAll_L30 n 40 q v1 (v2 + 1) M2 := fun o => by
    rw [bnd_bnd]
    rfl
  unfold wsf
  rw [f_X10_takesAll_L30, if_neg h1, if_pos h2, if_neg h3, hx, bnd_some, bnd_some]
  by_cases z : jw x = 0
  · rw [if_pos z, if_pos z, e]
  · rw [if_neg z, if_neg z, e]
/-- all steps -/
theorem weeks_loop (hn : 2000 ≤ n) : ∀ (d i q q' : Nat) (M X : JMem) (s k : Nat) (w : List Nat) (v : Int) (r dp st : Nat), N - s ≤ d → d + 2 ≤ q → d + 3 ≤ q' → i ≤ s → WT T N M0 X0 M X s k w v a → WQ (a 2) (a 1) (a 0) M X r dp st →
    (∃ (M' X' : JMem) (s' : Nat) (w' : List Nat) (v' : Int) (r' dp' st' : Nat), f_X10_takesAll_L30 n 40 q (N : Int) (i : Int) M = f_X10_takesAll_L94 n 40 M' ∧ f_X12_weeks_L38 n q' 1 X = f_X12_weeks_L57 n X' ∧ WT T N M0 X0 M' X' s' 0 w' v' a ∧ WQ (a 2) (a 1) (a 0) M' X' r' dp' st') ∨
    (∃ M' X' : JMem, f_X10_takesAll_L30 n 40 q (N : Int) (i : Int) M = f_X10_takesAll_L94 n 40 M' ∧ f_X12_weeks_L38 n q' 1 X = f_X12_weeks_L57 n X' ∧ FJw M0 X0 M' X') := by
  intro d
  induction d with
  | zero =>
    intro i q q' M X s k w v r dp st hd hq hq' his h hQ
    obtain ⟨q, rfl⟩ : ∃ z, q = z + 1 := ⟨q - 1, by omega⟩
    obtain ⟨q', rfl⟩ : ∃ z, q' = z + 1 := ⟨q' - 1, by omega⟩
    have h900 := h.1.1.1
    have hsN := h.2.1.2.2.2.2.2.1
    have k0 : k = 0 := by
      by_cases z : k = 0
      · exact z
      · have := h.2.1.2.2.2.2.2.2.2.2.2.1 z
        omega
    subst k0
    have ht := h.2.1.tok
    have hF := (h.2.1.2.2.2.2.2.2.2.2.2.2.2 (by omega)).1
    refine Or.inl ⟨M, X, s, w, v, r, dp, st, ?_, ?_, h, hQ⟩
    · rw [f_X10_takesAll_L30, if_neg (by rw [jwN (by omega), jwN (by omega)]; omega), hF, if_pos (by decide), h.2.1.2.2.1, if_pos (by decide)]
    · rw [f_X12_weeks_L38, if_neg (by decide), ht, if_pos rfl, if_pos (by decide)]
  | succ d ih =>
    intro i q q' M X s k w v r dp st hd hq hq' his h hQ
    obtain ⟨q, rfl⟩ : ∃ z, q = z + 1 := ⟨q - 1, by omega⟩
    obtain ⟨q', rfl⟩ : ∃ z, q' = z + 1 := ⟨q' - 1, by omega⟩
    have h900 := h.1.1.1
    have hsN := h.2.1.2.2.2.2.2.1
    have hk6 := h.2.1.2.2.2.2.2.2.2.2.1
    have ht := h.2.1.tok
    have hle : ¬ jw (N : Int) < jw (i : Int) := by rw [jwN (by omega), jwN (by omega)]; omega
    by_cases k0 : k = 0
    · subst k0
      have hF := (h.2.1.2.2.2.2.2.2.2.2.2.2.2 (by omega)).1
      refine Or.inl ⟨M, X, s, w, v, r, dp, st, ?_, ?_, h, hQ⟩
      · rw [f_X10_takesAll_L30, if_neg hle, hF, if_pos (by decide), h.2.1.2.2.1, if_pos (by decide)]
      · rw [f_X12_weeks_L38, if_neg (by decide), ht, if_pos rfl, if_pos (by decide)]
    · have htn : ¬ jw (X 167 12) = 0 := by
        rw [ht, if_neg k0]
        split
        · decide
        · split
          · decide
          · split <;> decide
      by_cases k6 : k = 6
      · obtain ⟨q', rfl⟩ : ∃ z, q' = z + 1 := ⟨q' - 1, by omega⟩
        obtain ⟨F', G', c1, c2, c3, c4, c5, c6⟩ := s_fail (n := n) h.2.1 (why := 2) (by omega)
        have hj := h.2.1.jk k6
        have hf := h.fl hQ.r60 c3 c4 c5
        rw [c6 k6, jrow_self] at hf
        have hi := q_inWords (n := n) hn h.1 h.2.1
        rw [if_neg (show ¬ k = 1 by omega)] at hi
        refine Or.inr ⟨M, jrow X 167 G', ?_, ?_, hf⟩
        · rw [f_X10_takesAll_L30, if_neg hle, if_neg (j12 _ hj.1 hj.2.1)]
        · have ep : f_X12_weekStep n X = some (0, jrow X 167 G') := by
            rw [q_ws hi hQ.1.2.2.1]
            unfold f_X12_weekStep_L42 f_X12_weekStep_L69
            rw [letv_ap, if_pos (show jw (-1) < jw 14 by decide), fails_chk c2]
          rw [f_X12_weeks_L38, if_neg (by decide), if_neg htn, ep, bnd_some, letv_ap, f_X12_weeks_L38, if_pos (by decide)]
      · have hF := (h.2.1.2.2.2.2.2.2.2.2.2.2.2 k6).1
        have hcs := ca_step (n := n) (M := M) (q := q) hle (by rw [hF]; decide) (by rw [h.2.1.2.2.1, jwN (by omega)]; omega) ⟨_, c_isAt h.2.1 (c := 25) (by omega)⟩
        rw [hcs, f_X12_weeks_L38, if_neg (by decide), if_neg htn]
        rcases ws_step hn h hQ with ⟨M1, X1, s1, k1, w1, v1, r1, d1, t1, e1, e2, h1, hQ1, h2⟩ | ⟨M1, X1, e1, e2, h1⟩
        · rw [e1, bnd_some, e2, bnd_some, letv_ap, show (i : Int) + 1 = ((i + 1 : Nat) : Int) by omega]
          exact ih (i + 1) q q' M1 X1 s1 k1 w1 v1 r1 d1 t1 (by omega) (by omega) (by omega) (by omega) h1 hQ1
        · rw [e1, bnd_some, e2, bnd_some, letv_ap]
          obtain ⟨q, rfl⟩ : ∃ z, q = z + 1 := ⟨q - 1, by omega⟩
          obtain ⟨q', rfl⟩ : ∃ z, q' = z + 1 := ⟨q' - 1, by omega⟩
          refine Or.inr ⟨M1, X1, ?_, ?_, h1⟩
          · rw [f_X10_takesAll_L30, if_neg (j12 _ h1.1.jk.1 h1.1.jk.2.1)]
            split <;> rfl
          · rw [f_X12_weeks_L38, if_pos (by decide)]
theorem weeks_core (hn : 2000 ≤ n) {f1 : Int} (hN : (N : Int) ≤ f1) (h1 : 0 ≤ f1 ∧ f1 ≤ 900) (h300 : N ≤ 300) (hT : ∀ k : Nat, k < N → -128 ≤ M 10 k ∧ M 10 k < 128) (hX : ∀ k : Nat, k < N → X 173 k = M 10 k) (hK : ∀ k : Nat, k < 27 → M 11 k = jM0 11 k) (h10 : X 167 10 = f1) (ha : am a) (hR : RKn (blk M 40 12) (fun j => X 169 (0 + j)) a) (h3 : ∀ u : Nat, u < 3 → X 168 u = a u) :
    ∃ M' X' : JMem, f_X12_weeks n (N : Int) X = f_X12_weeks_L77 n X' ∧ (∀ c : Nat, c ≠ 9 → c < 33 ∨ 40 ≤ c → M' c = M c) ∧ (∀ c : Nat, c ≠ 167 → c ≠ 168 → c ≠ 174 → c ≠ 175 → X' c = X c) ∧ (∀ j : Nat, j < 10 ∨ 24 ≤ j → X' 167 j = X 167 j) ∧ X' 167 10 = 0 ∧ (∀ i : Nat, i < 2016 → X' 168 i = X 168 i) ∧
      ((f_X10_takesAll n (N : Int) 40 M = some (1, M') ∧ M' 9 2 = 0 ∧ M' 9 3 = -1 ∧ X' 167 18 = 0 ∧ X' 167 17 = -1 ∧ ∃ r st : Nat, WQ (a 2) (a 1) (a 0) M' X' r 0 st) ∨
       (f_X10_takesAll n (N : Int) 40 M = some (0, M') ∧ FLT (M' 9) (X' 167))) := by
  obtain ⟨F', X1, s, k, w, v, b1, b2, b3, b4, b5, b6, b7⟩ := both_begin (n := n) (M := M) (X := X) hn hN h1 (most := 300) (by omega) (by omega) hT hX hK h10
  have mc : ∀ c : Nat, c ≠ 9 → c < 33 ∨ 40 ≤ c → jup (jup (jup (jup (jup (jrow M 9 F') 34 0 0) 34 1 0) 34 2 0) 34 0 1) 33 3 0 c = M c := fun c h9 hc => by
    rw [jup_cell (by omega), jup_cell (by omega), jup_cell (by omega), jup_cell (by omega), jup_cell (by omega), jrow_ne _ h9]
  have m9 : jup (jup (jup (jup (jup (jrow M 9 F') 34 0 0) 34 1 0) 34 2 0) 34 0 1) 33 3 0 9 = F' := by
    rw [jup_cell (by omega), jup_cell (by omega), jup_cell (by omega), jup_cell (by omega), jup_cell (by omega), jrow_same]
  have m34 : ∀ j : Nat, jup (jup (jup (jup (jup (jrow M 9 F') 34 0 0) 34 1 0) 34 2 0) 34 0 1) 33 3 0 34 j = if j = 0 then 1 else if j = 2 then 0 else if j = 1 then 0 else M 34 j := fun j => by
    rw [jup_cell (by omega), jup_if, jup_if, jup_if, jup_if, jrow_ne _ (by omega)]
    by_cases e : j = 0
    · rw [if_pos e, if_pos e]
    · rw [if_neg e, if_neg e, if_neg e]
  have m33 : jup (jup (jup (jup (jup (jrow M 9 F') 34 0 0) 34 1 0) 34 2 0) 34 0 1) 33 3 0 33 3 = 0 := by rw [jup_if, if_pos rfl]
  have eC : f_X10_takesAll n (N : Int) 40 M = f_X10_takesAll_L30 n 40 n (N : Int) ((0 : Nat) : Int) (jup (jup (jup (jup (jup (jrow M 9 F') 34 0 0) 34 1 0) 34 2 0) 34 0 1) 33 3 0) := by
    unfold f_X10_takesAll f_X9_forget
    rw [b1, bnd_some, chk_pos (by decide), letm_ap, letm_ap, letm_ap, bnd_some, chk_pos (by decide), letm_ap, letm_ap, letv_ap]
    rfl
  have eR : f_X12_weeks n (N : Int) X = f_X12_weeks_L38 n n 1 (jup (jup (jup X1 168 2023 0) 167 22 0) 167 23 0) := by
    unfold f_X12_weeks
    rw [b2, bnd_some, if_neg (by decide), chk_pos (by decide), show (jw 2023).toNat = 2023 by decide, letm_ap, letm_ap, letm_ap, letv_ap]
  have xc : ∀ c : Nat, c ≠ 167 → c ≠ 168 → jup (jup (jup X1 168 2023 0) 167 22 0) 167 23 0 c = X1 c := fun c h1 h2 => by rw [jup_cell h1, jup_cell h1, jup_cell h2]
  have x67 : ∀ j : Nat, jup (jup (jup X1 168 2023 0) 167 22 0) 167 23 0 167 j = if j = 23 then 0 else if j = 22 then 0 else X1 167 j := fun j => by rw [jup_if, jup_if, jup_cell (by omega)]
  have x68 : ∀ i : Nat, jup (jup (jup X1 168 2023 0) 167 22 0) 167 23 0 168 i = if i = 2023 then 0 else X1 168 i := fun i => by rw [jup_cell (by omega), jup_cell (by omega), jup_if]
  generalize jup (jup (jup (jup (jup (jrow M 9 F') 34 0 0) 34 1 0) 34 2 0) 34 0 1) 33 3 0 = Mi at mc m9 m34 m33 eC
  generalize jup (jup (jup X1 168 2023 0) 167 22 0) 167 23 0 = Xi at xc x67 x68 eR
  have hWT : WT (M 10) N Mi Xi Mi Xi s k w v a := by
    refine ⟨b3.mv (by rw [mc 10 (by omega) (by omega), jrow_ne _ (by omega)]) (by rw [mc 11 (by omega) (by omega), jrow_ne _ (by omega)]) (xc 174 (by omega) (by omega)), ?_, ⟨fun _ _ _ => rfl, Fr9.refl _⟩, ⟨fun _ _ _ _ => rfl, fun _ _ => rfl, fun _ _ => rfl⟩, ha, ?_, fun u hu => by rw [x68 u, if_neg (by omega), b5 168 (by omega) (by omega)]; exact h3 u hu⟩
    · rw [m9]
      exact b4.congr (fun _ _ _ => rfl) (fun j j1 j2 => by rw [x67 j, if_neg (by omega), if_neg (by omega)])
    · rw [blk_congr (by decide) (M := M) (a := 40) (z := 12) (fun j hj => mc _ (by omega) (by omega)), xc 169 (by omega) (by omega), b5 169 (by omega) (by omega)]
      exact hR
  have hWQ : WQ (a 2) (a 1) (a 0) Mi Xi 0 0 0 := ⟨⟨by rw [m34, if_pos rfl], by rw [m34, if_neg (by omega), if_pos rfl]; rfl, by rw [x68, if_pos rfl]; rfl, by rw [m34, if_neg (by omega), if_neg (by omega), if_pos rfl]; rfl, by rw [x67, if_pos rfl]; rfl, by rw [m33]; rfl, by rw [x67, if_neg (by omega), if_pos rfl]; rfl⟩, ⟨by omega, by omega, by omega⟩, fun k hk => by omega, fun i hi => by omega, SQ.zero⟩
  have fM : ∀ (M' : JMem), FMw Mi M' → ∀ c : Nat, c ≠ 9 → c < 33 ∨ 40 ≤ c → M' c = M c := fun M' hM' c c1 c2 => by rw [hM'.1 c c1 c2, mc c c1 c2]
  have fX1 : ∀ X' : JMem, FXw Xi X' → (∀ c : Nat, c ≠ 167 → c ≠ 168 → c ≠ 174 → c ≠ 175 → X' c = X c) := fun X' hX' c c1 c2 c3 c4 => by rw [hX'.1 c c1 c2 c4, xc c c1 c2, b5 c c1 c3]
  have fX2 : ∀ X' : JMem, FXw Xi X' → (∀ j : Nat, j < 10 ∨ 24 ≤ j → X' 167 j = X 167 j) := fun X' hX' j hj => by rw [hX'.2.1 j (by omega), x67 j, if_neg (by omega), if_neg (by omega), b6 j (by omega)]
  have fX3 : ∀ X' : JMem, FXw Xi X' → X' 167 10 = 0 := fun X' hX' => by rw [hX'.2.1 10 (by omega), x67, if_neg (by omega), if_neg (by omega), b7]
  have fX4 : ∀ X' : JMem, FXw Xi X' → ∀ i : Nat, i < 2016 → X' 168 i = X 168 i := fun X' hX' i hi => by rw [hX'.2.2 i hi, x68 i, if_neg (by omega), b5 168 (by omega) (by omega)]
  have hsN := hWT.2.1.2.2.2.2.2.1
  -- a fault it is
  have fault : ∀ M' X' : JMem, FJw Mi Xi M' X' → f_X10_takesAll_L94 n 40 M' = some (0, M') ∧ f_X12_weeks_L57 n X' = f_X12_weeks_L77 n X' := fun M' X' hf => by
    have hj := hf.1.jk
    have x18 : 1 ≤ X' 167 18 ∧ X' 167 18 ≤ 9 := by have := hf.1; unfold FLT at this; omega
    unfold f_X10_takesAll_L94 f_X12_weeks_L57 f_X10_takesAll_L109
    rw [j_fail hj, bnd_some, if_neg (j12 _ hj.1 hj.2.1), if_neg (j12 _ x18.1 x18.2)]
    exact ⟨ite_self _, rfl⟩
  rw [eC, eR]
  rcases weeks_loop (n := n) hn N 0 n n Mi Xi s k w v 0 0 0 (by omega) (by have := b3.1.1; omega) (by have := b3.1.1; omega) (by omega) hWT hWQ with ⟨M', X', s', w', v', r', d', st', e1, e2, hW, hQ⟩ | ⟨M', X', e1, e2, hf⟩
  · have hF := (hW.2.1.2.2.2.2.2.2.2.2.2.2.2 (by omega))
    have x18 : X' 167 18 = 0 := hW.2.1.2.2.2.2.2.2.1
    have x17 : X' 167 17 = -1 := hW.2.1.2.2.2.2.2.2.2.1
    have q6 := hQ.1.2.2.2.2.2.1
    have q7 := hQ.1.2.2.2.2.2.2
    by_cases d0 : d' = 0
    · subst d0
      refine ⟨M', X', ?_, fM M' hW.2.2.1, fX1 X' hW.2.2.2.1, fX2 X' hW.2.2.2.1, fX3 X' hW.2.2.2.1, fX4 X' hW.2.2.2.1, Or.inl ⟨?_, hF.1, hF.2.1, x18, x17, r', st', hQ⟩⟩
      · rw [e2]
        unfold f_X12_weeks_L57
        rw [x18, if_pos (by decide), q7, if_pos (by decide)]
      · rw [e1]
        unfold f_X10_takesAll_L94 f_X10_takesAll_L109
        rw [q6, if_pos (by decide), hF.1, if_pos (by decide)]
    · obtain ⟨F2, G2, c1, c2, c3, c4, c5, -⟩ := s_fail (n := n) hW.2.1 (why := 2) (by omega)
      have hf := hW.fl hQ.r60 c3 c4 c5
      have b := hQ.2.1.1
      refine ⟨jrow M' 9 F2, jrow X' 167 G2, ?_, fM _ hf.2.1, fX1 _ hf.2.2.1, fX2 _ hf.2.2.1, fX3 _ hf.2.2.1, fX4 _ hf.2.2.1, Or.inr ⟨?_, hf.1⟩⟩
      · rw [e2]
        unfold f_X12_weeks_L57
        rw [x18, if_pos (by decide), q7, if_neg (by rw [jwN (by omega)]; omega), c2, bnd_some]
      · rw [e1]
        unfold f_X10_takesAll_L94 f_X10_takesAll_L109
        rw [q6, if_neg (by rw [jwN (by omega)]; omega), c1, bnd_some, if_neg (j12 _ hf.1.jk.1 hf.1.jk.2.1)]
  · obtain ⟨g1, g2⟩ := fault M' X' hf
    exact ⟨M', X', by rw [e2, g2], fM _ hf.2.1, fX1 _ hf.2.2.1, fX2 _ hf.2.2.1, fX3 _ hf.2.2.1, fX4 _ hf.2.2.1, Or.inr ⟨by rw [e1, g1], hf.1⟩⟩
end PWEEKS

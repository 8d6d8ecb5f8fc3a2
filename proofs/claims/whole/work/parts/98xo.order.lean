section PORDER
variable {n : Nat} {M X M0 X0 : JMem} {T : Nat → Int} {N s s0 k r : Nat} {w : List Nat} {v : Int} {a : Nat → Int} {S : Int → Prop}
theorem RO.wrap {f g : Option (Int × JMem)} (h : RO S n T N M0 X0 M X s0 r a f g) : RO S n T N M0 X0 M X s0 r a (bnd f fun _ M => some (0, M)) (bnd g fun r M => chk (jw r = 0 ∨ jw r = 1) (some (r, M))) := by
  rcases h with ⟨F', w1, x, y, X1, s', k', w', v', e1, e2, h1⟩ | ⟨M', X', e1, e2, h1⟩
  · exact Or.inl ⟨F', w1, x, y, X1, s', k', w', v', by rw [e1, bnd_bnd]; rfl, by rw [e2, bnd_some, chk_pos (by decide)], h1⟩
  · exact Or.inr ⟨M', X', by rw [e1, bnd_some], by rw [e2, bnd_some, chk_pos (by decide)], h1⟩
theorem chk_inv {o : Option (Int × JMem)} {b : Int} {X' : JMem} (h : (bnd o fun r M => chk (jw r = 0 ∨ jw r = 1) (some (r, M))) = some (b, X')) : o = some (b, X') := by
  cases o with
  | none => cases h
  | some q =>
    obtain ⟨r, M⟩ := q
    rw [bnd_some] at h
    unfold chk at h
    by_cases c : jw r = 0 ∨ jw r = 1
    · rw [if_pos c] at h; exact h
    · rw [if_neg c] at h; cases h
/-- RO does not mind what the reference wrote into the row ahead -/
theorem RO.from {f g : Option (Int × JMem)} {X2 : JMem} {F : Nat → Int} (h : RO S n T N M0 X0 (jrow M 9 F) X2 s0 r a f g) (h1 : ∀ i : Nat, i < 2152 + 6 * r ∨ 2158 + 6 * r ≤ i ∨ i = 2156 + 6 * r → X2 168 i = X 168 i) (h2 : X2 175 = X 175) (h3 : X2 167 22 = X 167 22) (h4 : X2 167 23 = X 167 23) : RO S n T N M0 X0 M X s0 r a f g := by
  rcases h with ⟨F', w1, x, y, X1, s', k', w', v', e1, e2, e3, e4, e5, e6, e7, e8, e9⟩ | ⟨M', X', e1, e2, e3⟩
  · rw [jrow_jrow] at e1 e3
    exact Or.inl ⟨F', w1, x, y, X1, s', k', w', v', e1, e2, e3, e4, e5, fun i hi => (e6 i hi).trans (h1 i hi), e7.trans h2, e8.trans h3, e9.trans h4⟩
  · exact Or.inr ⟨M', X', e1, e2, e3⟩
theorem ro_clock (hn : 2000 ≤ n) (h : WT T N M0 X0 M X s k w v a) (hs : s0 < s) (hr : r < 60) (h34 : 0 ≤ M 34 2 ∧ M 34 2 ≤ 60) (hS : S 23) (h26 : X 168 (2152 + 6 * r) = 2026) : RO S n T N M0 X0 M X s0 r a (if jw (M 9 4) = jw 5 then (if jw (M 9 6) = jw 59 then (f_X10_takeTest_L98 n 40 (M 9 6) M) else (f_X10_takeTest_L106 n 40 (M 9 6) M)) else (f_X10_takeTest_L98 n 40 (M 9 6) M))
    (bnd (f_X12_isSign n 60 X) fun r7 M8 => if jw r7 = 0 then (bnd (f_X12_isSign n 62 M8) fun r9 M10 => if jw r9 = 0 then (bnd (f_X12_isSign n 61 M10) fun r11 M12 => if jw r11 = 0 then (bnd (f_X12_fails n 2 M12) fun r13 M14 => chk (jw r13 = 0 ∨ jw r13 = 1) (some (r13, M14))) else (f_X12_test_L120 n ((2152 + 6 * r : Nat) : Int) M12)) else (f_X12_test_L120 n ((2152 + 6 * r : Nat) : Int) M10)) else (f_X12_test_L120 n ((2152 + 6 * r : Nat) : Int) M8)) := by
  have e5' : ((2152 + 6 * r : Nat) : Int) + 5 = ((2157 + 6 * r : Nat) : Int) := by omega
  have e2' : ((2152 + 6 * r : Nat) : Int) + 2 = ((2154 + 6 * r : Nat) : Int) := by omega
  have bad : ∀ y : Int, RO S n T N M0 X0 M X s0 r a (f_X10_takeTest_L98 n 40 y M) (bnd (f_X12_fails n 2 X) fun r13 M14 => chk (jw r13 = 0 ∨ jw r13 = 1) (some (r13, M14))) := fun y => by
    obtain ⟨F', G', c1, c2, c3, c4, c5, -⟩ := s_fail (n := n) h.2.1 (why := 2) (by omega)
    have hf := h.fl h34 c3 c4 c5
    unfold f_X10_takeTest_L98 f_X10_takeTest_L106
    rw [c1, bnd_some, j_adv hf.1.jk, bnd_some, j_passNumber hf.1.jk, bnd_some, fails_chk c2]
    exact ro_no hf (j_add hf.jt) rfl
  have good : k = 5 → 60 ≤ v → v ≤ 62 → RO S n T N M0 X0 M X s0 r a (f_X10_takeTest_L106 n 40 v M) (f_X12_test_L120 n ((2152 + 6 * r : Nat) : Int) X) := fun k5 v0 v1 => by
    have hv := h.2.1.num (Or.inr k5)
    have h1 := h.up (q := 2157 + 6 * r) (x := v) (by omega)
    obtain ⟨F1, G1, s1, k1, w1, v1', b1, b2, b3, b4, b5, b6, b7⟩ := s_adv (n := n) hn h1.1 h1.2.1 (by omega)
    have h2 := h1.row b3 b6 b7
    unfold f_X10_takeTest_L106 f_X12_test_L120
    rw [b1, bnd_some, e5', chk_pos (jinN (by omega) (by omega)), jwT (a := 2157 + 6 * r) (by omega), letm_ap, hv.2.1, b2, bnd_some, e2']
    rcases s_number (n := n) (to := 2154 + 6 * r) (lo := 0) (hi := 64) hn h2.1 h2.2.1 (by omega) (by omega) (by omega) with ⟨x, x1, x2, F2, G2, s2, k2, w2, v2, c1, c2, c3, c4, c5, c6⟩ | ⟨F2, G2, c1, c2, c3, c4, c5⟩
    · rw [c1, bnd_some, c2, bnd_some, chk_pos (by decide)]
      have h3 := (h2.up (q := 2154 + 6 * r) (x := x) (by omega)).row c3 c5 (by rw [jup_cell (by omega)]; exact c6)
      refine Or.inl ⟨F2, 23, v, x, _, s2, k2, w2, v2, by rw [jrow_jrow], rfl, by rw [← jrow_jrow (M := M) 9 F1 F2]; exact h3, by omega, ?_, fun i hi => ?_, ?_, ?_, ?_⟩
      · refine ⟨hS, ?_⟩
        rw [jrow_ne _ (by omega), jup_if, if_neg (by omega), jrow_ne _ (by omega), jup_if, if_neg (by omega), jup_if, if_neg (by omega), jrow_ne _ (by omega), jup_if, if_neg (by omega), jup_if, if_pos rfl, jup_if, if_neg (by omega), jrow_ne _ (by omega), jup_if, if_pos rfl]
        unfold rowrel
        exact Or.inr (Or.inr (Or.inr (Or.inr (Or.inr (Or.inr (Or.inr (Or.inr (Or.inr (Or.inl ⟨rfl, h26, rfl, rfl, v0, v1, x1, x2⟩)))))))))
      · rw [jrow_ne _ (by omega), jup_if, if_neg (by omega), jrow_ne _ (by omega), jup_if, if_neg (by omega)]
      · rw [jrow_ne _ (by omega), jup_cell (by omega), jrow_ne _ (by omega), jup_cell (by omega)]
      · rw [jrow_same, c6 22 (by omega), jrow_same, b7 22 (by omega), jup_cell (by omega)]
      · rw [jrow_same, c6 23 (by omega), jrow_same, b7 23 (by omega), jup_cell (by omega)]
    · have hf := h2.fl (by rw [jrow_ne _ (by omega)]; exact h34) c3 c4 c5
      rw [c1, bnd_some, c2, bnd_some, chk_pos (by decide)]
      exact ro_no hf (j_add hf.jt) rfl
  rw [q_isSign h.2.1 (c := 60) (by omega), bnd_some]
  by_cases k5 : k = 5
  · have hv := h.2.1.num (Or.inr k5)
    have hv5 := hv.2.2.2.2 k5
    rw [if_pos (show jw (M 9 4) = jw 5 from (c_kind h.2.1 (c := 5) (by omega)).2 k5), hv.1]
    by_cases v59 : v = 59
    · rw [if_pos (by rw [v59]), if_neg (show ¬ (k = 5 ∧ v = 60) by omega), if_pos (by decide), q_isSign h.2.1 (c := 62) (by omega), bnd_some, if_neg (show ¬ (k = 5 ∧ v = 62) by omega), if_pos (by decide), q_isSign h.2.1 (c := 61) (by omega), bnd_some, if_neg (show ¬ (k = 5 ∧ v = 61) by omega), if_pos (by decide)]
      exact bad v
    · rw [if_neg (by rw [jw_of (x := v) (by omega) (by omega), show jw 59 = 59 by decide]; exact v59)]
      by_cases v60 : v = 60
      · rw [if_pos (show k = 5 ∧ v = 60 by omega), if_neg (by decide)]
        exact good k5 (by omega) (by omega)
      · rw [if_neg (show ¬ (k = 5 ∧ v = 60) by omega), if_pos (by decide), q_isSign h.2.1 (c := 62) (by omega), bnd_some]
        by_cases v62 : v = 62
        · rw [if_pos (show k = 5 ∧ v = 62 by omega), if_neg (by decide)]
          exact good k5 (by omega) (by omega)
        · rw [if_neg (show ¬ (k = 5 ∧ v = 62) by omega), if_pos (by decide), q_isSign h.2.1 (c := 61) (by omega), bnd_some, if_pos (show k = 5 ∧ v = 61 by omega), if_neg (by decide)]
          exact good k5 (by omega) (by omega)
  · rw [if_neg (show ¬ jw (M 9 4) = jw 5 from fun q => k5 ((c_kind h.2.1 (c := 5) (by omega)).1 q)), if_neg (show ¬ (k = 5 ∧ v = 60) by omega), if_pos (by decide), q_isSign h.2.1 (c := 62) (by omega), bnd_some, if_neg (show ¬ (k = 5 ∧ v = 62) by omega), if_pos (by decide), q_isSign h.2.1 (c := 61) (by omega), bnd_some, if_neg (show ¬ (k = 5 ∧ v = 61) by omega), if_pos (by decide)]
    exact bad _
/-- the test of a when -/
theorem ro_test (hn : 2000 ≤ n) (h : WT T N M0 X0 M X s k w v a) (hs : s0 < s) (hr : r < 60) (h34 : 0 ≤ M 34 2 ∧ M 34 2 ≤ 60) (hS : S 21 ∧ S 22 ∧ S 23) : RO S n T N M0 X0 M X s0 r a (f_X10_takeTest n 40 M) (f_X12_test n ((2152 + 6 * r : Nat) : Int) X) := by
  have hi := q_inWords (n := n) hn h.1 h.2.1
  have jr : jin ((2152 + 6 * r : Nat) : Int) 3160 := jinN (by omega) (by omega)
  -- no test begins so
  have bad : f_X6_isAt n 21 M = some (0, M) → f_X6_isAt n 22 M = some (0, M) → f_X6_isAt n 23 M = some (0, M) → RO S n T N M0 X0 M X s0 r a (f_X10_takeTest n 40 M) (bnd (f_X12_fails n 2 X) fun r21 M22 => chk (jw r21 = 0 ∨ jw r21 = 1) (some (r21, M22))) := fun a1 a2 a3 => by
    obtain ⟨F', G', c1, c2, c3, c4, c5, -⟩ := s_fail (n := n) h.2.1 (why := 2) (by omega)
    have hf := h.fl h34 c3 c4 c5
    unfold f_X10_takeTest f_X6_passWord f_X10_takeTest_L98 f_X10_takeTest_L106
    rw [a1, bnd_some, if_pos (by decide), a2, bnd_some, if_pos (by decide), a3, bnd_some, if_pos (by decide), c1, bnd_some, bnd_some, letv_ap, if_neg (j4 (x := 5) (by omega) hf.1.jk), j_fail hf.1.jk, bnd_some, j_adv hf.1.jk, bnd_some, j_passNumber hf.1.jk, bnd_some, fails_chk c2]
    exact ro_no hf (j_add hf.jt) rfl
  unfold f_X12_test
  rw [hi, bnd_some, letv_ap]
  by_cases k1 : k = 1
  · obtain ⟨c, c27, e1, e2, e3⟩ := h.2.1.k1 k1
    have hp := (k_pq c c27).2.1
    rw [if_pos k1, e2, show ((c : Int)).toNat = c from rfl]
    have isA : ∀ d : Nat, d < 27 → f_X6_isAt n (d : Int) M = some (if c = d then 1 else 0, M) := fun d hd => by
      rw [c_isAt h.2.1 hd]
      by_cases z : c = d
      · rw [if_pos ⟨k1, by rw [e2, z]⟩, if_pos z]
      · rw [if_neg (fun q => z (by have := q.2; omega)), if_neg z]
    have tab : ∀ c : Nat, c < 27 → (24 ≤ kp c ↔ c = 21 ∨ c = 22 ∨ c = 23) ∧ kp 21 = 24 ∧ kp 22 = 25 ∧ kp 23 = 26 := by decide +kernel
    have tc := (tab c c27).1
    by_cases c24 : 24 ≤ kp c
    · rw [if_pos (by rw [jwN (by omega), show jw 24 = 24 by decide]; omega), chk_pos jr, jwT (by omega), letm_ap]
      have h1 := h.up (q := 2152 + 6 * r) (x := 2000 + ((kp c : Nat) : Int)) (by omega)
      obtain ⟨F1, G1, s1, k1', w1, v1, b1, b2, b3, b4, b5, b6, b7⟩ := s_adv (n := n) hn h1.1 h1.2.1 (by omega)
      have h2 := h1.row b3 b6 b7
      have hs1 : s0 < s1 := by omega
      have h342 : 0 ≤ jrow M 9 F1 34 2 ∧ jrow M 9 F1 34 2 ≤ 60 := by rw [jrow_ne _ (by omega)]; exact h34
      have xr : jrow (jup X 168 (2152 + 6 * r) (2000 + ((kp c : Nat) : Int))) 167 G1 168 (2152 + 6 * r) = 2000 + ((kp c : Nat) : Int) := by rw [jrow_ne _ (by omega), jup_if, if_pos rfl]
      rw [b2, bnd_some]
      have fin : ∀ (f g : Option (Int × JMem)), RO S n T N M0 X0 (jrow M 9 F1) (jrow (jup X 168 (2152 + 6 * r) (2000 + ((kp c : Nat) : Int))) 167 G1) s0 r a f g → RO S n T N M0 X0 M X s0 r a f g := fun f g hro => hro.from (fun i hi => by rw [jrow_ne _ (by omega), jup_if, if_neg (by omega)]) (by rw [jrow_ne _ (by omega), jup_cell (by omega)]) (by rw [jrow_same, b7 22 (by omega), jup_cell (by omega)]) (by rw [jrow_same, b7 23 (by omega), jup_cell (by omega)])
      unfold f_X10_takeTest
      rcases tc.1 c24 with rfl | rfl | rfl
      · have kc : kp 21 = 24 := (tab 0 (by omega)).2.1
        rw [kc] at h2 xr fin ⊢
        rw [show f_X6_isAt n 21 M = _ from isA 21 (by omega), bnd_some, if_pos rfl, if_neg (by decide), b1, bnd_some, if_neg (by decide), if_pos (by decide)]
        refine fin _ _ (ro_name2 (o := 0) hn h2 hs1 hr h342 (w1 := 21) hS.1 (Or.inr ⟨rfl, rfl, by rw [xr]; decide⟩) (fun X1 X' b hX1 hb hb01 => ?_))
        rw [chk_pos (by decide), show (jw 0).toNat = 0 by decide, hX1 0 (by omega), show f_X12_oldOne n 0 (a 0) _ X1 = _ from chk_inv hb, bnd_some]
        rcases hb01 with rfl | rfl
        · rw [if_pos (by decide)]
        · rw [if_neg (by decide)]
      · have kc : kp 22 = 25 := (tab 0 (by omega)).2.2.1
        rw [kc] at h2 xr fin ⊢
        rw [show f_X6_isAt n 21 M = _ from isA 21 (by omega), bnd_some, if_neg (show ¬ (22 : Nat) = 21 by decide), if_pos (show jw 0 = 0 by decide), show f_X6_isAt n 22 M = _ from isA 22 (by omega), bnd_some, if_pos rfl, if_neg (show ¬ jw 1 = 0 by decide), b1, bnd_some, if_pos (show jw ((25 : Nat) : Int) = jw 25 by decide), w_beastTo h2]
        exact fin _ _ (ro_name1 (o := 2) hn h2 hs1 hr h342 (w1 := 22) hS.2.1 (Or.inr (Or.inr ⟨rfl, rfl, by rw [xr]; decide⟩)))
      · have kc : kp 23 = 26 := (tab 0 (by omega)).2.2.2
        rw [kc] at h2 xr fin ⊢
        unfold f_X6_passWord
        rw [show f_X6_isAt n 21 M = _ from isA 21 (by omega), bnd_some, if_neg (show ¬ (23 : Nat) = 21 by decide), if_pos (show jw 0 = 0 by decide), show f_X6_isAt n 22 M = _ from isA 22 (by omega), bnd_some, if_neg (show ¬ (23 : Nat) = 22 by decide), if_pos (show jw 0 = 0 by decide), show f_X6_isAt n 23 M = _ from isA 23 (by omega), bnd_some, if_pos rfl, if_neg (show ¬ jw 1 = 0 by decide), b1, bnd_some, bnd_some, letv_ap, if_neg (show ¬ jw ((26 : Nat) : Int) = jw 25 by decide), if_neg (show ¬ jw ((26 : Nat) : Int) = jw 24 by decide)]
        exact fin _ _ (ro_clock hn h2 hs1 hr h342 hS.2.2 (by rw [xr]; decide))
    · rw [if_neg (by rw [jwN (by omega), show jw 24 = 24 by decide]; omega)]
      exact bad (by rw [show f_X6_isAt n 21 M = _ from isA 21 (by omega), if_neg (by omega)]) (by rw [show f_X6_isAt n 22 M = _ from isA 22 (by omega), if_neg (by omega)]) (by rw [show f_X6_isAt n 23 M = _ from isA 23 (by omega), if_neg (by omega)])
  · rw [if_neg k1, if_neg (by decide)]
    have isA : ∀ d : Nat, d < 27 → f_X6_isAt n (d : Int) M = some (0, M) := fun d hd => by rw [c_isAt h.2.1 hd, if_neg (fun q => k1 q.1)]
    exact bad (isA 21 (by omega)) (isA 22 (by omega)) (isA 23 (by omega))
/-- what a word that is a step's asks for behind it -/
def sw (n : Nat) (y3 : Int) (M8 : JMem) : Option (Int × JMem) := if jw y3 = 14 then (bnd (f_X6_passNumber n 1 64 M8) fun r10 M11 => bnd (f_X9_add n 34 y3 r10 0 M11) fun _ M13 => some (0, M13)) else (if jw y3 = 16 then (bnd (f_X10_takeNames n 40 y3 8 2 M8) fun _ M15 => some (0, M15)) else (if jw y3 = 17 then (bnd (f_X10_takeNames n 40 y3 8 (-1) M8) fun _ M17 => some (0, M17)) else (if jw y3 = 18 then (bnd (f_X10_takeNames n 40 y3 2 (-1) M8) fun _ M19 => some (0, M19)) else (if jw y3 = 20 then (bnd (f_X10_takeTest n 40 M8) fun _ M21 => some (0, M21)) else (if jw y3 = 24 then (bnd (f_X6_passNumber n 1 99 M8) fun r22 M23 => bnd (f_X9_add n 34 y3 r22 0 M23) fun _ M25 => some (0, M25)) else (f_X10_takeStep_L183 n 40 y3 M8))))))
/-- the row's word is one that the step asks for -/
def opc (c : Nat) (w1 : Int) : Prop := (c = 20 ∧ 21 ≤ w1 ∧ w1 ≤ 23) ∨ (c = 24 ∧ w1 = 24) ∨ (c ≠ 20 ∧ c ≠ 24 ∧ (w1 < 21 ∨ 25 < w1))
theorem ro_order {c : Nat} (hn : 2000 ≤ n) (h : WT T N M0 X0 M X s k w v a) (hs : s0 < s) (hr : r < 60) (h34 : 0 ≤ M 34 2 ∧ M 34 2 ≤ 60) (hc : c = 14 ∨ c = 15 ∨ c = 16 ∨ c = 17 ∨ c = 18 ∨ c = 19 ∨ c = 20 ∨ c = 24 ∨ c = 26) (hx : X 168 (2152 + 6 * r) = ((kp c : Nat) : Int)) : RO (opc c) n T N M0 X0 M X s0 r a (sw n (c : Int) M) (f_X12_weekOrder n ((kp c : Nat) : Int) ((2152 + 6 * r : Nat) : Int) X) := by
  have plain : ∀ (w1 : Int), opc c w1 → (w1 = 15 ∧ X 168 (2152 + 6 * r) = 15) ∨ (w1 = 19 ∧ X 168 (2152 + 6 * r) = 19) ∨ (w1 = 26 ∧ X 168 (2152 + 6 * r) = 23) → RO (opc c) n T N M0 X0 M X s0 r a (f_X10_takeStep_L183 n 40 w1 M) (some (1, X)) := fun w1 hS hw => by
    refine Or.inl ⟨M 9, w1, 0, 0, X, s, k, w, v, ?_, rfl, by rw [jrow_self]; exact h, hs, ?_, fun _ _ => rfl, rfl, rfl, rfl⟩
    · rw [jrow_self]; rfl
    · refine ⟨hS, ?_⟩
      unfold rowrel
      rcases hw with ⟨e1, e2⟩ | ⟨e1, e2⟩ | ⟨e1, e2⟩
      · exact Or.inr (Or.inl ⟨e1, e2⟩)
      · exact Or.inr (Or.inr (Or.inr (Or.inr (Or.inr (Or.inl ⟨e1, e2⟩)))))
      · exact Or.inr (Or.inr (Or.inr (Or.inr (Or.inr (Or.inr (Or.inl ⟨e1, e2⟩))))))
  unfold sw f_X12_weekOrder
  rcases hc with rfl | rfl | rfl | rfl | rfl | rfl | rfl | rfl | rfl
  · rw [if_pos (show jw ((14 : Nat) : Int) = 14 by decide), if_pos (show jw ((kp 14 : Nat) : Int) = 14 by decide)]
    exact ro_number hn h hs hr h34 (Or.inr (Or.inr ⟨by decide, by decide, by decide⟩)) (Or.inl ⟨rfl, rfl, hx⟩)
  · rw [if_neg (show ¬ jw ((15 : Nat) : Int) = 14 by decide), if_neg (show ¬ jw ((15 : Nat) : Int) = 16 by decide), if_neg (show ¬ jw ((15 : Nat) : Int) = 17 by decide), if_neg (show ¬ jw ((15 : Nat) : Int) = 18 by decide), if_neg (show ¬ jw ((15 : Nat) : Int) = 20 by decide), if_neg (show ¬ jw ((15 : Nat) : Int) = 24 by decide), if_neg (show ¬ jw ((kp 15 : Nat) : Int) = 14 by decide), if_neg (show ¬ jw ((kp 15 : Nat) : Int) = 16 by decide), if_neg (show ¬ jw ((kp 15 : Nat) : Int) = 17 by decide), if_neg (show ¬ jw ((kp 15 : Nat) : Int) = 18 by decide), if_neg (show ¬ jw ((kp 15 : Nat) : Int) = 20 by decide), if_neg (show ¬ jw ((kp 15 : Nat) : Int) = 21 by decide)]
    exact plain _ (Or.inr (Or.inr ⟨by decide, by decide, by decide⟩)) (Or.inl ⟨rfl, hx⟩)
  · rw [if_neg (show ¬ jw ((16 : Nat) : Int) = 14 by decide), if_pos (show jw ((16 : Nat) : Int) = 16 by decide), if_neg (show ¬ jw ((kp 16 : Nat) : Int) = 14 by decide), if_pos (show jw ((kp 16 : Nat) : Int) = 16 by decide)]
    refine ro_name2 (o := 1) hn h hs hr h34 (w1 := 16) (Or.inr (Or.inr ⟨by decide, by decide, by decide⟩)) (Or.inl ⟨rfl, rfl, hx⟩) (fun X1 X' b hX1 hb hb01 => ?_)
    unfold f_X12_trainTo
    rw [chk_pos (by decide), jn1, hX1 1 (by omega), show (bnd (f_X12_oldOne n 6 (a 1) _ X1) fun r1 M2 => chk (jw r1 = 0 ∨ jw r1 = 1) (some (r1, M2))) = _ from hb, bnd_some]
    rcases hb01 with rfl | rfl
    · rw [if_pos (by decide)]
    · rw [if_neg (by decide)]
  · rw [if_neg (show ¬ jw ((17 : Nat) : Int) = 14 by decide), if_neg (show ¬ jw ((17 : Nat) : Int) = 16 by decide), if_pos (show jw ((17 : Nat) : Int) = 17 by decide), if_neg (show ¬ jw ((kp 17 : Nat) : Int) = 14 by decide), if_neg (show ¬ jw ((kp 17 : Nat) : Int) = 16 by decide), if_pos (show jw ((kp 17 : Nat) : Int) = 17 by decide), w_beastTo h]
    exact ro_name1 (o := 2) hn h hs hr h34 (w1 := 17) (Or.inr (Or.inr ⟨by decide, by decide, by decide⟩)) (Or.inl ⟨rfl, rfl, hx⟩)
  · rw [if_neg (show ¬ jw ((18 : Nat) : Int) = 14 by decide), if_neg (show ¬ jw ((18 : Nat) : Int) = 16 by decide), if_neg (show ¬ jw ((18 : Nat) : Int) = 17 by decide), if_pos (show jw ((18 : Nat) : Int) = 18 by decide), if_neg (show ¬ jw ((kp 18 : Nat) : Int) = 14 by decide), if_neg (show ¬ jw ((kp 18 : Nat) : Int) = 16 by decide), if_neg (show ¬ jw ((kp 18 : Nat) : Int) = 17 by decide), if_pos (show jw ((kp 18 : Nat) : Int) = 18 by decide), w_trainTo h]
    exact ro_name1 (o := 1) hn h hs hr h34 (w1 := 18) (Or.inr (Or.inr ⟨by decide, by decide, by decide⟩)) (Or.inr (Or.inl ⟨rfl, rfl, hx⟩))
  · rw [if_neg (show ¬ jw ((19 : Nat) : Int) = 14 by decide), if_neg (show ¬ jw ((19 : Nat) : Int) = 16 by decide), if_neg (show ¬ jw ((19 : Nat) : Int) = 17 by decide), if_neg (show ¬ jw ((19 : Nat) : Int) = 18 by decide), if_neg (show ¬ jw ((19 : Nat) : Int) = 20 by decide), if_neg (show ¬ jw ((19 : Nat) : Int) = 24 by decide), if_neg (show ¬ jw ((kp 19 : Nat) : Int) = 14 by decide), if_neg (show ¬ jw ((kp 19 : Nat) : Int) = 16 by decide), if_neg (show ¬ jw ((kp 19 : Nat) : Int) = 17 by decide), if_neg (show ¬ jw ((kp 19 : Nat) : Int) = 18 by decide), if_neg (show ¬ jw ((kp 19 : Nat) : Int) = 20 by decide), if_neg (show ¬ jw ((kp 19 : Nat) : Int) = 21 by decide)]
    exact plain _ (Or.inr (Or.inr ⟨by decide, by decide, by decide⟩)) (Or.inr (Or.inl ⟨rfl, hx⟩))
  · rw [if_neg (show ¬ jw ((20 : Nat) : Int) = 14 by decide), if_neg (show ¬ jw ((20 : Nat) : Int) = 16 by decide), if_neg (show ¬ jw ((20 : Nat) : Int) = 17 by decide), if_neg (show ¬ jw ((20 : Nat) : Int) = 18 by decide), if_pos (show jw ((20 : Nat) : Int) = 20 by decide), if_neg (show ¬ jw ((kp 20 : Nat) : Int) = 14 by decide), if_neg (show ¬ jw ((kp 20 : Nat) : Int) = 16 by decide), if_neg (show ¬ jw ((kp 20 : Nat) : Int) = 17 by decide), if_neg (show ¬ jw ((kp 20 : Nat) : Int) = 18 by decide), if_pos (show jw ((kp 20 : Nat) : Int) = 20 by decide)]
    exact (ro_test hn h hs hr h34 ⟨Or.inl ⟨rfl, by decide, by decide⟩, Or.inl ⟨rfl, by decide, by decide⟩, Or.inl ⟨rfl, by decide, by decide⟩⟩).wrap
  · rw [if_neg (show ¬ jw ((24 : Nat) : Int) = 14 by decide), if_neg (show ¬ jw ((24 : Nat) : Int) = 16 by decide), if_neg (show ¬ jw ((24 : Nat) : Int) = 17 by decide), if_neg (show ¬ jw ((24 : Nat) : Int) = 18 by decide), if_neg (show ¬ jw ((24 : Nat) : Int) = 20 by decide), if_pos (show jw ((24 : Nat) : Int) = 24 by decide), if_neg (show ¬ jw ((kp 24 : Nat) : Int) = 14 by decide), if_neg (show ¬ jw ((kp 24 : Nat) : Int) = 16 by decide), if_neg (show ¬ jw ((kp 24 : Nat) : Int) = 17 by decide), if_neg (show ¬ jw ((kp 24 : Nat) : Int) = 18 by decide), if_neg (show ¬ jw ((kp 24 : Nat) : Int) = 20 by decide), if_pos (show jw ((kp 24 : Nat) : Int) = 21 by decide)]
    exact ro_number hn h hs hr h34 (Or.inr (Or.inl ⟨rfl, rfl⟩)) (Or.inr ⟨rfl, rfl, hx⟩)
  · rw [if_neg (show ¬ jw ((26 : Nat) : Int) = 14 by decide), if_neg (show ¬ jw ((26 : Nat) : Int) = 16 by decide), if_neg (show ¬ jw ((26 : Nat) : Int) = 17 by decide), if_neg (show ¬ jw ((26 : Nat) : Int) = 18 by decide), if_neg (show ¬ jw ((26 : Nat) : Int) = 20 by decide), if_neg (show ¬ jw ((26 : Nat) : Int) = 24 by decide), if_neg (show ¬ jw ((kp 26 : Nat) : Int) = 14 by decide), if_neg (show ¬ jw ((kp 26 : Nat) : Int) = 16 by decide), if_neg (show ¬ jw ((kp 26 : Nat) : Int) = 17 by decide), if_neg (show ¬ jw ((kp 26 : Nat) : Int) = 18 by decide), if_neg (show ¬ jw ((kp 26 : Nat) : Int) = 20 by decide), if_neg (show ¬ jw ((kp 26 : Nat) : Int) = 21 by decide)]
    exact plain _ (Or.inr (Or.inr ⟨by decide, by decide, by decide⟩)) (Or.inr (Or.inr ⟨rfl, hx⟩))
end PORDER

section PADV
variable {n : Nat} {M X : JMem}
/-- THE TOKEN that both look at: s where it begins; k its kind (0 the end, 1 a keyword, 2 a name, 3 a long word, 4 a number, 5 a sign, 6 none such), w its letters, v its number -/
def TL (T : Nat → Int) (N : Nat) (F G : Nat → Int) (s k : Nat) (w : List Nat) (v : Int) : Prop :=
  F 8 = (N : Int) ∧ G 11 = (N : Int) ∧ F 4 = (k : Int) ∧ F 5 = (s : Int) ∧ G 13 = (s : Int) ∧ s ≤ N ∧ G 18 = 0 ∧ G 17 = -1 ∧ k ≤ 6 ∧ (k ≠ 0 → s < N) ∧
  (k = 6 → F 2 = 1 ∧ F 3 = (s : Int) ∧ G 12 = 1) ∧
  (k ≠ 6 → F 2 = 0 ∧ F 3 = -1 ∧ ∃ p : Nat, F 9 = (p : Int) ∧ G 14 = (p : Int) ∧ s ≤ p ∧ p ≤ N ∧ (k ≠ 0 → s < p) ∧
    ((k = 0 ∧ G 12 = 0) ∨
     (G 12 = 2 ∧ p = s + w.length ∧ 1 ≤ w.length ∧ (∀ c ∈ w, 1 ≤ c ∧ c ≤ 26) ∧ (∀ i : Nat, i < w.length → T (s + i) = ((w.getD i 0 + 96 : Nat) : Int)) ∧
       ((k = 1 ∧ ∃ c : Nat, c < 27 ∧ w = kw c ∧ v = (c : Int) ∧ F 6 = (c : Int)) ∨ (k = 2 ∧ w.length ≤ 8 ∧ (∀ c : Nat, c < 27 → w ≠ kw c) ∧ F 7 = ((wd5 w : Nat) : Int)) ∨ (k = 3 ∧ 8 < w.length ∧ ∀ c : Nat, c < 27 → w ≠ kw c))) ∨
     (k = 4 ∧ G 12 = 3 ∧ F 6 = v ∧ G 15 = v ∧ 0 ≤ v ∧ v ≤ 9999) ∨
     (k = 5 ∧ G 12 = 4 ∧ F 6 = v ∧ G 15 = v ∧ (v = 59 ∨ v = 60 ∨ v = 61 ∨ v = 62))))
theorem wl_T {T : Nat → Int} {s m : Nat} (h : ∀ i : Nat, s ≤ i → i < s + m → isL (T i)) : ∀ i : Nat, i < (wl T s m).length → T (s + i) = (((wl T s m).getD i 0 + 96 : Nat) : Int) := by
  intro i hi
  rw [wl_len] at hi
  rw [wl_get hi]
  have := h (s + i) (by omega) (by omega)
  have := this.1
  omega
theorem adv {T : Nat → Int} {N p : Nat} (hn : 2000 ≤ n) (hT : TT T N) (hM : ∀ k : Nat, k < N → M 10 k = T k) (hX : ∀ k : Nat, k < N → X 174 k = T k) (hK : ∀ k : Nat, k < 27 → M 11 k = jM0 11 k) (hp : p ≤ N) {f g : Nat → Int} (h2 : f 2 = 0) (h3 : f 3 = -1) (h8 : f 8 = (N : Int)) (h9 : f 9 = (p : Int)) (g11 : g 11 = (N : Int)) (g14 : g 14 = (p : Int)) (g18 : g 18 = 0) (g17 : g 17 = -1) :
    ∃ (f' g' : Nat → Int) (s k : Nat) (w : List Nat) (v : Int), f_X6_advance n (jrow M 9 f) = some (0, jrow M 9 f') ∧ f_X12_ahead n (jrow X 167 g) = some (0, jrow X 167 g') ∧ TL T N f' g' s k w v ∧ p ≤ s ∧ (∀ j : Nat, (j = 0 ∨ j = 1) → f' j = f j) ∧ ∀ j : Nat, j ≠ 12 → j ≠ 13 → j ≠ 14 → j ≠ 15 → g' j = g j := by
  have h900 := hT.1
  obtain ⟨s, s1, s2, s3, s4⟩ := run_ex (fun i => T i = 10 ∨ T i = 32) N (N - p) p (by omega)
  have ec : f_X6_advance n (jrow M 9 f) = f_X6_advance_L47 n (jrow M 9 (upA f 9 s)) := by
    unfold f_X6_advance
    rw [r9, h2, if_pos (by decide)]
    exact c_blank hT hM s2 s3 s4 (s - p) p n f (Nat.le_refl _) (by omega) (by omega) h8 h9
  have er : f_X12_ahead n (jrow X 167 g) = f_X12_ahead_L39 n (jrow X 167 (upA g 14 s)) := by
    unfold f_X12_ahead
    exact q_blank hT hX s2 s3 s4 (s - p) p n g (Nat.le_refl _) (by omega) (by omega) g11 g14
  have eL : f_X6_advance_L47 n (jrow M 9 (upA f 9 s)) = if s < N then (bnd (f_X6_isLetter n (T s) (jrow M 9 (upA (upA f 9 s) 5 s))) fun r3 M4 => if jw r3 = 0 then (bnd (f_X6_isDigit n (T s) M4) fun r5 M6 => if jw r5 = 0 then (if jw (T s) = jw 59 then (f_X6_advance_L134 n (T s) M6) else (if jw (T s) = jw 60 then (f_X6_advance_L134 n (T s) M6) else (if jw (T s) = jw 62 then (f_X6_advance_L134 n (T s) M6) else (if jw (T s) = jw 61 then (f_X6_advance_L134 n (T s) M6) else (bnd (f_X6_fail n 1 M6) fun _ M8 => some (0, M8)))))) else (bnd (f_X6_lookAtNumber n M6) fun _ M10 => some (0, M10))) else (bnd (f_X6_lookAtWord n M4) fun _ M12 => some (0, M12))) else some (0, jrow M 9 (upA (upA (upA f 9 s) 5 s) 4 0)) := by
    unfold f_X6_advance_L47
    rw [letm_ap, r9, upA_same, u9, r9, upA_ne (show (9 : Nat) ≠ 5 by omega), upA_same, upA_ne (show (8 : Nat) ≠ 5 by omega), upA_ne (show (8 : Nat) ≠ 9 by omega), h8]
    by_cases c : s < N
    · rw [if_pos (by rw [jwN (by omega), jwN (by omega)]; omega), if_pos c, chk_pos (jinN (by omega) (by omega)), r910, jwT (by omega), hM s c, letv_ap]
    · rw [if_neg (by rw [jwN (by omega), jwN (by omega)]; omega), if_neg c, letm_ap, u9]
  have eR : f_X12_ahead_L39 n (jrow X 167 (upA g 14 s)) = if bt T N s = -1 then some (0, jrow X 167 (upA (upA (upA (upA g 14 s) 13 s) 15 (-1)) 12 0)) else (bnd (f_X12_isSmall n (bt T N s) (jrow X 167 (upA (upA (upA g 14 s) 13 s) 15 (bt T N s)))) fun r6 M7 => if jw r6 = 0 then (bnd (f_X12_isDigit n (bt T N s) M7) fun r8 M9 => if jw r8 = 0 then (letm (jup M9 167 14 ((M9 167 14) + 1)) fun M10 => if jw (bt T N s) = jw 59 then (f_X12_ahead_L243 n M10) else (if jw (bt T N s) = jw 60 then (f_X12_ahead_L243 n M10) else (if jw (bt T N s) = jw 62 then (f_X12_ahead_L243 n M10) else (if jw (bt T N s) = jw 61 then (f_X12_ahead_L243 n M10) else (f_X12_ahead_L248 n 1 M10))))) else (letm (jup M9 167 15 0) fun M11 => f_X12_ahead_L128 n n M11)) else (f_X12_ahead_L81 n n M7)) := by
    have hb := bt_in (q := s) hT
    unfold f_X12_ahead_L39
    rw [letm_ap, r67, upA_same, u67, r67, upA_ne (show (14 : Nat) ≠ 13 by omega), upA_same, q_byte hT hX (by rw [upA_ne (by omega), upA_ne (by omega)]; exact g11) (by omega), bnd_some, letv_ap, letm_ap, u67, jwm1, jw_of (x := bt T N s) (by omega) (by omega)]
    by_cases c : bt T N s = -1
    · rw [if_pos c, if_pos c, letm_ap, u67, c]
    · rw [if_neg c, if_neg c]
  rw [ec, er, eL, eR]
  by_cases c : s < N
  · have hr := hT.2 s c
    have hbn : ¬ bt T N s = -1 := by
      unfold bt
      rw [if_pos c]
      by_cases z : 0 ≤ T s
      · rw [if_pos z]; omega
      · rw [if_neg z]; omega
    rw [if_pos c, if_neg hbn, c_isL hr, bnd_some, q_isS (bt_in hT), bnd_some]
    by_cases cl : isL (T s)
    · rw [if_pos cl, if_neg (by decide), if_pos ((bt_L hT).2 ⟨c, cl⟩), if_neg (by decide)]
      obtain ⟨e, e1, e2, e3, e4⟩ := run_ex (fun i => isL (T i)) N (N - (s + 1)) (s + 1) (by omega)
      have e3' : ∀ i : Nat, s ≤ i → i < e → isL (T i) := fun i i1 i2 => by
        by_cases z : i = s
        · rw [z]; exact cl
        · exact e3 i (by omega) i2
      obtain ⟨f', q1, q2, q3, q4⟩ := c_look (n := n) hn hT hM hK e2 (by omega) e3' e4 (f := upA (upA f 9 s) 5 s) (by rw [upA_ne (by omega), upA_ne (by omega)]; exact h8) (by rw [upA_ne (by omega), upA_same]) (by rw [upA_same])
      have q5 := q_word (n := n) hT hX e2 e3' e4 (e - s) s n (upA (upA (upA g 14 s) 13 s) 15 (bt T N s)) (Nat.le_refl _) (by omega) (by omega) (by rw [upA_ne (by omega), upA_ne (by omega), upA_ne (by omega)]; exact g11) (by rw [upA_ne (by omega), upA_ne (by omega), upA_same])
      have hmem := wl_mem (T := T) (s := s) (m := e - s) (fun i hi => e3' _ (by omega) (by omega))
      have hwT := wl_T (T := T) (s := s) (m := e - s) (fun i i1 i2 => e3' _ (by omega) (by omega))
      have q6 : f_X12_ahead_L81 n n (jrow X 167 (upA (upA (upA g 14 s) 13 s) 15 (bt T N s))) = some (0, jrow X 167 (upA (upA (upA (upA (upA g 14 s) 13 s) 15 (bt T N s)) 14 e) 12 2)) := by
        rw [q5]
        unfold f_X12_ahead_L108
        rw [letm_ap, u67]
      rw [q1, bnd_some, q6]
      have base : ∀ (k : Nat) (v : Int), f' 4 = (k : Int) → 1 ≤ k → k ≤ 3 → ((k = 1 ∧ ∃ c : Nat, c < 27 ∧ wl T s (e - s) = kw c ∧ v = (c : Int) ∧ f' 6 = (c : Int)) ∨ (k = 2 ∧ (wl T s (e - s)).length ≤ 8 ∧ (∀ c : Nat, c < 27 → wl T s (e - s) ≠ kw c) ∧ f' 7 = ((wd5 (wl T s (e - s)) : Nat) : Int)) ∨ (k = 3 ∧ 8 < (wl T s (e - s)).length ∧ ∀ c : Nat, c < 27 → wl T s (e - s) ≠ kw c)) → TL T N f' (upA (upA (upA (upA (upA g 14 s) 13 s) 15 (bt T N s)) 14 e) 12 2) s k (wl T s (e - s)) v := fun k v k4 k1 k3 hh => by
        refine ⟨?_, ?_, k4, ?_, ?_, s2, ?_, ?_, by omega, fun _ => c, fun z => by omega, fun _ => ⟨?_, ?_, e, q2, ?_, by omega, e2, fun _ => by omega, Or.inr (Or.inl ⟨?_, by rw [wl_len]; omega, by rw [wl_len]; omega, hmem, hwT, hh⟩)⟩⟩
        · rw [q3 8 (by omega) (by omega) (by omega) (by omega), upA_ne (by omega), upA_ne (by omega)]; exact h8
        · rw [upA_ne (by omega), upA_ne (by omega), upA_ne (by omega), upA_ne (by omega), upA_ne (by omega)]; exact g11
        · rw [q3 5 (by omega) (by omega) (by omega) (by omega), upA_same]
        · rw [upA_ne (by omega), upA_ne (by omega), upA_ne (by omega), upA_same]
        · rw [upA_ne (by omega), upA_ne (by omega), upA_ne (by omega), upA_ne (by omega), upA_ne (by omega)]; exact g18
        · rw [upA_ne (by omega), upA_ne (by omega), upA_ne (by omega), upA_ne (by omega), upA_ne (by omega)]; exact g17
        · rw [q3 2 (by omega) (by omega) (by omega) (by omega), upA_ne (by omega), upA_ne (by omega)]; exact h2
        · rw [q3 3 (by omega) (by omega) (by omega) (by omega), upA_ne (by omega), upA_ne (by omega)]; exact h3
        · rw [upA_ne (by omega), upA_same]
        · rw [upA_same]
      have fr : ∀ j : Nat, (j = 0 ∨ j = 1) → f' j = f j := fun j hj => by rw [q3 j (by omega) (by omega) (by omega) (by omega), upA_ne (by omega), upA_ne (by omega)]
      have gr : ∀ j : Nat, j ≠ 12 → j ≠ 13 → j ≠ 14 → j ≠ 15 → upA (upA (upA (upA (upA g 14 s) 13 s) 15 (bt T N s)) 14 e) 12 2 j = g j := fun j j1 j2 j3 j4 => by rw [upA_ne j1, upA_ne j3, upA_ne j4, upA_ne j2, upA_ne j3]
      rcases q4 with ⟨k4, c', c1, c2, c3⟩ | ⟨k4, c1, c2, c3⟩ | ⟨k4, c1, c2⟩
      · exact ⟨f', _, s, 1, wl T s (e - s), (c' : Int), rfl, rfl, base 1 c' k4 (by omega) (by omega) (Or.inl ⟨rfl, c', c1, c2, rfl, c3⟩), s1, fr, gr⟩
      · exact ⟨f', _, s, 2, wl T s (e - s), 0, rfl, rfl, base 2 0 k4 (by omega) (by omega) (Or.inr (Or.inl ⟨rfl, by rw [wl_len]; exact c1, c2, c3⟩)), s1, fr, gr⟩
      · exact ⟨f', _, s, 3, wl T s (e - s), 0, rfl, rfl, base 3 0 k4 (by omega) (by omega) (Or.inr (Or.inr ⟨rfl, by rw [wl_len]; exact c1, c2⟩)), s1, fr, gr⟩
    · rw [if_neg cl, if_pos (by decide), if_neg (fun z => cl ((bt_L hT).1 z).2), if_pos (by decide), c_isD hr, bnd_some, q_isDg (bt_in hT), bnd_some]
      by_cases cd : isD (T s)
      · rw [if_pos cd, if_neg (by decide), if_pos ((bt_D hT).2 ⟨c, cd⟩), if_neg (by decide), letm_ap, u67]
        obtain ⟨e, e1, e2, e3, e4⟩ := run_ex (fun i => isD (T i)) N (N - (s + 1)) (s + 1) (by omega)
        have e3' : ∀ i : Nat, s ≤ i → i < e → isD (T i) := fun i i1 i2 => by
          by_cases z : i = s
          · rw [z]; exact cd
          · exact e3 i (by omega) i2
        obtain ⟨f', q1, q3, q4⟩ := c_lookN (n := n) hn hT hM e2 (by omega) e3' e4 (f := upA (upA f 9 s) 5 s) (by rw [upA_ne (by omega), upA_ne (by omega)]; exact h8) (by rw [upA_ne (by omega), upA_same]) (by rw [upA_same]) (by rw [upA_ne (by omega), upA_ne (by omega)]; exact h2)
        obtain ⟨v', q5, q6⟩ := q_num (n := n) hT hX e2 e3' e4 (e - s) s n (upA (upA (upA (upA g 14 s) 13 s) 15 (bt T N s)) 15 0) (Nat.le_refl _) (by omega) (by omega) (by rw [upA_ne (by omega), upA_ne (by omega), upA_ne (by omega), upA_ne (by omega)]; exact g11) (by rw [upA_ne (by omega), upA_ne (by omega), upA_ne (by omega), upA_same]) (fun _ => by rw [Nat.sub_self, upA_same]; rfl)
        rw [q1, bnd_some, q5]
        have hnm := nm_lt (T := T) (s := s) (e - s) (fun i hi => e3' _ (by omega) (by omega))
        unfold f_X12_ahead_L183 f_X12_ahead_L202
        rw [r67, upA_same, upA_ne (show (13 : Nat) ≠ 14 by omega), upA_ne (show (13 : Nat) ≠ 15 by omega), upA_ne (show (13 : Nat) ≠ 15 by omega), upA_ne (show (13 : Nat) ≠ 15 by omega), upA_same]
        have fr : ∀ j : Nat, (j = 0 ∨ j = 1) → f' j = f j := fun j hj => by rw [q3 j (by omega) (by omega) (by omega) (by omega) (by omega), upA_ne (by omega), upA_ne (by omega)]
        have gr : ∀ (x : Int) (j : Nat), j ≠ 12 → j ≠ 13 → j ≠ 14 → j ≠ 15 → upA (upA (upA (upA (upA (upA (upA g 14 s) 13 s) 15 (bt T N s)) 15 0) 15 v') 14 e) 12 x j = g j := fun x j j1 j2 j3 j4 => by rw [upA_ne j1, upA_ne j3, upA_ne j4, upA_ne j4, upA_ne j4, upA_ne j2, upA_ne j3]
        have g13 : ∀ x : Int, upA (upA (upA (upA (upA (upA (upA g 14 s) 13 s) 15 (bt T N s)) 15 0) 15 v') 14 e) 12 x 13 = (s : Int) := fun x => by rw [upA_ne (by omega), upA_ne (by omega), upA_ne (by omega), upA_ne (by omega), upA_ne (by omega), upA_same]
        have f8 : f' 8 = (N : Int) := by rw [q3 8 (by omega) (by omega) (by omega) (by omega) (by omega), upA_ne (by omega), upA_ne (by omega)]; exact h8
        have f5 : f' 5 = (s : Int) := by rw [q3 5 (by omega) (by omega) (by omega) (by omega) (by omega), upA_same]
        rcases q4 with ⟨c1, c2, c3, c4, c5, c6⟩ | ⟨c1, c2, c3, c4⟩
        · rw [if_pos (by rw [jwS (by omega) (by omega), show jw 4 = 4 by decide]; omega), letm_ap, u67]
          have hp : (10 : Int) ^ (e - s) ≤ 10 ^ 4 := by
            have : (10 : Nat) ^ (e - s) ≤ 10 ^ 4 := Nat.pow_le_pow_right (by omega) (by omega)
            exact_mod_cast this
          refine ⟨f', _, s, 4, [], nm T s (e - s), rfl, rfl, ⟨f8, by rw [gr 3 11 (by omega) (by omega) (by omega) (by omega)]; exact g11, c5, f5, g13 3, s2, by rw [gr 3 18 (by omega) (by omega) (by omega) (by omega)]; exact g18, by rw [gr 3 17 (by omega) (by omega) (by omega) (by omega)]; exact g17, by omega, fun _ => c, fun z => by omega, fun _ => ⟨?_, ?_, e, c4, ?_, by omega, e2, fun _ => by omega, Or.inr (Or.inr (Or.inl ⟨rfl, ?_, c6, ?_, hnm.1, ?_⟩))⟩⟩, s1, fr, gr 3⟩
          · rw [c2, upA_ne (by omega), upA_ne (by omega)]; exact h2
          · rw [c3, upA_ne (by omega), upA_ne (by omega)]; exact h3
          · rw [upA_ne (by omega), upA_same]
          · rw [upA_same]
          · rw [upA_ne (by omega), upA_ne (by omega), upA_same]; exact q6 c1
          · have := hnm.2
            have h4 : (10 : Int) ^ 4 = 10000 := by decide
            omega
        · rw [if_neg (by rw [jwS (by omega) (by omega), show jw 4 = 4 by decide]; omega), letm_ap, u67]
          exact ⟨f', _, s, 6, [], 0, rfl, rfl, ⟨f8, by rw [gr 1 11 (by omega) (by omega) (by omega) (by omega)]; exact g11, c4, f5, g13 1, s2, by rw [gr 1 18 (by omega) (by omega) (by omega) (by omega)]; exact g18, by rw [gr 1 17 (by omega) (by omega) (by omega) (by omega)]; exact g17, by omega, fun _ => c, fun _ => ⟨c2, c3, by rw [upA_same]⟩, fun z => absurd rfl z⟩, s1, fr, gr 1⟩
      · rw [if_neg cd, if_pos (show jw 0 = 0 by decide), if_neg (fun z => cd ((bt_D hT).1 z).2), if_pos (show jw 0 = 0 by decide), letm_ap, r67, upA_ne (show (14 : Nat) ≠ 15 by omega), upA_ne (show (14 : Nat) ≠ 13 by omega), upA_same, u67, show (s : Int) + 1 = ((s + 1 : Nat) : Int) by omega]
        have hb := bt_in (q := s) hT
        have gr : ∀ (x : Int) (j : Nat), j ≠ 12 → j ≠ 13 → j ≠ 14 → j ≠ 15 → upA (upA (upA (upA (upA g 14 s) 13 s) 15 (bt T N s)) 14 ((s + 1 : Nat) : Int)) 12 x j = g j := fun x j j1 j2 j3 j4 => by rw [upA_ne j1, upA_ne j3, upA_ne j4, upA_ne j2, upA_ne j3]
        have g13 : ∀ x : Int, upA (upA (upA (upA (upA g 14 s) 13 s) 15 (bt T N s)) 14 ((s + 1 : Nat) : Int)) 12 x 13 = (s : Int) := fun x => by rw [upA_ne (by omega), upA_ne (by omega), upA_ne (by omega), upA_same]
        have sign : ∀ v : Int, T s = v → (v = 59 ∨ v = 60 ∨ v = 61 ∨ v = 62) → ∃ (f' g' : Nat → Int) (s' k : Nat) (w : List Nat) (v : Int), f_X6_advance_L134 n (T s) (jrow M 9 (upA (upA f 9 s) 5 s)) = some (0, jrow M 9 f') ∧ f_X12_ahead_L243 n (jrow X 167 (upA (upA (upA (upA g 14 s) 13 s) 15 (bt T N s)) 14 ((s + 1 : Nat) : Int))) = some (0, jrow X 167 g') ∧ TL T N f' g' s' k w v ∧ p ≤ s' ∧ (∀ j : Nat, (j = 0 ∨ j = 1) → f' j = f j) ∧ ∀ j : Nat, j ≠ 12 → j ≠ 13 → j ≠ 14 → j ≠ 15 → g' j = g j := fun v ev hv => by
          have eb : bt T N s = v := (bt_lo hT (by omega)).2 ⟨c, ev⟩
          unfold f_X6_advance_L134 f_X12_ahead_L243 f_X12_ahead_L248
          rw [letm_ap, letm_ap, letm_ap, u9, u9, r9, u9, letm_ap, u67]
          refine ⟨_, _, s, 5, [], v, rfl, rfl, ⟨?_, by rw [gr 4 11 (by omega) (by omega) (by omega) (by omega)]; exact g11, ?_, ?_, g13 4, s2, by rw [gr 4 18 (by omega) (by omega) (by omega) (by omega)]; exact g18, by rw [gr 4 17 (by omega) (by omega) (by omega) (by omega)]; exact g17, by omega, fun _ => c, fun z => by omega, fun _ => ⟨?_, ?_, s + 1, ?_, ?_, by omega, by omega, fun _ => by omega, Or.inr (Or.inr (Or.inr ⟨rfl, ?_, ?_, ?_, hv⟩))⟩⟩, s1, fun j hj => ?_, gr 4⟩
          · rw [upA_ne (by omega), upA_ne (by omega), upA_ne (by omega), upA_ne (by omega), upA_ne (by omega)]; exact h8
          · rw [upA_ne (by omega), upA_ne (by omega), upA_same]; rfl
          · rw [upA_ne (by omega), upA_ne (by omega), upA_ne (by omega), upA_same]
          · rw [upA_ne (by omega), upA_ne (by omega), upA_ne (by omega), upA_ne (by omega), upA_ne (by omega)]; exact h2
          · rw [upA_ne (by omega), upA_ne (by omega), upA_ne (by omega), upA_ne (by omega), upA_ne (by omega)]; exact h3
          · rw [upA_same, upA_ne (by omega), upA_ne (by omega), upA_ne (by omega), upA_same]; omega
          · rw [upA_ne (by omega), upA_same]
          · rw [upA_same]
          · rw [upA_ne (by omega), upA_same]; exact ev
          · rw [upA_ne (by omega), upA_ne (by omega), upA_same]; exact eb
          · rw [upA_ne (by omega), upA_ne (by omega), upA_ne (by omega), upA_ne (by omega), upA_ne (by omega)]
        have jT : ∀ x : Int, 0 ≤ x → x < 128 → (jw (T s) = jw x ↔ T s = x) := fun x x0 x1 => by rw [jw_of (x := T s) (by omega) (by omega), jw_of (x := x) (by omega) (by omega)]
        have jB : ∀ x : Int, 0 ≤ x → x < 128 → (jw (bt T N s) = jw x ↔ T s = x) := fun x x0 x1 => by
          rw [jw_of (x := bt T N s) (by omega) (by omega), jw_of (x := x) (by omega) (by omega), bt_lo hT ⟨x0, x1⟩]
          exact ⟨fun z => z.2, fun z => ⟨c, z⟩⟩
        by_cases d1 : T s = 59
        · rw [if_pos ((jT 59 (by omega) (by omega)).2 d1), if_pos ((jB 59 (by omega) (by omega)).2 d1)]
          exact sign 59 d1 (by omega)
        · rw [if_neg (fun z => d1 ((jT 59 (by omega) (by omega)).1 z)), if_neg (fun z => d1 ((jB 59 (by omega) (by omega)).1 z))]
          by_cases d2 : T s = 60
          · rw [if_pos ((jT 60 (by omega) (by omega)).2 d2), if_pos ((jB 60 (by omega) (by omega)).2 d2)]
            exact sign 60 d2 (by omega)
          · rw [if_neg (fun z => d2 ((jT 60 (by omega) (by omega)).1 z)), if_neg (fun z => d2 ((jB 60 (by omega) (by omega)).1 z))]
            by_cases d3 : T s = 62
            · rw [if_pos ((jT 62 (by omega) (by omega)).2 d3), if_pos ((jB 62 (by omega) (by omega)).2 d3)]
              exact sign 62 d3 (by omega)
            · rw [if_neg (fun z => d3 ((jT 62 (by omega) (by omega)).1 z)), if_neg (fun z => d3 ((jB 62 (by omega) (by omega)).1 z))]
              by_cases d4 : T s = 61
              · rw [if_pos ((jT 61 (by omega) (by omega)).2 d4), if_pos ((jB 61 (by omega) (by omega)).2 d4)]
                exact sign 61 d4 (by omega)
              · rw [if_neg (fun z => d4 ((jT 61 (by omega) (by omega)).1 z)), if_neg (fun z => d4 ((jB 61 (by omega) (by omega)).1 z))]
                unfold f_X6_fail f_X6_fail_L20 f_X12_ahead_L248
                rw [r9, upA_ne (show (2 : Nat) ≠ 5 by omega), upA_ne (show (2 : Nat) ≠ 9 by omega), h2, if_pos (by decide), letm_ap, letm_ap, letm_ap, u9, r9, u9, u9, bnd_some, letm_ap, u67]
                refine ⟨_, _, s, 6, [], 0, rfl, rfl, ⟨?_, by rw [gr 1 11 (by omega) (by omega) (by omega) (by omega)]; exact g11, ?_, ?_, g13 1, s2, by rw [gr 1 18 (by omega) (by omega) (by omega) (by omega)]; exact g18, by rw [gr 1 17 (by omega) (by omega) (by omega) (by omega)]; exact g17, by omega, fun _ => c, fun _ => ⟨?_, ?_, by rw [upA_same]⟩, fun z => absurd rfl z⟩, s1, fun j hj => ?_, gr 1⟩
                · rw [upA_ne (by omega), upA_ne (by omega), upA_ne (by omega), upA_ne (by omega), upA_ne (by omega)]; exact h8
                · rw [upA_same]; rfl
                · rw [upA_ne (by omega), upA_ne (by omega), upA_ne (by omega), upA_same]
                · rw [upA_ne (by omega), upA_ne (by omega), upA_same]
                · rw [upA_ne (by omega), upA_same, upA_ne (by omega), upA_same]
                · rw [upA_ne (by omega), upA_ne (by omega), upA_ne (by omega), upA_ne (by omega), upA_ne (by omega)]
  · have eb : bt T N s = -1 := by
      unfold bt
      rw [if_neg c]
    rw [if_neg c, if_pos eb]
    refine ⟨_, _, s, 0, [], 0, rfl, rfl, ⟨?_, ?_, ?_, ?_, ?_, s2, ?_, ?_, by omega, fun z => absurd rfl z, fun z => by omega, fun _ => ⟨?_, ?_, s, ?_, ?_, Nat.le_refl _, s2, fun z => absurd rfl z, Or.inl ⟨rfl, by rw [upA_same]⟩⟩⟩, s1, fun j hj => ?_, fun j j1 j2 j3 j4 => ?_⟩
    · rw [upA_ne (by omega), upA_ne (by omega), upA_ne (by omega)]; exact h8
    · rw [upA_ne (by omega), upA_ne (by omega), upA_ne (by omega), upA_ne (by omega)]; exact g11
    · rw [upA_same]; rfl
    · rw [upA_ne (by omega), upA_same]
    · rw [upA_ne (by omega), upA_ne (by omega), upA_same]
    · rw [upA_ne (by omega), upA_ne (by omega), upA_ne (by omega), upA_ne (by omega)]; exact g18
    · rw [upA_ne (by omega), upA_ne (by omega), upA_ne (by omega), upA_ne (by omega)]; exact g17
    · rw [upA_ne (by omega), upA_ne (by omega), upA_ne (by omega)]; exact h2
    · rw [upA_ne (by omega), upA_ne (by omega), upA_ne (by omega)]; exact h3
    · rw [upA_ne (by omega), upA_ne (by omega), upA_same]
    · rw [upA_ne (by omega), upA_ne (by omega), upA_ne (by omega), upA_same]
    · rw [upA_ne (by omega), upA_ne (by omega), upA_ne (by omega)]
    · rw [upA_ne j1, upA_ne j4, upA_ne j2, upA_ne j3]
end PADV

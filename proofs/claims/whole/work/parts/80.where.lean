section PWHERE
variable {n : Nat} {M : JMem}
theorem p_where (hf : 200 ≤ n) : jO_where JR n := by
  intro x1 x2 hx1 hx2 M h
  obtain ⟨h0, m0, e5, em, eh, hP, hR, hB, lo⟩ := h.now
  have e2 := jwI hx2
  have c64 : jw 64 = 64 := by decide
  have jh : jw (M 52 1) = h0 := by rw [eh]; exact jw_of (by omega) (by omega)
  have b2 : keepA (M 168) 3024 2 = M 168 2 := lo 2 (by omega)
  have b5 : keepA (M 168) 3024 5 = h0 := by rw [lo 5 (by omega)]; exact e5
  have refC : (0 ≤ x1 ∧ x1 < M 168 2) → ¬ ((h0 : Int) ≤ x2 ∧ x2 ≤ 64) → ∃ r M1 s M2, f_X11_where n x1 x2 M = some (r, M1) ∧ f_X12_where n x1 x2 M1 = some (s, M2) ∧ jw r = jw s ∧ JR M2 := fun h1 h2 => by
    refine Pr.end (r := -1) (s := -1) (x := 1) (y := 1) h ?_ ?_ rfl rfl
    · unfold f_X11_where f_X11_where_L25
      rw [h.isB hx1, bnd_some, if_pos h1, if_neg (by decide)]
      by_cases c : jw x2 < jw (M 52 1)
      · rw [if_pos c]; rfl
      · rw [if_neg c, if_neg (by omega)]; rfl
    · unfold f_X12_where f_X12_where_L26
      rw [h.isBM hx1 (jup M 0 0 1) rfl, bnd_some, if_pos h1, if_neg (by decide), chk_pos (by decide), show (jw 5).toNat = 5 by decide, show jup M 0 0 1 168 = M 168 from rfl, e2, e5, jw_of (x := (h0 : Int)) (by omega) (by omega), q_isFrom ⟨by have := hx2.1; omega, by have := hx2.2; omega⟩ (by omega) (by omega), bnd_some, if_neg h2, if_pos (by decide)]; rfl
  by_cases h1 : 0 ≤ x1 ∧ x1 < M 168 2
  · by_cases h2 : (h0 : Int) ≤ x2 ∧ x2 ≤ 64
    · have nb := h.nb
      obtain ⟨b, b8, rfl⟩ := natOf (x := x1) (k := 8) (by omega) (by omega)
      obtain ⟨m, m64, em2⟩ := natOf (x := x2 - h0) (k := 65) (by omega) (by omega)
      have ex2 : x2 = ((h0 + m : Nat) : Int) := by omega
      obtain ⟨M1, a1, a2, a3, a4⟩ := c_goOn (n := n) (M := M) hf hP hR (m := m) (by omega) (x := x2) (by omega)
      have hSm := hB.it m (by omega)
      have i2 : itA (keepA (M 168) 3024) m 2 = M 168 2 := by rw [itA_ne (hB.2.2.1) m 2 (by omega) (by omega), b2]
      have hPm : RP (blk M1 40 12) (itA (keepA (M 168) 3024) m) := by
        rw [blk_congr (by decide) (M := M) (M' := M1) (a := 40) (z := 12) (fun j hj => a2 _ (by omega))]
        exact hP.same (fun i q1 q2 => itA_ne hB.2.2.1 m i q1 q2)
      have wm := wh_m1 hSm b8 (by rw [i2]; omega)
      -- what the reference does
      have ref : ∀ s : Int, ∃ M2, f_X12_laysWeek n (jup M1 0 0 s) = some (0, M2) ∧ M2 176 (8 * (h0 + m) + b) = wh (itA (keepA (M 168) 3024) m) b ∧ Pf M M2 ∧ M2 0 0 = s := fun s => by
        have e68 : jup M1 0 0 s 168 = M 168 := by rw [jup_cell (by omega), a2 168 (by omega)]
        obtain ⟨M2, k1, k2, k3, k4, k5, k6⟩ := q_laysWeek (n := n) (M := jup M1 0 0 s) hf hB (by rw [e68]) b5 em
        exact ⟨M2, k1, k5 m (by omega) b b8 (by rw [b2]; omega), ((Pf.cl a2).trans (Pf.st0 s)).trans (Pf.lays (by rw [e68]) k2 k3 k4), by rw [k3 0 (by omega) (by omega) (by omega) (by omega) (by omega), jup_at, if_pos ⟨rfl, rfl⟩]⟩
      have hfr : ∀ X : JMem, f_X12_isFrom n x2 (h0 : Int) 64 X = some (1, X) := fun X => by
        rw [q_isFrom ⟨by omega, by omega⟩ (by omega) (by omega), if_pos h2]
      have goC : f_X11_where n (b : Int) x2 M = bnd (f_X1_isEaten n 68 (b : Int) M1) fun r5 M6 => if jw r5 = 0 then (bnd (f_X1_spotOf n 68 40 (b : Int) M6) fun r7 M8 => bnd (f_X11_answer n r7 M8) fun r9 M10 => some (r9, M10)) else (bnd (f_X11_refuse n 6 M6) fun r11 M12 => some (r11, M12)) := by
        unfold f_X11_where
        rw [h.isB hx1, bnd_some, if_pos h1, if_neg (by decide), if_neg (by omega), if_pos (by omega), a1, bnd_some]
      have goM : ∀ s : Int, ∀ M2, f_X12_laysWeek n (jup M1 0 0 s) = some (0, M2) → f_X12_where n (b : Int) x2 (jup M1 0 0 s) = bnd (f_X12_orNone n (M2 176 (8 * (h0 + m) + b)) M2) fun r7 M8 => some (r7, M8) := fun s M2 k1 => by
        have e68 : jup M1 0 0 s 168 = M 168 := by rw [jup_cell (by omega), a2 168 (by omega)]
        unfold f_X12_where
        rw [h.isBM hx1 (jup M1 0 0 s) e68, bnd_some, if_pos h1, if_neg (by decide), chk_pos (by decide), show (jw 5).toNat = 5 by decide, e68, e2, e5, jw_of (x := (h0 : Int)) (by omega) (by omega), hfr, bnd_some, if_neg (by decide), k1, bnd_some, show 8 * x2 + (b : Int) = ((8 * (h0 + m) + b : Nat) : Int) by omega, chk_pos (jin_of (by omega) (by omega) (by omega)), jwb (by omega)]
      by_cases he : itA (keepA (M 168) 3024) m (59 + 10 * b) = 1
      · obtain ⟨M2, k1, k2, k3, k4⟩ := ref 6
        refine Pr.fin (r := -1) (s := -1) (M1 := jup M1 0 0 6) (M2 := jup M2 167 2 6) h ?_ ?_ rfl (k3.trans (Pf.st2 6)) ?_
        · rw [goC, q_isE a3 b8 (by rw [i2]; omega), bnd_some, if_pos he, if_neg (by decide), q_refuse, bnd_some]
        · rw [goM 6 M2 k1, k2, wm.1 he]
          unfold f_X12_orNone
          rw [if_pos rfl, q_refuseM, bnd_some, bnd_some]
        · rw [jup_cell (by omega), k4, jup_at, if_pos ⟨rfl, rfl⟩]
      · obtain ⟨M2, k1, k2, k3, k4⟩ := ref 0
        have wr := wm.2 he
        refine Pr.fin (r := wh (itA (keepA (M 168) 3024) m) b) (s := wh (itA (keepA (M 168) 3024) m) b) (M1 := jup M1 0 0 0) (M2 := jup M2 167 2 0) h ?_ ?_ rfl (k3.trans (Pf.st2 0)) ?_
        · rw [goC, q_isE a3 b8 (by rw [i2]; omega), bnd_some, if_neg he, if_pos (by decide), q_spotOf (by omega) hPm a3 b8 (by rw [i2]; omega), bnd_some, q_answer, bnd_some]
        · rw [goM 0 M2 k1, k2]
          unfold f_X12_orNone
          rw [if_neg (by rw [jw_of (x := wh (itA (keepA (M 168) 3024) m) b) (by omega) (by omega), show jw (-1) = -1 by decide]; omega), q_gives, bnd_some, bnd_some]
        · rw [jup_cell (by omega), k4, jup_at, if_pos ⟨rfl, rfl⟩]
    · exact refC h1 h2
  · refine Pr.end (r := -1) (s := -1) (x := 1) (y := 1) h ?_ ?_ rfl rfl
    · unfold f_X11_where f_X11_where_L25
      rw [h.isB hx1, bnd_some, if_neg h1, if_pos (by decide)]; rfl
    · unfold f_X12_where f_X12_where_L26
      rw [h.isBM hx1 (jup M 0 0 1) rfl, bnd_some, if_neg h1, if_pos (by decide)]; rfl
/-- eatenAt and eater, of one kind -/
theorem eat_pair (hf : 200 ≤ n) (h : JR M) {x1 : Int} (hx1 : I32 x1) {cc cm : Nat} {f g : Int → JMem → Option (Int × JMem)}
    (hc : ∀ X : JMem, f x1 X = bnd (f_X11_whyNotEatenYet n x1 X) fun r1 M2 => letv r1 fun y3 => if jw y3 = 0 then (chk (jin x1 8) <| bnd (f_X11_answer n (M2 (68 + cc) (jw x1).toNat) M2) fun r6 M7 => some (r6, M7)) else (bnd (f_X11_refuse n y3 M2) fun r4 M5 => some (r4, M5)))
    (hg : ∀ X : JMem, g x1 X = bnd (f_X12_isBeast n x1 X) fun r1 M2 => if jw r1 = 0 then (bnd (f_X12_refuse n 1 M2) fun r7 M8 => some (r7, M8)) else (bnd (f_X12_laysWeek n M2) fun _ M4 => chk (jin x1 8) <| bnd (f_X12_orNone n (M4 cm (jw x1).toNat) M4) fun r5 M6 => some (r5, M6)))
    (hk : (cc = 7 ∧ cm = 177) ∨ (cc = 6 ∧ cm = 178)) : ∃ r M1 s M2, f x1 M = some (r, M1) ∧ g x1 M1 = some (s, M2) ∧ jw r = jw s ∧ JR M2 := by
  obtain ⟨h0, m, e5, em, eh, hP, hR, hB, lo⟩ := h.now
  have b2 : keepA (M 168) 3024 2 = M 168 2 := lo 2 (by omega)
  have b5 : keepA (M 168) 3024 5 = h0 := by rw [lo 5 (by omega)]; exact e5
  have nb := h.nb
  by_cases h1 : 0 ≤ x1 ∧ x1 < M 168 2
  · obtain ⟨b, b8, rfl⟩ := natOf (x := x1) (k := 8) (by omega) (by omega)
    have b59 : keepA (M 168) 3024 (59 + 10 * b) = M 168 (59 + 10 * b) := lo _ (by omega)
    obtain ⟨M1, a1, a2, a3, a4⟩ := c_goOn (n := n) (M := M) hf hP hR (m := m) (by omega) (x := 64) (by omega)
    have i2 : itA (keepA (M 168) 3024) m 2 = M 168 2 := by rw [itA_ne (hB.2.2.1) m 2 (by omega) (by omega), b2]
    have ref : ∀ (X : JMem) (s : Int), X 168 = M 168 → X 0 0 = s → Pf M X → ∃ M2, f_X12_laysWeek n X = some (0, M2) ∧ LO (keepA (M 168) 3024) h0 m M2 ∧ Pf M M2 ∧ M2 0 0 = s := fun X s e68 es hp => by
      obtain ⟨M2, k1, k2, k3, k4, k5, k6⟩ := q_laysWeek (n := n) (M := X) hf hB (by rw [e68]) b5 em
      exact ⟨M2, k1, k6.1, hp.trans (Pf.lays (by rw [e68]) k2 k3 k4), by rw [k3 0 (by omega) (by omega) (by omega) (by omega) (by omega)]; exact es⟩
    have goM : ∀ (X M2 : JMem), X 168 = M 168 → f_X12_laysWeek n X = some (0, M2) → g (b : Int) X = bnd (f_X12_orNone n (M2 cm b) M2) fun r5 M6 => some (r5, M6) := fun X M2 e68 k1 => by
      rw [hg, h.isBM hx1 X e68, bnd_some, if_pos h1, if_neg (by decide), k1, bnd_some, chk_pos (jin_of (by omega) (by omega) (by omega)), jwb (by omega)]
    -- it is not eaten in what is left of the week
    have no : ∀ X : JMem, X 168 = M 168 → Pf M (jup X 0 0 6) → f_X11_whyNotEatenYet n (b : Int) M = some (6, X) → ¬ (itA (keepA (M 168) 3024) m (59 + 10 * b) = 1 ∧ ¬ keepA (M 168) 3024 (59 + 10 * b) = 1) → ∃ r M1 s M2, f (b : Int) M = some (r, M1) ∧ g (b : Int) M1 = some (s, M2) ∧ jw r = jw s ∧ JR M2 := fun X e68 hp k hn => by
      have e68' : jup X 0 0 6 168 = M 168 := by rw [jup_cell (by omega)]; exact e68
      obtain ⟨M2, k1, k2, k3, k4⟩ := ref (jup X 0 0 6) 6 e68' (by rw [jup_at, if_pos ⟨rfl, rfl⟩]) hp
      have kk := k2.2.2 b b8 (by rw [b2]; omega) hn
      have ev : M2 cm b = -1 := by
        rcases hk with q | q
        · rw [q.2]; exact kk.1
        · rw [q.2]; exact kk.2
      refine Pr.fin (r := -1) (s := -1) (M1 := jup X 0 0 6) (M2 := jup M2 167 2 6) h ?_ ?_ rfl (k3.trans (Pf.st2 6)) ?_
      · rw [hc, k, bnd_some]
        simp only [letv_ap]
        rw [if_neg (by decide), q_refuse, bnd_some]
      · rw [goM _ M2 e68' k1, ev]
        unfold f_X12_orNone
        rw [if_pos rfl, q_refuseM, bnd_some, bnd_some]
      · rw [jup_cell (by omega), k4, jup_at, if_pos ⟨rfl, rfl⟩]
    by_cases he : M 168 (59 + 10 * b) = 1
    · refine no M rfl (Pf.st0 6) ?_ (fun q => q.2 (by rw [b59]; exact he))
      unfold f_X11_whyNotEatenYet
      rw [h.isB hx1, bnd_some, if_pos h1, if_neg (by decide), h.isE b8 (by omega), bnd_some, if_pos he, if_neg (by decide)]
    · by_cases he2 : itA (keepA (M 168) 3024) m (59 + 10 * b) = 1
      · obtain ⟨k, q1, q2, q3⟩ := eat_when (B := keepA (M 168) 3024) (b := b) m (by rw [b59]; exact he) he2
        have l := a4 k q1 b b8 (by rw [b2]; omega) q2 q3
        have e68 : jup M1 0 0 0 168 = M 168 := by rw [jup_cell (by omega), a2 168 (by omega)]
        obtain ⟨M2, k1, k2, k3, k4⟩ := ref (jup M1 0 0 0) 0 e68 (by rw [jup_at, if_pos ⟨rfl, rfl⟩]) ((Pf.cl a2).trans (Pf.st0 0))
        have l2 := k2.2.1 k q1 b b8 (by rw [b2]; omega) q2 q3
        have ev : M2 cm b = M1 (68 + cc) b ∧ 0 ≤ M2 cm b ∧ M2 cm b < 100 := by
          rcases hk with q | q
          · rw [q.1, q.2, l2.1, l.2, b5]; exact ⟨rfl, by omega, by omega⟩
          · rw [q.1, q.2, l2.2, l.1]
            refine ⟨rfl, ?_⟩
            -- an eater is a beast
            have hS := hB.it k (by omega)
            have o2 : offs (itA (keepA (M 168) 3024) k) (itA (keepA (M 168) 3024) k 2).toNat 2 = itA (keepA (M 168) 3024) k 2 := offs_ne (by omega)
            have k2' : itA (keepA (M 168) 3024) k 2 = M 168 2 := by rw [itA_ne (hB.2.2.1) k 2 (by omega) (by omega), b2]
            have lv2 : lvN (offs (itA (keepA (M 168) 3024) k) (itA (keepA (M 168) 3024) k 2).toNat) (itA (keepA (M 168) 3024) k 1).toNat 2 = M 168 2 := by rw [lvN_ne (by omega) _ _ (by omega), o2, k2']
            have q3' : hourA (itA (keepA (M 168) 3024) k) (59 + 10 * b) = 1 := q3
            have ex : itA (keepA (M 168) 3024) (k + 1) (65 + 10 * b) = hourA (itA (keepA (M 168) 3024) k) (65 + 10 * b) := rfl
            unfold hourA at q3'
            rw [upA_ne (by omega)] at q3'
            have w := eaN_who (A := lvN (offs (itA (keepA (M 168) 3024) k) (itA (keepA (M 168) 3024) k 2).toNat) (itA (keepA (M 168) 3024) k 1).toNat) (b := b) (by rw [lv2]; omega) (by rw [lvN_ne (by omega) _ _ (by omega), offs_ne (by omega)]; exact q2) (by rw [lv2, ← k2']; exact q3')
            obtain ⟨w1, o, w2, w3, w4, w5, w6⟩ := w
            rw [lv2] at w2 w6
            rw [ex]
            unfold hourA
            rw [upA_ne (by omega), k2']
            rw [k2'] at w6
            rw [w6]
            omega
        refine Pr.fin (r := M1 (68 + cc) b) (s := M1 (68 + cc) b) (M1 := jup M1 0 0 0) (M2 := jup M2 167 2 0) h ?_ ?_ rfl (k3.trans (Pf.st2 0)) ?_
        · rw [hc]
          unfold f_X11_whyNotEatenYet
          rw [h.isB hx1, bnd_some, if_pos h1, if_neg (by decide), h.isE b8 (by omega), bnd_some, if_neg he, if_pos (by decide), a1, bnd_some, q_isE a3 b8 (by rw [i2]; omega), bnd_some, if_pos he2, if_neg (by decide), bnd_some]
          simp only [letv_ap]
          rw [if_pos (by decide), chk_pos (jin_of (by omega) (by omega) (by omega)), jwb (by omega), q_answer, bnd_some]
        · rw [goM _ M2 e68 k1]
          unfold f_X12_orNone
          rw [if_neg (by rw [jw_of (x := M2 cm b) (by omega) (by omega), show jw (-1) = -1 by decide]; omega), q_gives, bnd_some, bnd_some, ev.1]
        · rw [jup_cell (by omega), k4, jup_at, if_pos ⟨rfl, rfl⟩]
      · refine no M1 (a2 168 (by omega)) ((Pf.cl a2).trans (Pf.st0 6)) ?_ (fun q => he2 q.1)
        unfold f_X11_whyNotEatenYet
        rw [h.isB hx1, bnd_some, if_pos h1, if_neg (by decide), h.isE b8 (by omega), bnd_some, if_neg he, if_pos (by decide), a1, bnd_some, q_isE a3 b8 (by rw [i2]; omega), bnd_some, if_neg he2, if_pos (by decide)]
  · refine Pr.end (f := f x1) (g := g x1) (r := -1) (s := -1) (x := 1) (y := 1) h ?_ ?_ rfl rfl
    · rw [hc]
      unfold f_X11_whyNotEatenYet
      rw [h.isB hx1, bnd_some, if_neg h1, if_pos (by decide), bnd_some]
      simp only [letv_ap]
      rw [if_neg (by decide)]; rfl
    · rw [hg, h.isBM hx1 (jup M 0 0 1) rfl, bnd_some, if_neg h1, if_pos (by decide)]; rfl
theorem p_eatenAt (hf : 200 ≤ n) : jO_eatenAt JR n := fun x1 hx1 M h => eat_pair (f := f_X11_eatenAt n) (g := f_X12_eatenAt n) (cc := 7) (cm := 177) hf h hx1 (fun X => rfl) (fun X => rfl) (Or.inl ⟨rfl, rfl⟩)
theorem p_eater (hf : 200 ≤ n) : jO_eater JR n := fun x1 hx1 M h => eat_pair (f := f_X11_eater n) (g := f_X12_eater n) (cc := 6) (cm := 178) hf h hx1 (fun X => rfl) (fun X => rfl) (Or.inr ⟨rfl, rfl⟩)
theorem p_lateBy (hf : 200 ≤ n) : jO_lateBy JR n := by
  intro M h
  obtain ⟨h0, m, e5, em, eh, hP, hR, hB, lo⟩ := h.now
  have b5 : keepA (M 168) 3024 5 = h0 := by rw [lo 5 (by omega)]; exact e5
  obtain ⟨M1, a1, a2, a3, a4⟩ := c_goOn (n := n) (M := M) hf hP hR (m := m) (by omega) (x := 64) (by omega)
  have i2 : itA (keepA (M 168) 3024) m 2 = keepA (M 168) 3024 2 := itA_ne (hB.2.2.1) m 2 (by omega) (by omega)
  have hPm : RP (blk M1 40 12) (itA (keepA (M 168) 3024) m) := by
    rw [blk_congr (by decide) (M := M) (M' := M1) (a := 40) (z := 12) (fun j hj => a2 _ (by omega))]
    exact hP.same (fun i q1 q2 => itA_ne hB.2.2.1 m i q1 q2)
  obtain ⟨r, M2, c1, c2, c3, c4, c5⟩ := c_fetch (n := n) (M := M1) (th := 68) (p := 40) (by omega) (by omega) hPm a3
  have a2' : ∀ c : Nat, c < 68 ∨ 76 ≤ c → M2 c = M c := fun c hc => by rw [c2 c hc, a2 c hc]
  have e68 : jup M2 0 0 0 168 = M 168 := by rw [jup_cell (by omega), a2' 168 (by omega)]
  obtain ⟨M3, k1, k2, k3, k4, k5, k6, k7, k8⟩ := q_laysWeek (n := n) (M := jup M2 0 0 0) hf hB (by rw [e68]) b5 em
  have er : r = M3 167 27 := S8.ext c3 k7 fun b b8 => by rw [Bool.eq_iff_iff, c4 b b8, k8 b b8, i2]
  refine Pr.fin (r := r) (s := r) (M1 := jup M2 0 0 0) (M2 := jup M3 167 2 0) h ?_ ?_ rfl ((((Pf.cl a2').trans (Pf.st0 0)).trans (Pf.lays (by rw [e68]) k2 k3 k4)).trans (Pf.st2 0)) ?_
  · unfold f_X11_lateBy
    rw [a1, bnd_some, c1, bnd_some, q_answer, bnd_some]
  · unfold f_X12_lateBy
    rw [k1, bnd_some, q_gives, bnd_some, ← er]
  · rw [jup_cell (by omega), k3 0 (by omega) (by omega) (by omega) (by omega) (by omega), jup_at, if_pos ⟨rfl, rfl⟩, jup_at, if_pos ⟨rfl, rfl⟩]
end PWHERE

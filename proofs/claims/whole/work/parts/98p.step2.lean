section PSTEP2
variable {n : Nat} {M X : JMem}
theorem q_does_no {k : Nat} (hk : k < 60) {v : Int} (hv : X 168 (136 + 6 * k) = v) (h : 20 ≤ v ∧ v ≤ 2030) : f_X12_does n (136 + 6 * (k : Int)) X = some (1, X) := by
  have j : jw v = v := jw_of (by omega) (by omega)
  unfold f_X12_does
  simp only [letv_ap]
  rw [chk_pos (ij1 hk), chk_pos (ij0 hk), ir0 hk, hv, j, if_neg (by omega), if_neg (by omega), if_neg (by omega), if_neg (by omega), if_neg (by omega), if_neg (by omega)]
theorem lv_step {th nw : Nat} (hf : 100 ≤ n) (ht : LT th nw) (h : LJ th nw M X) (hW : WJ M (X 168)) {k : Nat} (hk : k < 60) (hkr : (k : Int) < M 60 2) (h25 : ¬ M 61 k = 25) (h26 : ¬ M 61 k = 26) (h3 : M th 3 = ((k + 1 : Nat) : Int)) : LStep n th nw k M X := by
  have ht' := ht
  unfold LT at ht'
  have hr := hW.2.2.2.2.1 k hk hkr
  have hr' := hr
  have hA := h.1
  have e0 : M 40 0 = X 168 0 := hA.1.1
  have e1 : M 40 1 = X 168 1 := hA.2.1.1
  have e2 : M 40 2 = X 168 2 := hA.2.2.1.1
  have s1 := hA.2.1.2
  have s2 := hA.2.2.1.2
  unfold Rrow at hr
  simp only [bw1, bw2, bw3] at hr
  have jk : jin (k : Int) 60 := jin_of (by omega) (by omega) (by omega)
  have jk80 : jin (k : Int) 80 := jin_of (by omega) (by omega) (by omega)
  have nk : (jw (k : Int)).toNat = k := jwb (by omega)
  by_cases ctest : 21 ≤ M 61 k ∧ M 61 k ≤ 23
  · obtain ⟨r, a1, a2, a3, a4, a5⟩ := lv_so (n := n) ht h hk hr' ctest
    obtain ⟨e, g1, g2, g3, g4, g5, g6⟩ := hW.2.2.2.2.2.1 k hk hkr (op_of.2 (by omega))
    have hdone : f_X0_isDone n th 40 nw 60 (k : Int) M = f_X0_isDone_L181 n th 40 nw 60 (k : Int) M := by
      unfold f_X0_isDone
      simp only [letv_ap]
      have w1 : jw (M (60 + 1) k) = M 61 k := jw_of (x := M 61 k) (by omega) (by omega)
      have c24 : jw 24 = 24 := by decide
      rw [chk_pos jk, chk_pos jk, nk, w1, if_neg (by omega), if_neg (by omega), if_neg (by omega), if_neg (by omega), if_neg (by omega), if_neg (by omega), if_neg (by omega), if_neg (by omega)]
    have hd := q_does_no (n := n) hk (v := X 168 (136 + 6 * k)) rfl ⟨by omega, a5⟩
    have jv : jw (X 168 (136 + 6 * k)) = X 168 (136 + 6 * k) := jw_of (by omega) (by omega)
    have n21 : ¬ jw (X 168 (136 + 6 * k)) = jw 21 := by rw [jv, show jw 21 = 21 by decide]; omega
    have n2000 : ¬ jw (X 168 (136 + 6 * k)) < jw 2000 := by rw [jv, show jw 2000 = 2000 by decide]; omega
    have hJ2 : LJ th nw M (jup X 184 0 (X 184 0 + 0)) := h.cntX (by omega)
    have e184 : ∀ c j : Nat, c ≠ 184 → jup X 184 0 (X 184 0 + 0) c j = X c j := fun c j hc => by rw [jup_cell hc]
    obtain ⟨r', b1, b2, b3, -⟩ := lv_so (n := n) (M := M) (X := jup X 184 0 (X 184 0 + 0)) ht hJ2 hk (hr'.congr2 fun j hj => by rw [e184 _ _ (by omega)]) ctest
    have err : r' = r := by
      have := a1.symm.trans b1
      simpa using (congrArg (fun o => o.map Prod.fst) this).symm
    subst err
    rcases a3 with rfl | rfl
    · refine ⟨e + 1, jup M th 3 (((e + 1 : Nat)) : Int), jup X 184 0 (X 184 0 + 0), fun v5 r => ?_, fun r => ?_, ?_, ?_, ⟨fun c c1 c2 c3 c4 => ?_, ?_⟩, ⟨fun c c1 c2 c3 c4 => ?_, fun j hj => ?_, fun i hi => ?_⟩, Or.inr ⟨ctest, ?_⟩, fun j => ?_, fun j => ?_, fun q => ?_⟩
      · rw [hdone]
        unfold f_X0_isDone_L181 f_X0_run_L146
        simp only [letv_ap, letm_ap]
        rw [a1, bnd_some, if_pos (by decide), chk_pos jk, nk, bnd_some, if_neg (by decide), show M (60 + 4) k = (e : Int) from g1, show (e : Int) + 1 = ((e + 1 : Nat) : Int) by omega]
      · rw [hd, bnd_some, if_neg (by decide), jn0, q_112 hk rfl n21]
        unfold f_X12_lives_L141
        rw [chk_pos (ij0 hk), ir0 hk, e184 _ _ (by omega), if_neg n2000, b2, bnd_some, if_pos (by decide), chk_pos (ij4 hk), ir4 hk, q_178, e184 _ _ (by omega), g2, show (e : Int) + 1 = ((e + 1 : Nat) : Int) by omega]
      · rw [jup_if, if_pos rfl]
      · obtain ⟨u1, u2, u3, u4⟩ := hJ2
        refine ⟨?_, ?_, ?_, fun k k5 => ?_⟩
        · rw [blk_jup_row (fun j hj => by omega) (by decide)]; exact u1
        · rw [blk_jup_row (fun j hj => by omega) (by decide)]; exact u2
        · rw [jup_if, if_neg (by omega)]; exact u3
        · rw [jup_cell (by omega)]; exact u4 k k5
      · rw [jup_cell c1]
      · rw [jup_if, if_neg (by omega)]
      · rw [jup_cell c4]
      · rw [jup_cell (by omega)]
      · rw [jup_cell (by omega)]
      · rw [g1]; omega
      · rw [jup_cell (by omega), if_neg (fun q => by omega)]
      · rw [jup_cell (by omega), if_neg (fun q => by omega)]
      · omega
    · refine ⟨k + 1, M, jup X 184 0 (X 184 0 + 0), fun v5 r => ?_, fun r => ?_, h3, hJ2, (LF.refl th nw).lc, ⟨fun c c1 c2 c3 c4 => ?_, fun j hj => ?_, fun i hi => ?_⟩, Or.inl rfl, fun j => ?_, fun j => ?_, fun q => ?_⟩
      · rw [hdone]
        unfold f_X0_isDone_L181 f_X0_run_L146
        simp only [letv_ap, letm_ap]
        rw [a1, bnd_some, if_neg (by decide), bnd_some, if_neg (by decide)]
      · rw [hd, bnd_some, if_neg (by decide), jn0, q_112 hk rfl n21]
        unfold f_X12_lives_L141 f_X12_lives_L175
        rw [chk_pos (ij0 hk), ir0 hk, e184 _ _ (by omega), if_neg n2000, b2, bnd_some, if_neg (by decide), q_178, show (k : Int) + 1 = ((k + 1 : Nat) : Int) by omega]
      · rw [jup_cell c4]
      · rw [jup_cell (by omega)]
      · rw [jup_cell (by omega)]
      · rw [if_neg (fun q => by omega)]
      · rw [jup_cell (by omega), if_neg (fun q => by omega)]
      · omega
  · rcases hr with q | q | q | q | q | q | q | q | q | q | q | q
    · obtain ⟨q1, q2, q3, q4, q5⟩ := q
      obtain ⟨m, m65, em⟩ := natOf (x := M 62 k) (k := 65) (by omega) (by omega)
      refine LVS.step ht hk ((lv_hours hf ht h (m := m) (by omega) (by omega)).ck ?_ ?_) q2 (by decide) (by decide) (by omega) h3
      · unfold f_X0_isDone
        simp only [letv_ap]
        rw [chk_pos jk, chk_pos jk, nk, show M (60 + 1) k = 14 from q1, if_pos (by decide), show M (60 + 2) k = (m : Int) from em]
      · unfold f_X12_does
        simp only [letv_ap]
        rw [chk_pos (ij1 hk), chk_pos (ij0 hk), ir0 hk, q2, if_pos (by decide), ir1 hk, ← q3, em]
    · obtain ⟨q1, q2⟩ := q
      refine LVS.step ht hk ((lv_monday hf ht h).ck ?_ ?_) q2 (by decide) (by decide) (by omega) h3
      · unfold f_X0_isDone
        simp only [letv_ap]
        rw [chk_pos jk, chk_pos jk, nk, show M (60 + 1) k = 15 from q1, if_neg (by decide), if_pos (by decide)]
      · unfold f_X12_does
        simp only [letv_ap]
        rw [chk_pos (ij1 hk), chk_pos (ij0 hk), ir0 hk, q2, if_neg (by decide), if_pos (by decide)]
    · obtain ⟨q1, q2, q3, q4, q5, q6, q7, q8⟩ := q
      obtain ⟨b, b8, eb⟩ := natOf (x := M 62 k) (k := 8) q5 (by omega)
      obtain ⟨o, o8, eo⟩ := natOf (x := M 63 k) (k := 8) q7 (by omega)
      refine LVS.step ht hk ((lv_buy (n := n) ht h b8 (by omega) o8 (by omega)).ck2 ?_ ?_) q2 (by decide) (by decide) (by omega) h3
      · unfold f_X0_isDone
        simp only [letv_ap]
        rw [chk_pos jk, chk_pos jk, nk, show M (60 + 1) k = 16 from q1, if_neg (by decide), if_neg (by decide), if_pos (by decide), show M (60 + 2) k = (b : Int) from eb, q_isE h.2.1 b8 (by omega), bnd_some, bnd_some, chk_pos jk, show M (60 + 3) k = (o : Int) from eo]
      · unfold f_X12_does
        simp only [letv_ap]
        rw [chk_pos (ij1 hk), chk_pos (ij0 hk), ir0 hk, q2, if_neg (by decide), if_neg (by decide), if_pos (by decide), chk_pos (ij2 hk), ir1 hk, ir2 hk, ← q3, eb, ← q4, eo]
    · obtain ⟨q1, q2, q3, q4, q5⟩ := q
      obtain ⟨b, b8, eb⟩ := natOf (x := M 62 k) (k := 8) q4 (by omega)
      refine LVS.step ht hk ((lv_let (n := n) ht h b8 (by omega)).ck2 ?_ ?_) q2 (by decide) (by decide) (by omega) h3
      · unfold f_X0_isDone
        simp only [letv_ap]
        rw [chk_pos jk, chk_pos jk, nk, show M (60 + 1) k = 17 from q1, if_neg (by decide), if_neg (by decide), if_neg (by decide), if_pos (by decide), show M (60 + 2) k = (b : Int) from eb]
      · unfold f_X12_does
        simp only [letv_ap]
        rw [chk_pos (ij1 hk), chk_pos (ij0 hk), ir0 hk, q2, if_neg (by decide), if_neg (by decide), if_neg (by decide), if_pos (by decide), ir1 hk, ← q3, eb]
    · obtain ⟨q1, q2, q3, q4, q5⟩ := q
      obtain ⟨b, b8, eb⟩ := natOf (x := M 62 k) (k := 8) q4 (by omega)
      refine LVS.step ht hk ((lv_halt (n := n) ht h b8 (by omega)).ck2 ?_ ?_) q2 (by decide) (by decide) (by omega) h3
      · unfold f_X0_isDone
        simp only [letv_ap]
        rw [chk_pos jk, chk_pos jk, nk, show M (60 + 1) k = 18 from q1, if_neg (by decide), if_neg (by decide), if_neg (by decide), if_neg (by decide), if_pos (by decide), show M (60 + 2) k = (b : Int) from eb]
      · unfold f_X12_does
        simp only [letv_ap]
        rw [chk_pos (ij1 hk), chk_pos (ij0 hk), ir0 hk, q2, if_neg (by decide), if_neg (by decide), if_neg (by decide), if_neg (by decide), if_pos (by decide), ir1 hk, ← q3, eb]
    · obtain ⟨q1, q2⟩ := q
      refine LVS.step ht hk ((lv_any hf ht h).ck ?_ ?_) q2 (by decide) (by decide) (by omega) h3
      · unfold f_X0_isDone
        simp only [letv_ap]
        rw [chk_pos jk, chk_pos jk, nk, show M (60 + 1) k = 19 from q1, if_neg (by decide), if_neg (by decide), if_neg (by decide), if_neg (by decide), if_neg (by decide), if_pos (by decide)]
      · unfold f_X12_does
        simp only [letv_ap]
        rw [chk_pos (ij1 hk), chk_pos (ij0 hk), ir0 hk, q2, if_neg (by decide), if_neg (by decide), if_neg (by decide), if_neg (by decide), if_neg (by decide), if_pos (by decide)]
    · omega
    · omega
    · omega
    · omega
    · obtain ⟨q1, q2, q3, q4, q5⟩ := q
      have n21 : jw (X 168 (136 + 6 * k)) = jw 21 := by rw [q2]
      refine ⟨k + 1, jup M (th + 2) k (M 62 k), jup (jup X 184 0 (X 184 0 + 0)) 183 k (M 62 k - 1), fun v5 r => ?_, fun r => ?_, ?_, ?_, ⟨fun c c1 c2 c3 c4 => ?_, ?_⟩, ⟨fun c c1 c2 c3 c4 => ?_, fun j hj => ?_, fun i hi => ?_⟩, Or.inl rfl, fun j => ?_, fun j => ?_, fun q => ⟨q4, q5⟩⟩
      · unfold f_X0_isDone f_X0_run_L146
        simp only [letv_ap, letm_ap]
        rw [chk_pos jk, chk_pos jk, nk, show M (60 + 1) k = 24 from q1, if_neg (by decide), if_neg (by decide), if_neg (by decide), if_neg (by decide), if_neg (by decide), if_neg (by decide), if_pos (by decide), chk_pos jk, bnd_some, if_neg (by decide)]
      · rw [q_does_no hk q2 (by omega), bnd_some, if_neg (by decide), jn0]
        unfold f_X12_lives_L112
        simp only [letm_ap, jn0]
        rw [chk_pos (by decide), chk_pos (ij0 hk), ir0 hk, show jup X 184 0 (X 184 0 + 0) 168 (136 + 6 * k) = X 168 (136 + 6 * k) by rw [jup_cell (by omega)], if_pos n21, chk_pos (ij1 hk), ir1 hk, chk_pos jk80, nk, show jup X 184 0 (X 184 0 + 0) 168 (137 + 6 * k) = M 62 k by rw [jup_cell (by omega)]; exact q3.symm, q_141 hk (v := 21) (by rw [jup_cell (by omega), jup_cell (by omega)]; exact q2) (by decide)]
      · rw [jup_cell (by omega)]; exact h3
      · obtain ⟨u1, u2, u3, u4⟩ := h
        refine ⟨?_, ?_, ?_, fun k k5 => ?_⟩
        · rw [jup_cell (by omega), jup_cell (by omega), blk_jup_row (fun j hj => by omega) (by decide)]; exact u1
        · rw [jup_cell (by omega), jup_cell (by omega), blk_jup_row (fun j hj => by omega) (by decide)]; exact u2
        · rw [jup_cell (by omega), jup_cell (by omega), jup_cell (by omega)]; exact u3
        · rw [jup_cell (by omega), jup_cell (by omega), jup_if]
          by_cases z : k = 0
          · rw [if_pos z, z, Int.add_zero]; exact u4 0 (by omega)
          · rw [if_neg z]; exact u4 k k5
      · rw [jup_cell c3]
      · rw [jup_cell (by omega)]
      · rw [jup_cell c3, jup_cell c4]
      · rw [jup_cell (by omega), jup_cell (by omega)]
      · rw [jup_cell (by omega), jup_cell (by omega)]
      · rw [jup_if]
        by_cases z : j = k
        · rw [if_pos z, if_pos ⟨q1, z⟩]
        · rw [if_neg z, if_neg (fun w => z w.2)]
      · rw [jup_if, jup_cell (by omega)]
        by_cases z : j = k
        · rw [if_pos z, if_pos ⟨q1, z⟩]
        · rw [if_neg z, if_neg (fun w => z w.2)]
    · omega
end PSTEP2

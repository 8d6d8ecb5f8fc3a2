section PMARK
variable {n : Nat} {M : JMem}
/-! marks -/
def PlanEq (M : JMem) (p : Nat) (M' : JMem) (p' : Nat) : Prop := (∀ k : Nat, k < 5 → M' p' k = M p k) ∧ (∀ j k : Nat, 1 ≤ j → j < 4 → k < 22 → M' (p' + j) k = M (p + j) k) ∧ ∀ j k : Nat, 4 ≤ j → j < 12 → k < 8 → M' (p' + j) k = M (p + j) k
def NowEq (M : JMem) (p : Nat) (M' : JMem) (p' : Nat) : Prop := (∀ k : Nat, k < 5 → M' p' k = M p k) ∧ ∀ j k : Nat, 0 < j → j < 8 → k < (if j = 3 then 6 else 8) → M' (p' + j) k = M (p + j) k
def WeeksEq (M : JMem) (p : Nat) (M' : JMem) (p' : Nat) : Prop := (∀ k : Nat, k < 3 → M' p' k = M p k) ∧ ∀ j k : Nat, 1 ≤ j → j < 5 → k < 60 → M' (p' + j) k = M (p + j) k
theorem RP.congr3 {P P' : JV} {A : Nat → Int} (h : RP P A) (h0 : ∀ k : Nat, k < 4 → P' 0 k = P 0 k) (h1 : ∀ j k : Nat, 4 ≤ j → j < 12 → k < 8 → P' j k = P j k) : RP P' A := by
  unfold RP at h ⊢
  obtain ⟨q0, q1, q2, q3, q4, q5, q6⟩ := h
  rw [h0 0 (by omega), h0 1 (by omega), h0 2 (by omega), h0 3 (by omega)]
  refine ⟨q0, q1, q2, q3, q4, fun t t8 hl => ?_, fun b b8 hl => ?_⟩
  · rw [h1 4 t (by omega) (by omega) t8, h1 5 t (by omega) (by omega) t8, h1 6 t (by omega) (by omega) t8, h1 7 t (by omega) (by omega) t8, h1 8 t (by omega) (by omega) t8]
    exact q5 t t8 hl
  · rw [h1 9 b (by omega) (by omega) b8, h1 10 b (by omega) (by omega) b8, h1 11 b (by omega) (by omega) b8]
    exact q6 b b8 hl
theorem RK.congr3 {P P' : JV} {K K' : Nat → Int} {A : Nat → Int} (h : RK P K) (hP : RP P A) (h0 : ∀ k : Nat, k < 5 → P' 0 k = P 0 k) (h1 : ∀ j k : Nat, 1 ≤ j → j < 4 → k < 22 → P' j k = P j k) (hK : ∀ k : Nat, k < 22 → K' k = K k) : RK P' K' := by
  have n0 : 0 ≤ P 0 0 ∧ P 0 0 ≤ 6 := by rw [hP.1.1]; exact hP.1.2
  have n1 : 0 ≤ P 0 1 ∧ P 0 1 ≤ 8 := by rw [hP.2.1.1]; exact hP.2.1.2
  have n2 : 0 ≤ P 0 2 ∧ P 0 2 ≤ 8 := by rw [hP.2.2.1.1]; exact hP.2.2.1.2
  unfold RK at h ⊢
  rw [h0 0 (by omega), h0 1 (by omega), h0 2 (by omega), h0 4 (by omega)]
  obtain ⟨q0, nw, q1, q2, q3, q4, q5, q6⟩ := h
  refine ⟨q0, nw, fun i hi => ?_, q2, fun i hi => ?_, fun k hk => ?_, fun k hk => ?_, fun k hk => ?_⟩
  · rw [h1 1 i (by omega) (by omega) (by omega)]; exact q1 i hi
  · rw [h1 2 i (by omega) (by omega) (by omega), h1 3 i (by omega) (by omega) (by omega)]
    rcases q3 i hi with r | r | r
    · exact Or.inl ⟨r.1, r.2.1, r.2.2.1, by rw [hK _ (by omega)]; exact r.2.2.2⟩
    · exact Or.inr (Or.inl ⟨r.1, r.2.1, r.2.2.1, by rw [hK _ (by omega)]; exact r.2.2.2⟩)
    · exact Or.inr (Or.inr ⟨r.1, r.2.1, r.2.2.1, by rw [hK _ (by omega)]; exact r.2.2.2⟩)
  · obtain ⟨i, r1, r2, r3⟩ := q4 k hk
    exact ⟨i, r1, by rw [h1 2 i (by omega) (by omega) (by omega)]; exact r2, by rw [h1 3 i (by omega) (by omega) (by omega)]; exact r3⟩
  · obtain ⟨i, r1, r2, r3⟩ := q5 k hk
    exact ⟨i, r1, by rw [h1 2 i (by omega) (by omega) (by omega)]; exact r2, by rw [h1 3 i (by omega) (by omega) (by omega)]; exact r3⟩
  · obtain ⟨i, r1, r2, r3⟩ := q6 k hk
    exact ⟨i, r1, by rw [h1 2 i (by omega) (by omega) (by omega)]; exact r2, by rw [h1 3 i (by omega) (by omega) (by omega)]; exact r3⟩
theorem RW.congr3 {nb nt np : Int} {W W' : JV} {A : Nat → Int} (h : RW nb nt np W A) (h0 : W' 0 0 = W 0 0 ∧ W' 0 2 = W 0 2) (h1 : ∀ j k : Nat, 1 ≤ j → j < 5 → k < 60 → W' j k = W j k) : RW nb nt np W' A := by
  unfold RW at h ⊢
  rw [h0.1, h0.2]
  refine h.imp id fun ⟨a1, a2, a3, a4, a5, a6, a7, a8⟩ => ⟨a1, a2, a3, a4, fun k k6 hk => ?_, fun k k6 hk ho => ?_, fun e e6 he hw => ?_, fun k j kj hj hk ho1 ho2 => ?_⟩
  · have r := a5 k k6 hk
    unfold Rrow at r ⊢
    rw [h1 1 k (by omega) (by omega) k6, h1 2 k (by omega) (by omega) k6, h1 3 k (by omega) (by omega) k6]
    exact r
  · unfold opens at ho
    rw [h1 1 k (by omega) (by omega) k6] at ho
    obtain ⟨e, e1, e2, e3, e4, e5, e6⟩ := a6 k k6 hk ho
    exact ⟨e, by rw [h1 4 k (by omega) (by omega) k6]; exact e1, e2, e3, e4, by rw [h1 1 e (by omega) (by omega) (by omega)]; exact e5, by rw [h1 4 e (by omega) (by omega) (by omega)]; exact e6⟩
  · rw [h1 1 e (by omega) (by omega) e6] at hw
    obtain ⟨k, k1, k2, k3, k4, k5⟩ := a7 e e6 he hw
    exact ⟨k, by rw [h1 4 e (by omega) (by omega) e6]; exact k1, k2, k3, by unfold opens; rw [h1 1 k (by omega) (by omega) (by omega)]; exact k4, by rw [h1 4 k (by omega) (by omega) (by omega)]; exact k5⟩
  · unfold opens at ho1 ho2
    rw [h1 1 k (by omega) (by omega) (by omega)] at ho1
    rw [h1 4 k (by omega) (by omega) (by omega)] at hj ⊢
    obtain ⟨e, e1, e2, e3, e4, e5, e6⟩ := a6 k (by omega) hk ho1
    rw [h1 1 j (by omega) (by omega) (by omega)] at ho2
    rw [h1 4 j (by omega) (by omega) (by omega)]
    exact a8 k j kj hj hk ho1 ho2
theorem Rpark.gen {M M' : JMem} {p nw w s kn p' nw' w' s' kn' : Nat} (h : Rpark M p nw w s kn) (h1 : PlanEq M p M' p') (h2 : NowEq M nw M' nw') (h3 : WeeksEq M w M' w') (h4 : ∀ k : Nat, k < 504 → M' 168 (s' + k) = M 168 (s + k)) (h5 : ∀ k : Nat, k < 22 → M' 169 (kn' + k) = M 169 (kn + k)) : Rpark M' p' nw' w' s' kn' := by
  unfold Rpark at h ⊢
  obtain ⟨q1, q2, q3, q4⟩ := h
  have es : ∀ k : Nat, k < 504 → slot M' s' k = slot M s k := h4
  have r1 : RP (blk M' p' 12) (slot M s) := q1.congr3 (fun k hk => by rw [blk_at (by omega), blk_at (by omega)]; exact h1.1 k (by omega)) (fun j k j1 j2 hk => by rw [blk_at j2, blk_at j2]; exact h1.2.2 j k j1 j2 hk)
  have r2 : RN (blk M' nw' 8) (slot M s) := q2.congr3 (fun k hk => by rw [blk_at (by omega), blk_at (by omega)]; exact h2.1 k hk) (fun k hk => ⟨?_, ?_, ?_, ?_⟩) (fun k hk => ?_)
  · refine ⟨r1.low (fun k hk => es k (by omega)), r2.low (fun k hk => es k (by omega)), ?_, ?_⟩
    · refine q3.congr3 q1 (fun k hk => by rw [blk_at (by omega), blk_at (by omega)]; exact h1.1 k hk) (fun j k j1 j2 hk => by rw [blk_at (by omega), blk_at (by omega)]; exact h1.2.1 j k j1 j2 hk) h5
    · rw [h1.1 2 (by omega), h1.1 1 (by omega), h1.1 0 (by omega)]
      have r4 : RW (M p 2) (M p 1) (M p 0) (blk M' w' 5) (slot M s) := q4.congr3 ⟨by rw [blk_at (by omega), blk_at (by omega)]; exact h3.1 0 (by omega), by rw [blk_at (by omega), blk_at (by omega)]; exact h3.1 2 (by omega)⟩ (fun j k j1 j2 hk => by rw [blk_at j2, blk_at j2]; exact h3.2 j k j1 j2 hk)
      exact r4.congr2 (es 7 (by omega)) (fun k j hk hj => es _ (by omega))
  · rw [blk_at (by omega), blk_at (by omega)]; exact h2.2 1 k (by omega) (by omega) (by simpa using hk)
  · rw [blk_at (by omega), blk_at (by omega)]; exact h2.2 2 k (by omega) (by omega) (by simpa using hk)
  · rw [blk_at (by omega), blk_at (by omega)]; exact h2.2 4 k (by omega) (by omega) (by simpa using hk)
  · rw [blk_at (by omega), blk_at (by omega)]; exact h2.2 5 k (by omega) (by omega) (by simpa using hk)
  · rw [blk_at (by omega), blk_at (by omega)]; exact h2.2 3 k (by omega) (by omega) (by simpa using hk)
theorem c_copyPlan {th p : Nat} (hs : p + 12 ≤ th ∨ th + 12 ≤ p) : ∃ M', f_X4_copyFrom n th p M = some (0, M') ∧ (∀ c : Nat, c < th ∨ th + 12 ≤ c → M' c = M c) ∧ (∀ j : Nat, j < 5 → M' th j = M p j) ∧ (∀ k j : Nat, 1 ≤ k → k < 4 → j < 22 → M' (th + k) j = M (p + k) j) ∧ (∀ k j : Nat, 4 ≤ k → k < 12 → j < 8 → M' (th + k) j = M (p + k) j) := by
  unfold f_X4_copyFrom
  simp only [letv_ap, letm_ap]
  rw [chk_pos jcpok22, chk_pos jcpok22, chk_pos jcpok22, chk_pos jcpok8, chk_pos jcpok8, chk_pos jcpok8, chk_pos jcpok8, chk_pos jcpok8, chk_pos jcpok8, chk_pos jcpok8, chk_pos jcpok8]
  rw [jcpy22, jcpy22, jcpy22, jcpy8, jcpy8, jcpy8, jcpy8, jcpy8, jcpy8, jcpy8, jcpy8]
  have e : ∀ (X : JMem) (i : Nat) (v : Int) (c : Nat), c ≠ th → jup X th i v c = X c := fun X i v c hc => jup_cell hc
  have f : ∀ (X : JMem) (a b l c : Nat), c ≠ b → cp X a b l c = X c := fun X a b l c hc => cp_ne hc
  refine ⟨_, rfl, fun c hc => ?_, fun j hj => ?_, fun k j k0 k8 hj => ?_, fun k j k0 k8 hj => ?_⟩
  · rw [f _ _ _ _ _ (by omega), f _ _ _ _ _ (by omega), f _ _ _ _ _ (by omega), f _ _ _ _ _ (by omega), f _ _ _ _ _ (by omega), f _ _ _ _ _ (by omega), f _ _ _ _ _ (by omega), f _ _ _ _ _ (by omega), f _ _ _ _ _ (by omega), f _ _ _ _ _ (by omega), f _ _ _ _ _ (by omega), e _ _ _ _ (by omega), e _ _ _ _ (by omega), e _ _ _ _ (by omega), e _ _ _ _ (by omega), e _ _ _ _ (by omega)]
  · rw [f _ _ _ _ _ (by omega), f _ _ _ _ _ (by omega), f _ _ _ _ _ (by omega), f _ _ _ _ _ (by omega), f _ _ _ _ _ (by omega), f _ _ _ _ _ (by omega), f _ _ _ _ _ (by omega), f _ _ _ _ _ (by omega), f _ _ _ _ _ (by omega), f _ _ _ _ _ (by omega), f _ _ _ _ _ (by omega)]
    have ep : ∀ (X : JMem) (i : Nat) (v : Int), jup X th i v p = X p := fun X i v => jup_cell (by omega)
    rw [ep, ep, ep, ep, ep, ep, ep, ep, ep, ep]
    have hj' : j = 0 ∨ j = 1 ∨ j = 2 ∨ j = 3 ∨ j = 4 := by omega
    rcases hj' with rfl | rfl | rfl | rfl | rfl <;> simp only [jup_at] <;> simp
  · have hk : k = 1 ∨ k = 2 ∨ k = 3 := by omega
    rcases hk with rfl | rfl | rfl
    · rw [f _ _ _ _ _ (by omega), f _ _ _ _ _ (by omega), f _ _ _ _ _ (by omega), f _ _ _ _ _ (by omega), f _ _ _ _ _ (by omega), f _ _ _ _ _ (by omega), f _ _ _ _ _ (by omega), f _ _ _ _ _ (by omega), f _ _ _ _ _ (by omega), f _ _ _ _ _ (by omega), cp_eq hj, e _ _ _ _ (by omega), e _ _ _ _ (by omega), e _ _ _ _ (by omega), e _ _ _ _ (by omega), e _ _ _ _ (by omega)]
    · rw [f _ _ _ _ _ (by omega), f _ _ _ _ _ (by omega), f _ _ _ _ _ (by omega), f _ _ _ _ _ (by omega), f _ _ _ _ _ (by omega), f _ _ _ _ _ (by omega), f _ _ _ _ _ (by omega), f _ _ _ _ _ (by omega), f _ _ _ _ _ (by omega), cp_eq hj, f _ _ _ _ _ (by omega), e _ _ _ _ (by omega), e _ _ _ _ (by omega), e _ _ _ _ (by omega), e _ _ _ _ (by omega), e _ _ _ _ (by omega)]
    · rw [f _ _ _ _ _ (by omega), f _ _ _ _ _ (by omega), f _ _ _ _ _ (by omega), f _ _ _ _ _ (by omega), f _ _ _ _ _ (by omega), f _ _ _ _ _ (by omega), f _ _ _ _ _ (by omega), f _ _ _ _ _ (by omega), cp_eq hj, f _ _ _ _ _ (by omega), f _ _ _ _ _ (by omega), e _ _ _ _ (by omega), e _ _ _ _ (by omega), e _ _ _ _ (by omega), e _ _ _ _ (by omega), e _ _ _ _ (by omega)]
  · have hk : k = 4 ∨ k = 5 ∨ k = 6 ∨ k = 7 ∨ k = 8 ∨ k = 9 ∨ k = 10 ∨ k = 11 := by omega
    rcases hk with rfl | rfl | rfl | rfl | rfl | rfl | rfl | rfl
    · rw [f _ _ _ _ _ (by omega), f _ _ _ _ _ (by omega), f _ _ _ _ _ (by omega), f _ _ _ _ _ (by omega), f _ _ _ _ _ (by omega), f _ _ _ _ _ (by omega), f _ _ _ _ _ (by omega), cp_eq hj, f _ _ _ _ _ (by omega), f _ _ _ _ _ (by omega), f _ _ _ _ _ (by omega), e _ _ _ _ (by omega), e _ _ _ _ (by omega), e _ _ _ _ (by omega), e _ _ _ _ (by omega), e _ _ _ _ (by omega)]
    · rw [f _ _ _ _ _ (by omega), f _ _ _ _ _ (by omega), f _ _ _ _ _ (by omega), f _ _ _ _ _ (by omega), f _ _ _ _ _ (by omega), f _ _ _ _ _ (by omega), cp_eq hj, f _ _ _ _ _ (by omega), f _ _ _ _ _ (by omega), f _ _ _ _ _ (by omega), f _ _ _ _ _ (by omega), e _ _ _ _ (by omega), e _ _ _ _ (by omega), e _ _ _ _ (by omega), e _ _ _ _ (by omega), e _ _ _ _ (by omega)]
    · rw [f _ _ _ _ _ (by omega), f _ _ _ _ _ (by omega), f _ _ _ _ _ (by omega), f _ _ _ _ _ (by omega), f _ _ _ _ _ (by omega), cp_eq hj, f _ _ _ _ _ (by omega), f _ _ _ _ _ (by omega), f _ _ _ _ _ (by omega), f _ _ _ _ _ (by omega), f _ _ _ _ _ (by omega), e _ _ _ _ (by omega), e _ _ _ _ (by omega), e _ _ _ _ (by omega), e _ _ _ _ (by omega), e _ _ _ _ (by omega)]
    · rw [f _ _ _ _ _ (by omega), f _ _ _ _ _ (by omega), f _ _ _ _ _ (by omega), f _ _ _ _ _ (by omega), cp_eq hj, f _ _ _ _ _ (by omega), f _ _ _ _ _ (by omega), f _ _ _ _ _ (by omega), f _ _ _ _ _ (by omega), f _ _ _ _ _ (by omega), f _ _ _ _ _ (by omega), e _ _ _ _ (by omega), e _ _ _ _ (by omega), e _ _ _ _ (by omega), e _ _ _ _ (by omega), e _ _ _ _ (by omega)]
    · rw [f _ _ _ _ _ (by omega), f _ _ _ _ _ (by omega), f _ _ _ _ _ (by omega), cp_eq hj, f _ _ _ _ _ (by omega), f _ _ _ _ _ (by omega), f _ _ _ _ _ (by omega), f _ _ _ _ _ (by omega), f _ _ _ _ _ (by omega), f _ _ _ _ _ (by omega), f _ _ _ _ _ (by omega), e _ _ _ _ (by omega), e _ _ _ _ (by omega), e _ _ _ _ (by omega), e _ _ _ _ (by omega), e _ _ _ _ (by omega)]
    · rw [f _ _ _ _ _ (by omega), f _ _ _ _ _ (by omega), cp_eq hj, f _ _ _ _ _ (by omega), f _ _ _ _ _ (by omega), f _ _ _ _ _ (by omega), f _ _ _ _ _ (by omega), f _ _ _ _ _ (by omega), f _ _ _ _ _ (by omega), f _ _ _ _ _ (by omega), f _ _ _ _ _ (by omega), e _ _ _ _ (by omega), e _ _ _ _ (by omega), e _ _ _ _ (by omega), e _ _ _ _ (by omega), e _ _ _ _ (by omega)]
    · rw [f _ _ _ _ _ (by omega), cp_eq hj, f _ _ _ _ _ (by omega), f _ _ _ _ _ (by omega), f _ _ _ _ _ (by omega), f _ _ _ _ _ (by omega), f _ _ _ _ _ (by omega), f _ _ _ _ _ (by omega), f _ _ _ _ _ (by omega), f _ _ _ _ _ (by omega), f _ _ _ _ _ (by omega), e _ _ _ _ (by omega), e _ _ _ _ (by omega), e _ _ _ _ (by omega), e _ _ _ _ (by omega), e _ _ _ _ (by omega)]
    · rw [cp_eq hj, f _ _ _ _ _ (by omega), f _ _ _ _ _ (by omega), f _ _ _ _ _ (by omega), f _ _ _ _ _ (by omega), f _ _ _ _ _ (by omega), f _ _ _ _ _ (by omega), f _ _ _ _ _ (by omega), f _ _ _ _ _ (by omega), f _ _ _ _ _ (by omega), f _ _ _ _ _ (by omega), e _ _ _ _ (by omega), e _ _ _ _ (by omega), e _ _ _ _ (by omega), e _ _ _ _ (by omega), e _ _ _ _ (by omega)]
theorem c_copyWeeks {th p : Nat} (hs : p + 5 ≤ th ∨ th + 5 ≤ p) (hb : jw (M p 0) = 0 ∨ jw (M p 0) = 1) : ∃ M', f_X9_copyFrom n th p M = some (0, M') ∧ (∀ c : Nat, c < th ∨ th + 5 ≤ c → M' c = M c) ∧ (∀ j : Nat, j < 3 → M' th j = M p j) ∧ (∀ k j : Nat, 1 ≤ k → k < 5 → j < 60 → M' (th + k) j = M (p + k) j) := by
  unfold f_X9_copyFrom
  simp only [letv_ap, letm_ap]
  rw [chk_pos hb, chk_pos jcpok60, chk_pos jcpok60, chk_pos jcpok60, chk_pos jcpok60]
  rw [jcpy60, jcpy60, jcpy60, jcpy60]
  have e : ∀ (X : JMem) (i : Nat) (v : Int) (c : Nat), c ≠ th → jup X th i v c = X c := fun X i v c hc => jup_cell hc
  have f : ∀ (X : JMem) (a b l c : Nat), c ≠ b → cp X a b l c = X c := fun X a b l c hc => cp_ne hc
  refine ⟨_, rfl, fun c hc => ?_, fun j hj => ?_, fun k j k0 k8 hj => ?_⟩
  · rw [f _ _ _ _ _ (by omega), f _ _ _ _ _ (by omega), f _ _ _ _ _ (by omega), f _ _ _ _ _ (by omega), e _ _ _ _ (by omega), e _ _ _ _ (by omega), e _ _ _ _ (by omega)]
  · rw [f _ _ _ _ _ (by omega), f _ _ _ _ _ (by omega), f _ _ _ _ _ (by omega), f _ _ _ _ _ (by omega)]
    have ep : ∀ (X : JMem) (i : Nat) (v : Int), jup X th i v p = X p := fun X i v => jup_cell (by omega)
    rw [ep, ep, ep]
    have hj' : j = 0 ∨ j = 1 ∨ j = 2 := by omega
    rcases hj' with rfl | rfl | rfl <;> simp only [jup_at] <;> simp
  · have hk : k = 1 ∨ k = 2 ∨ k = 3 ∨ k = 4 := by omega
    rcases hk with rfl | rfl | rfl | rfl
    · rw [f _ _ _ _ _ (by omega), f _ _ _ _ _ (by omega), f _ _ _ _ _ (by omega), cp_eq hj, e _ _ _ _ (by omega), e _ _ _ _ (by omega), e _ _ _ _ (by omega)]
    · rw [f _ _ _ _ _ (by omega), f _ _ _ _ _ (by omega), cp_eq hj, f _ _ _ _ _ (by omega), e _ _ _ _ (by omega), e _ _ _ _ (by omega), e _ _ _ _ (by omega)]
    · rw [f _ _ _ _ _ (by omega), cp_eq hj, f _ _ _ _ _ (by omega), f _ _ _ _ _ (by omega), e _ _ _ _ (by omega), e _ _ _ _ (by omega), e _ _ _ _ (by omega)]
    · rw [cp_eq hj, f _ _ _ _ _ (by omega), f _ _ _ _ _ (by omega), f _ _ _ _ _ (by omega), e _ _ _ _ (by omega), e _ _ _ _ (by omega), e _ _ _ _ (by omega)]
end PMARK

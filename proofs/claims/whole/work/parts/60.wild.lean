section PWILD
variable {n : Nat} {M : JMem}
theorem jw_m1 : jw (-1) = -1 := by decide
/-- both loops of wildest come to the same, and change nothing but the status -/
theorem wild_L (h : JR M) {s : Int} (hs : S8 s) : ∀ (d i k k' : Nat) (v : Int), i + d = (M 168 2).toNat → d < k → d < k' → (v = -1 ∨ (0 ≤ v ∧ v < M 168 2)) → ∃ r x : Int, (∀ N : Nat, f_X11_wildest_L18 N k s v (i : Int) M = some (r, jup M 0 0 x)) ∧ ∀ N : Nat, f_X12_wildest_L18 N k' s v (i : Int) (jup M 0 0 x) = some (r, jup (jup M 0 0 x) 167 2 x) := by
  have nb := h.nb
  have e40 : ∀ _ : True, jw (M 40 2) = M 168 2 := fun _ => by rw [nb.1]; exact jw_of (by omega) (by omega)
  have e68 : ∀ x : Int, jw (jup M 0 0 x 168 2) = M 168 2 := fun x => jw_of (by show -2147483648 ≤ M 168 2; omega) (by show M 168 2 < 2147483648; omega)
  intro d
  induction d with
  | zero =>
    intro i k k' v hi hk hk' hv
    obtain ⟨k, rfl⟩ : ∃ q, k = q + 1 := ⟨k - 1, by omega⟩
    obtain ⟨k', rfl⟩ : ∃ q, k' = q + 1 := ⟨k' - 1, by omega⟩
    have ei : ∀ _ : True, jw (i : Int) = i := fun _ => jw_of (by omega) (by omega)
    have ev : ∀ _ : True, jw v = v := fun _ => jw_of (by omega) (by omega)
    rcases hv with hv | hv
    · refine ⟨-1, 6, fun N => ?_, fun N => ?_⟩
      · rw [f_X11_wildest_L18, if_pos (show jw (M 40 2) ≤ jw (i : Int) by rw [e40 trivial, ei trivial]; omega)]
        unfold f_X11_wildest_L71
        rw [if_pos (show jw v = jw (-1) by rw [hv])]; rfl
      · rw [f_X12_wildest_L18, chk_pos (by decide), show (jw 2).toNat = 2 by decide, if_pos (show jw (jup M 0 0 _ 168 2) ≤ jw (i : Int) by rw [e68, ei trivial]; omega)]
        unfold f_X12_wildest_L65 f_X12_orNone
        rw [if_pos (show jw v = jw (-1) by rw [hv])]; rfl
    · refine ⟨v, 0, fun N => ?_, fun N => ?_⟩
      · rw [f_X11_wildest_L18, if_pos (show jw (M 40 2) ≤ jw (i : Int) by rw [e40 trivial, ei trivial]; omega)]
        unfold f_X11_wildest_L71
        rw [if_neg (show ¬ jw v = jw (-1) by rw [jw_m1, ev trivial]; omega)]; rfl
      · rw [f_X12_wildest_L18, chk_pos (by decide), show (jw 2).toNat = 2 by decide, if_pos (show jw (jup M 0 0 _ 168 2) ≤ jw (i : Int) by rw [e68, ei trivial]; omega)]
        unfold f_X12_wildest_L65 f_X12_orNone
        rw [if_neg (show ¬ jw v = jw (-1) by rw [jw_m1, ev trivial]; omega)]; rfl
  | succ d ih =>
    intro i k k' v hi hk hk' hv
    obtain ⟨k, rfl⟩ : ∃ q, k = q + 1 := ⟨k - 1, by omega⟩
    obtain ⟨k', rfl⟩ : ∃ q, k' = q + 1 := ⟨k' - 1, by omega⟩
    have ei : ∀ _ : True, jw (i : Int) = i := fun _ => jw_of (by omega) (by omega)
    have ev : ∀ _ : True, jw v = v := fun _ => jw_of (by omega) (by omega)
    have i8 : i < 8 := by omega
    have step : ∀ w : Int, (w = -1 ∨ (0 ≤ w ∧ w < M 168 2)) → ∃ r x : Int, (∀ N : Nat, f_X11_wildest_L65 N (f_X11_wildest_L18 N k) s w (i : Int) M = some (r, jup M 0 0 x)) ∧ ∀ N : Nat, f_X12_wildest_L59 N (f_X12_wildest_L18 N k') s w (i : Int) (jup M 0 0 x) = some (r, jup (jup M 0 0 x) 167 2 x) := fun w hw => by
      obtain ⟨r, x, a, b⟩ := ih (i + 1) k k' w (by omega) (by omega) (by omega) hw
      exact ⟨r, x, fun N => a N, fun N => b N⟩
    by_cases hb : bit s i = true
    · rcases hv with hv | hv
      · obtain ⟨r, x, a, b⟩ := step (i : Int) (Or.inr (by omega))
        refine ⟨r, x, fun N => ?_, fun N => ?_⟩
        · rw [f_X11_wildest_L18, if_neg (show ¬ jw (M 40 2) ≤ jw (i : Int) by rw [e40 trivial, ei trivial]; omega), q_isIn hs i8, bnd_some, if_pos hb, if_neg (by decide), if_pos (show jw v = jw (-1) by rw [hv])]
          exact a N
        · rw [f_X12_wildest_L18, chk_pos (by decide), show (jw 2).toNat = 2 by decide, if_neg (show ¬ jw (jup M 0 0 _ 168 2) ≤ jw (i : Int) by rw [e68, ei trivial]; omega), q_isInM hs i8, bnd_some, if_pos hb, if_neg (by decide), if_pos (show jw v = jw (-1) by rw [hv])]
          exact b N
      · obtain ⟨u, u8, rfl⟩ := natOf (x := v) (k := 8) (by omega) (by omega)
        have gi := (h.beast i8 (by omega)).2.1
        have gu := (h.beast u8 (by omega)).2.1
        have eti : ∀ _ : True, jw (M 168 (57 + 10 * i)) = M 168 (57 + 10 * i) := fun _ => jw_of (by omega) (by omega)
        have etu : ∀ _ : True, jw (M 168 (57 + 10 * u)) = M 168 (57 + 10 * u) := fun _ => jw_of (by omega) (by omega)
        have q1 : M (40 + 10) u = M 168 (57 + 10 * u) := gu.1
        have q2 : M (40 + 10) i = M 168 (57 + 10 * i) := gi.1
        have q3 : ∀ (N : Nat) (x : Int), f_X12_beastOf N (i : Int) 1 (jup M 0 0 x) = some (M 168 (57 + 10 * i), jup M 0 0 x) := fun N x => by
          rw [show f_X12_beastOf N (i : Int) 1 (jup M 0 0 x) = _ from q_beastOf (k := 1) i8 (by omega), jup_cell (by omega), show 56 + 10 * i + 1 = 57 + 10 * i by omega]
        have q4 : ∀ (N : Nat) (x : Int), f_X12_beastOf N (u : Int) 1 (jup M 0 0 x) = some (M 168 (57 + 10 * u), jup M 0 0 x) := fun N x => by
          rw [show f_X12_beastOf N (u : Int) 1 (jup M 0 0 x) = _ from q_beastOf (k := 1) u8 (by omega), jup_cell (by omega), show 56 + 10 * u + 1 = 57 + 10 * u by omega]
        have nu : ¬ jw (u : Int) = jw (-1) := by rw [jw_m1, ev trivial]; omega
        by_cases hle : M 168 (57 + 10 * u) ≤ M 168 (57 + 10 * i)
        · obtain ⟨r, x, a, b⟩ := step (u : Int) (Or.inr (by omega))
          refine ⟨r, x, fun N => ?_, fun N => ?_⟩
          · rw [f_X11_wildest_L18, if_neg (show ¬ jw (M 40 2) ≤ jw (i : Int) by rw [e40 trivial, ei trivial]; omega), q_isIn hs i8, bnd_some, if_pos hb, if_neg (by decide), if_neg nu, chk_pos (jin_of (by omega) (by omega) (by omega)), chk_pos (jin_of (by omega) (by omega) (by omega)), jwb (by omega), show (jw (i : Int)).toNat = i from jwb (by omega), q1, q2, etu trivial, eti trivial, if_pos hle]
            exact a N
          · rw [f_X12_wildest_L18, chk_pos (by decide), show (jw 2).toNat = 2 by decide, if_neg (show ¬ jw (jup M 0 0 _ 168 2) ≤ jw (i : Int) by rw [e68, ei trivial]; omega), q_isInM hs i8, bnd_some, if_pos hb, if_neg (by decide), if_neg nu, q3, bnd_some, q4, bnd_some, etu trivial, eti trivial, if_pos hle]
            exact b N
        · obtain ⟨r, x, a, b⟩ := step (i : Int) (Or.inr (by omega))
          refine ⟨r, x, fun N => ?_, fun N => ?_⟩
          · rw [f_X11_wildest_L18, if_neg (show ¬ jw (M 40 2) ≤ jw (i : Int) by rw [e40 trivial, ei trivial]; omega), q_isIn hs i8, bnd_some, if_pos hb, if_neg (by decide), if_neg nu, chk_pos (jin_of (by omega) (by omega) (by omega)), chk_pos (jin_of (by omega) (by omega) (by omega)), jwb (by omega), show (jw (i : Int)).toNat = i from jwb (by omega), q1, q2, etu trivial, eti trivial, if_neg hle]
            exact a N
          · rw [f_X12_wildest_L18, chk_pos (by decide), show (jw 2).toNat = 2 by decide, if_neg (show ¬ jw (jup M 0 0 _ 168 2) ≤ jw (i : Int) by rw [e68, ei trivial]; omega), q_isInM hs i8, bnd_some, if_pos hb, if_neg (by decide), if_neg nu, q3, bnd_some, q4, bnd_some, etu trivial, eti trivial, if_neg hle]
            exact b N
    · obtain ⟨r, x, a, b⟩ := step v hv
      refine ⟨r, x, fun N => ?_, fun N => ?_⟩
      · rw [f_X11_wildest_L18, if_neg (show ¬ jw (M 40 2) ≤ jw (i : Int) by rw [e40 trivial, ei trivial]; omega), q_isIn hs i8, bnd_some, if_neg hb, if_pos (by decide)]
        exact a N
      · rw [f_X12_wildest_L18, chk_pos (by decide), show (jw 2).toNat = 2 by decide, if_neg (show ¬ jw (jup M 0 0 _ 168 2) ≤ jw (i : Int) by rw [e68, ei trivial]; omega), q_isInM hs i8, bnd_some, if_neg hb, if_pos (by decide)]
        exact b N
theorem p_wildest (hf : 100 ≤ n) : jO_wildest JR n := by
  intro x1 hx1 M h
  have nb := h.nb
  have hp := pow8 (M 168 2).toNat (by omega)
  by_cases h1 : 0 ≤ x1 ∧ x1 < ((2 ^ (M 168 2).toNat : Nat) : Int)
  · obtain ⟨r, x, a, b⟩ := wild_L h (s := x1) ⟨h1.1, by omega⟩ (M 168 2).toNat 0 n n (-1) (by omega) (by omega) (by omega) (Or.inl rfl)
    refine Pr.end (r := r) (s := r) (x := x) (y := x) h ?_ ?_ rfl rfl
    · unfold f_X11_wildest
      rw [h.isS hx1, bnd_some, if_pos h1, if_neg (by decide)]
      exact a n
    · unfold f_X12_wildest
      rw [h.isSM hx1 (jup M 0 0 x) rfl, bnd_some, if_pos h1, if_neg (by decide)]
      exact b n
  · refine Pr.end (r := -1) (s := -1) (x := 1) (y := 1) h ?_ ?_ rfl rfl
    · unfold f_X11_wildest
      rw [h.isS hx1, bnd_some, if_neg h1, if_pos (by decide)]; rfl
    · unfold f_X12_wildest
      rw [h.isSM hx1 (jup M 0 0 1) rfl, bnd_some, if_neg h1, if_pos (by decide)]; rfl
end PWILD

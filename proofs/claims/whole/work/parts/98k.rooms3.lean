section PROOMS3
variable {n : Nat} {M : JMem}
theorem q_roomsL (hf : 1000 ≤ n) {A : Nat → Int} (hn : 0 ≤ A 2 ∧ A 2 ≤ 8) (hb : ∀ b : Nat, b < 8 → (b : Int) < A 2 → (1 ≤ A (56 + 10 * b) ∧ A (56 + 10 * b) ≤ 9) ∧ S8 (A (62 + 10 * b))) {s : Nat} (hs : s < 1000) {r2 : Int → Int → Int → JMem → Option (Int × JMem)} {v1 : Int} {M0 : JMem} (h168 : M0 168 = A) {x : Nat} (hx : x < 2 ^ (A 2).toNat) (x0 : x ≠ 0) (hN : ∀ w : Nat, w < x → LK (isR (hF A) (hZ A) s) w 1000000 (M0 181 w)) :
    ∀ (v q : Nat) (M : JMem), v < 256 → sub8 v x → v < q → (∀ c : Nat, c ≠ 181 → M c = M0 c) → (∀ w : Nat, w < x → M 181 w = M0 181 w) → (0 ≤ M 181 x ∧ M 181 x ≤ 1000000) → BI (isR (hF A) (hZ A) s) x 1000000 (M 181 x) (fun y => sub8 y x ∧ y ≠ 0 ∧ v < y) →
    ∃ M', f_X12_roomsOf_L27 n r2 q v1 (s : Int) (x : Int) (v : Int) M = f_X12_roomsOf_L81 n r2 v1 (s : Int) (x : Int) M' ∧ (∀ c : Nat, c ≠ 181 → M' c = M0 c) ∧ (∀ w : Nat, w < x → M' 181 w = M0 181 w) ∧ LK (isR (hF A) (hZ A) s) x 1000000 (M' 181 x) := by
  have p8 := pow8 (A 2).toNat (by omega)
  have x8 : x < 256 := by omega
  intro v
  induction v using Nat.strongRecOn with
  | ind v ih =>
    intro q M hv hsv hq gF hW hb0 hB
    obtain ⟨q, rfl⟩ : ∃ z, q = z + 1 := ⟨q - 1, by omega⟩
    by_cases c : v = 0
    · subst c
      refine ⟨M, ?_, gF, hW, hB.fin (by omega) x8 x0 fun k pk => ?_⟩
      · rw [f_X12_roomsOf_L27, if_pos (by rw [jw_of (x := ((0 : Nat) : Int)) (by omega) (by omega)]; omega)]
      · obtain ⟨y, q1, q2, q3, q4, q5⟩ := pk
        exact ⟨y, q1, ⟨q2, q3, by omega⟩, q4, q5⟩
    · have vx := sub8_le hv hsv
      obtain ⟨r, r1, r2'⟩ := q_isRoom (n := n) (M := M) hf (A := A) (by rw [gF 168 (by omega)]; exact h168) hn hb (s := s) (x := v) hs (by omega)
      have nl : (v - 1) &&& x ≤ v - 1 := Nat.and_le_left
      have w256 : less x v < 256 := less_lt x8
      have wsub : sub8 (less x v) x := fun t t8 h => by
        rw [less_bit _ _ t8, Bool.and_eq_true] at h
        exact h.1
      have wlt : less x v < x := by
        have a := sub8_le w256 wsub
        have b : less x v ≠ x := fun e => by
          obtain ⟨j, hj⟩ := lowB_ex hv c
          have h1 := less_bit x v hj.1
          rw [e, hsv j hj.1 hj.2.1, hj.2.1] at h1
          exact absurd h1 (by decide)
        omega
      have need := hN _ wlt
      have nr := need.range
      have next : ∀ M2 : JMem, (∀ c : Nat, c ≠ 181 → M2 c = M0 c) → (∀ w : Nat, w < x → M2 181 w = M0 181 w) → (0 ≤ M2 181 x ∧ M2 181 x ≤ 1000000) → BI (isR (hF A) (hZ A) s) x 1000000 (M2 181 x) (fun y => sub8 y x ∧ y ≠ 0 ∧ v ≤ y) → ∃ M', f_X12_roomsOf_L70 n r2 (f_X12_roomsOf_L27 n r2 q) v1 (s : Int) (x : Int) (v : Int) M2 = f_X12_roomsOf_L81 n r2 v1 (s : Int) (x : Int) M' ∧ (∀ c : Nat, c ≠ 181 → M' c = M0 c) ∧ (∀ w : Nat, w < x → M' 181 w = M0 181 w) ∧ LK (isR (hF A) (hZ A) s) x 1000000 (M' 181 x) := fun M2 g1 g2 g3 g4 => by
        obtain ⟨M3, k1, k2⟩ := ih ((v - 1) &&& x) (by omega) q M2 (by omega) (fun t t8 h => by
          rw [Nat.testBit_and, Bool.and_eq_true] at h
          exact h.2) (by omega) g1 g2 g3 (g4.old fun y hy ⟨a1, a2, a3⟩ => Or.inl ⟨a1, a2, by
          by_cases z : v ≤ y
          · exact z
          · have := next0 x y v ((and_sub hy).2 a1) ((and_sub hv).2 hsv) (by omega)
            omega⟩)
        refine ⟨M3, ?_, k2⟩
        unfold f_X12_roomsOf_L70
        simp only [letv_ap]
        rw [show (v : Int) - 1 = ((v - 1 : Nat) : Int) by omega, jand_nat (by omega)]
        exact k1
      rw [f_X12_roomsOf_L27, if_neg (by rw [jw_of (x := (v : Int)) (by omega) (by omega)]; omega), r1, bnd_some]
      rcases r2' with ⟨a, a2⟩ | ⟨a, a2⟩
      · rw [a, if_neg (by decide), chk_pos (jin_of (by omega) (by omega) (by omega)), jless x8 hv, chk_pos (jin_of (by omega) (by omega) (by omega)), chk_pos (jin_of (by omega) (by omega) (by omega)), show (jw (x : Int)).toNat = x from jwb (by omega), show (jw (less x v : Int)).toNat = less x v from jwb (by omega), hW _ wlt]
        simp only [letm_ap]
        have em : jmin (M 181 x) (1 + M0 181 (less x v)) = if M0 181 (less x v) + 1 < M 181 x then M0 181 (less x v) + 1 else M 181 x := by
          unfold jmin
          rw [jw_of (x := 1 + M0 181 (less x v)) (by omega) (by omega), jw_of (x := M 181 x) (by omega) (by omega), Int.add_comm 1]
        refine next _ (fun c hc => by rw [jup_cell hc, gF c hc]) (fun w hw => by rw [jup_if, if_neg (by omega)]; exact hW w hw) ?_ ?_
        · rw [jup_if, if_pos rfl, em]
          by_cases z : M0 181 (less x v) + 1 < M 181 x
          · rw [if_pos z]; omega
          · rw [if_neg z]; exact hb0
        · rw [jup_if, if_pos rfl, em]
          refine hB.new x8 (by omega) hv hsv c a2 need fun y hy ⟨a1, a3, a4⟩ => ?_
          by_cases z : y = v
          · exact Or.inr (Or.inl z)
          · exact Or.inl ⟨a1, a3, by omega⟩
      · rw [a, if_pos (by decide)]
        refine next M gF hW hb0 (hB.old fun y hy ⟨a1, a3, a4⟩ => ?_)
        by_cases z : y = v
        · rw [z]; exact Or.inr a2
        · exact Or.inl ⟨a1, a3, by omega⟩
theorem q_roomsOf (hf : 1000 ≤ n) {A : Nat → Int} (hn : 0 ≤ A 2 ∧ A 2 ≤ 8) (hb : ∀ b : Nat, b < 8 → (b : Int) < A 2 → (1 ≤ A (56 + 10 * b) ∧ A (56 + 10 * b) ≤ 9) ∧ S8 (A (62 + 10 * b))) {s : Nat} (hs : s < 1000) (h168 : M 168 = A) {S : Nat} (hS : S < 2 ^ (A 2).toNat) :
    ∃ r M', f_X12_roomsOf n (S : Int) (s : Int) M = some (r, M') ∧ (∀ c : Nat, c ≠ 181 → M' c = M c) ∧ LK (isR (hF A) (hZ A) s) S 1000000 r := by
  have p8 := pow8 (A 2).toNat (by omega)
  have key : ∀ (d i q : Nat) (M1 : JMem), i + d = S + 1 → d < q → (∀ c : Nat, c ≠ 181 → M1 c = M c) → (∀ w : Nat, w < i → LK (isR (hF A) (hZ A) s) w 1000000 (M1 181 w)) → ∃ r M', f_X12_roomsOf_L2 n q (S : Int) (s : Int) (i : Int) M1 = some (r, M') ∧ (∀ c : Nat, c ≠ 181 → M' c = M c) ∧ LK (isR (hF A) (hZ A) s) S 1000000 r := fun d => by
    induction d with
    | zero =>
      intro i q M1 hi hq gF hN
      obtain ⟨q, rfl⟩ : ∃ z, q = z + 1 := ⟨q - 1, by omega⟩
      refine ⟨M1 181 S, M1, ?_, gF, hN S (by omega)⟩
      rw [f_X12_roomsOf_L2, if_pos (by rw [jw_of (x := (S : Int)) (by omega) (by omega), jw_of (x := (i : Int)) (by omega) (by omega)]; omega)]
      unfold f_X12_roomsOf_L87
      rw [chk_pos (jin_of (by omega) (by omega) (by omega)), show (jw (S : Int)).toNat = S from jwb (by omega)]
    | succ d ih =>
      intro i q M1 hi hq gF hN
      obtain ⟨q, rfl⟩ : ∃ z, q = z + 1 := ⟨q - 1, by omega⟩
      rw [f_X12_roomsOf_L2, if_neg (by rw [jw_of (x := (S : Int)) (by omega) (by omega), jw_of (x := (i : Int)) (by omega) (by omega)]; omega), jw_of (x := (i : Int)) (by omega) (by omega)]
      unfold f_X12_roomsOf_L23
      simp only [letv_ap, letm_ap]
      have ch : jin (i : Int) 256 := jin_of (by omega) (by omega) (by omega)
      by_cases c : i = 0
      · subst c
        obtain ⟨v, M2, k1, k2, k3⟩ := ih 1 q (jup M1 181 0 0) (by omega) (by omega) (fun c hc => by rw [jup_cell hc, gF c hc]) (fun w hw => by
          obtain rfl : w = 0 := by omega
          rw [jup_if, if_pos rfl]
          exact LK.zero)
        refine ⟨v, M2, ?_, k2, k3⟩
        obtain ⟨z, hz⟩ : ∃ z, n = z + 1 := ⟨n - 1, by omega⟩
        have e27 : ∀ X : JMem, f_X12_roomsOf_L27 n (f_X12_roomsOf_L2 n q) n (S : Int) (s : Int) ((0 : Nat) : Int) ((0 : Nat) : Int) X = f_X12_roomsOf_L81 n (f_X12_roomsOf_L2 n q) (S : Int) (s : Int) ((0 : Nat) : Int) X := fun X => by
          have : ∀ m : Nat, f_X12_roomsOf_L27 m (f_X12_roomsOf_L2 n q) (z + 1) (S : Int) (s : Int) ((0 : Nat) : Int) ((0 : Nat) : Int) X = f_X12_roomsOf_L81 m (f_X12_roomsOf_L2 n q) (S : Int) (s : Int) ((0 : Nat) : Int) X := fun m => by
            rw [f_X12_roomsOf_L27, if_pos (by decide)]
          rw [← hz] at this
          exact this n
        rw [if_pos (by omega), chk_pos ch, e27, show (jw ((0 : Nat) : Int)).toNat = 0 by decide]
        unfold f_X12_roomsOf_L81
        simp only [letv_ap]
        exact k1
      · obtain ⟨M2, g1, g2, g3, g4⟩ := q_roomsL (n := n) hf hn hb hs (r2 := f_X12_roomsOf_L2 n q) (v1 := (S : Int)) (M0 := jup M1 181 i 1000000) (by rw [jup_cell (by omega), gF 168 (by omega)]; exact h168) (x := i) (by omega) c (fun w hw => by rw [jup_if, if_neg (by omega)]; exact hN w hw) i n (jup M1 181 i 1000000) (by omega) (fun _ _ h => h) (by omega) (fun _ _ => rfl) (fun _ _ => rfl) (by rw [jup_if, if_pos rfl]; omega) ⟨Or.inl (by rw [jup_if, if_pos rfl]), fun y hy ⟨a1, a2, a3⟩ => by
          exfalso
          have := sub8_le hy a1
          omega⟩
        obtain ⟨v, M3, k1, k2, k3⟩ := ih (i + 1) q M2 (by omega) (by omega) (fun c hc => by rw [g2 c hc, jup_cell hc, gF c hc]) (fun w hw => by
          by_cases e : w = i
          · rw [e]; exact g4
          · rw [g3 w (by omega), jup_if, if_neg e]; exact hN w (by omega))
        refine ⟨v, M3, ?_, k2, k3⟩
        rw [if_neg (by omega), chk_pos ch, show (jw (i : Int)).toNat = i from jwb (by omega), g1]
        unfold f_X12_roomsOf_L81
        simp only [letv_ap]
        exact k1
  obtain ⟨r, M', r1, r2, r3⟩ := key (S + 1) 0 n M (by omega) (by omega) (fun _ _ => rfl) (fun w hw => by omega)
  refine ⟨r, M', ?_, r2, r3⟩
  unfold f_X12_roomsOf
  simp only [letv_ap]
  exact r1
theorem JR.hbs (h : JR M) : ∀ b : Nat, b < 8 → (b : Int) < M 168 2 → (1 ≤ M 168 (56 + 10 * b) ∧ M 168 (56 + 10 * b) ≤ 9) ∧ S8 (M 168 (62 + 10 * b)) := fun b b8 hb => ⟨(h.cur.1.2.2.2.2.2.2 b b8 hb).1.2, (h.cur.1.2.2.2.2.2.2 b b8 hb).2.2.2.1⟩
theorem Pr.room {f g : JMem → Option (Int × JMem)} {r s x : Int} {M1 M2 : JMem} (h : JR M) (hf : f M = some (r, jup M1 0 0 x)) (h1 : ∀ c : Nat, c ≠ 80 → c ≠ 81 → M1 c = M c) (hg : g (jup M1 0 0 x) = some (s, jup M2 167 2 x)) (h2 : ∀ c : Nat, c ≠ 181 → M2 c = jup M1 0 0 x c) (hrs : jw r = jw s) : ∃ r M1 s M2, f M = some (r, M1) ∧ g M1 = some (s, M2) ∧ jw r = jw s ∧ JR M2 := by
  refine Pr.fin h hf hg hrs ⟨fun c hc => ?_, fun j hj => ?_, fun j hj _ => ?_, fun i _ => ?_⟩ ?_
  · rw [jup_cell (by omega), h2 c (by omega), jup_cell (by omega), h1 c (by omega) (by omega)]
  · rw [jup_cell (by omega), h2 0 (by omega), jup_at, if_neg (fun q => hj q.2), h1 0 (by omega) (by omega)]
  · rw [jup_at, if_neg (fun q => hj q.2), h2 167 (by omega), jup_cell (by omega), h1 167 (by omega) (by omega)]
  · rw [jup_cell (by omega), h2 168 (by omega), jup_cell (by omega), h1 168 (by omega) (by omega)]
  · rw [jup_cell (by omega), h2 0 (by omega), jup_at, if_pos ⟨rfl, rfl⟩, jup_at, if_pos ⟨rfl, rfl⟩]
theorem p_rooms (hf : 1000 ≤ n) : jO_rooms JR n := by
  intro x1 x2 hx1 hx2 M h
  have e2 := jwI hx2
  have nb := h.nb
  have p8 := pow8 (M 168 2).toNat (by omega)
  by_cases w1 : 0 ≤ x1 ∧ x1 < ((2 ^ (M 168 2).toNat : Nat) : Int)
  · by_cases w2 : 1 ≤ x2 ∧ x2 ≤ 72
    · obtain ⟨S, S8', eS⟩ := natOf (x := x1) (k := 256) (by omega) (by omega)
      obtain ⟨s, s8, es⟩ := natOf (x := x2) (k := 73) (by omega) (by omega)
      obtain ⟨M1, a1, a2, a3⟩ := c_weigh (n := n) hf h.cur.1
      obtain ⟨r, M2, b1, b2, b3⟩ := c_fewest (n := n) (M := M1) hf (by omega) a3 (s := s) (by omega) (S := S) (by omega)
      have gF : ∀ c : Nat, c ≠ 80 → c ≠ 81 → M2 c = M c := fun c c1 c2 => by rw [b2 c c2, a2 c c1]
      have rr := b3.range
      have cl0 : f_X11_rooms n x1 x2 M = if r ≤ 8 then some (r, jup M2 0 0 0) else some (-1, jup M2 0 0 6) := by
        unfold f_X11_rooms
        rw [h.isS hx1, bnd_some, if_pos w1, if_neg (by decide), e2, show jw 1 = 1 by decide, if_neg (by omega), show jw 72 = 72 by decide, if_pos w2.2, a1, bnd_some, eS, es, b1, bnd_some]
        simp only [letv_ap]
        rw [jw_of (x := r) (by omega) (by omega), show jw 8 = 8 by decide]
        rfl
      have key : ∀ v : Int, ∃ M3, f_X12_rooms n x1 x2 (jup M2 0 0 v) = (if r ≤ 8 then some (r, jup M3 167 2 0) else some (-1, jup M3 167 2 6)) ∧ ∀ c : Nat, c ≠ 181 → M3 c = jup M2 0 0 v c := fun v => by
        have e168 : jup M2 0 0 v 168 = M 168 := by rw [jup_cell (by omega), gF 168 (by omega) (by omega)]
        obtain ⟨r', M3, d1, d2, d3⟩ := q_roomsOf (n := n) (M := jup M2 0 0 v) hf (A := M 168) nb.2 h.hbs (s := s) (by omega) e168 (S := S) (by omega)
        refine ⟨M3, ?_, d2⟩
        have rr' := d3.range
        unfold f_X12_rooms
        rw [h.isSM hx1 _ e168, bnd_some, if_pos w1, if_neg (by decide), e2, q_isFrom (by omega) (by omega) (by omega), bnd_some, if_pos w2, if_neg (by decide), eS, es, d1, bnd_some]
        simp only [letv_ap]
        rw [jw_of (x := r') (by omega) (by omega), show jw 1000000 = 1000000 by decide]
        rcases b3 with ⟨a, a'⟩ | ⟨k, a, c, d, e⟩
        · rcases d3 with ⟨z, z'⟩ | ⟨k', z, c', d', e'⟩
          · rw [if_neg (by omega), if_neg (by omega)]; rfl
          · exact absurd d' (a' k')
        · rcases d3 with ⟨z, z'⟩ | ⟨k', z, c', d', e'⟩
          · exact absurd d (z' k)
          · have := e k' d'
            have := e' k d
            have er : r' = r := by omega
            rw [if_pos (by omega), if_pos (by omega), er]; rfl
      by_cases c : r ≤ 8
      · obtain ⟨M3, k1, k2⟩ := key 0
        exact Pr.room h (by rw [cl0, if_pos c]) gF (by rw [k1, if_pos c]) k2 rfl
      · obtain ⟨M3, k1, k2⟩ := key 6
        exact Pr.room h (by rw [cl0, if_neg c]) gF (by rw [k1, if_neg c]) k2 rfl
    · refine Pr.end (r := -1) (s := -1) (x := 1) (y := 1) h ?_ ?_ rfl rfl
      · unfold f_X11_rooms f_X11_rooms_L19
        rw [h.isS hx1, bnd_some, if_pos w1, if_neg (by decide), e2, show jw 1 = 1 by decide, show jw 72 = 72 by decide]
        by_cases c : x2 < 1
        · rw [if_pos c]; rfl
        · rw [if_neg c, if_neg (by omega)]; rfl
      · unfold f_X12_rooms f_X12_rooms_L20
        rw [h.isSM hx1 (jup M 0 0 1) rfl, bnd_some, if_pos w1, if_neg (by decide), e2, q_isFrom ⟨by have := hx2.1; omega, by have := hx2.2; omega⟩ (by omega) (by omega), bnd_some, if_neg w2, if_pos (by decide)]; rfl
  · refine Pr.end (r := -1) (s := -1) (x := 1) (y := 1) h ?_ ?_ rfl rfl
    · unfold f_X11_rooms f_X11_rooms_L19
      rw [h.isS hx1, bnd_some, if_neg w1, if_pos (by decide)]; rfl
    · unfold f_X12_rooms f_X12_rooms_L20
      rw [h.isSM hx1 (jup M 0 0 1) rfl, bnd_some, if_neg w1, if_pos (by decide)]; rfl
end PROOMS3

section PARR
variable {n : Nat} {M : JMem}
/-! the class's hour: who arrives -/
/-- only these three cells of a now are other ones -/
def Fq (th : Nat) (M M' : JMem) : Prop := ∀ c : Nat, c ≠ th + 3 → c ≠ th + 4 → c ≠ th + 5 → M' c = M c
theorem Fq.refl {th : Nat} : Fq th M M := fun _ _ _ _ => rfl
theorem Fq.trans {th : Nat} {M1 M2 : JMem} (h : Fq th M M1) (h2 : Fq th M1 M2) : Fq th M M2 := fun c h3 h4 h5 => (h2 c h3 h4 h5).trans (h c h3 h4 h5)
theorem Fq.plan {th p : Nat} {M' : JMem} (h : Fq th M M') (hs : p + 12 ≤ th ∨ th + 8 ≤ p) : blk M' p 12 = blk M p 12 := blk_congr (by decide) fun j hj => h _ (by omega) (by omega) (by omega)
theorem blk_at {a z j i : Nat} (hj : j < z) : blk M a z j i = M (a + j) i := by
  unfold blk
  rw [Nat.mod_eq_of_lt hj]
theorem RN.mv {N N' : JV} {A A' : Nat → Int} (h : RN N A) (hN : ∀ j k : Nat, j < 3 → N' j k = N j k) (hA : ∀ i : Nat, (∀ b : Nat, b < 8 → i ≠ 63 + 10 * b ∧ i ≠ 64 + 10 * b) → A' i = A i)
    (h13 : ∀ p : Nat, p < 6 → S8 (N' 3 p) ∧ ∀ b : Nat, b < 8 → (bit (N' 3 p) b = true ↔ (b : Int) < A 2 ∧ ¬ A (59 + 10 * b) = 1 ∧ A' (63 + 10 * b) = p))
    (h14 : ∀ t : Nat, t < 8 → S8 (N' 4 t) ∧ ∀ b : Nat, b < 8 → (bit (N' 4 t) b = true ↔ (b : Int) < A 2 ∧ ¬ A (59 + 10 * b) = 1 ∧ A' (63 + 10 * b) = 10 + t))
    (h15 : ∀ b : Nat, b < 8 → (b : Int) < A 2 → ¬ A (59 + 10 * b) = 1 → (0 ≤ A' (63 + 10 * b) ∧ A' (63 + 10 * b) < A 0) ∨ (10 ≤ A' (63 + 10 * b) ∧ A' (63 + 10 * b) < 10 + A 1))
    (h16 : ∀ t : Nat, t < 8 → ∀ b : Nat, b < 8 → bit (N' 4 t) b = true → N' 5 t = A' (64 + 10 * b) + A (11 + 6 * t) ∧ 0 ≤ A' (64 + 10 * b) ∧ A' (64 + 10 * b) ≤ 63 ∧ A' (64 + 10 * b) = A (10 + 6 * t)) : RN N' A' := by
  have e1 : N' 1 = N 1 := funext fun k => hN 1 k (by omega)
  have e2 : N' 2 = N 2 := funext fun k => hN 2 k (by omega)
  have e0 : N' 0 = N 0 := funext fun k => hN 0 k (by omega)
  unfold RN at h ⊢
  obtain ⟨q0, q1, ⟨a2, q2⟩, q3, ⟨a4, q4⟩, q5, ⟨a6, q6⟩, q7, q8, q9, q10, q11, q12, q13, q14, q15, q16⟩ := h
  rw [e0, e1, e2, hA 0 (by omega), hA 1 (by omega), hA 2 (by omega), hA 4 (by omega), hA 5 (by omega), hA 6 (by omega)]
  refine ⟨q0, q1, ⟨a2, fun b b8 => ?_⟩, fun b b8 => ?_, ⟨a4, fun b b8 => ?_⟩, fun b b8 => ?_, ⟨a6, fun t t8 => ?_⟩, fun t t8 => ?_, fun b b8 => ?_, fun b b8 => ?_, q10, q11, q12, fun p p6 => ⟨(h13 p p6).1, fun b b8 => ?_⟩, fun t t8 => ⟨(h14 t t8).1, fun b b8 => ?_⟩, fun b b8 => ?_, fun t t8 b b8 => ?_⟩
  · rw [hA (58 + 10 * b) (by omega)]; exact q2 b b8
  · rw [hA (58 + 10 * b) (by omega)]; exact q3 b b8
  · rw [hA (59 + 10 * b) (by omega)]; exact q4 b b8
  · rw [hA (59 + 10 * b) (by omega)]; exact q5 b b8
  · rw [hA (13 + 6 * t) (by omega)]; exact q6 t t8
  · rw [hA (13 + 6 * t) (by omega)]; exact q7 t t8
  · rw [hA (61 + 10 * b) (by omega)]; exact q8 b b8
  · rw [hA (60 + 10 * b) (by omega)]; exact q9 b b8
  · rw [hA (59 + 10 * b) (by omega)]; exact (h13 p p6).2 b b8
  · rw [hA (59 + 10 * b) (by omega)]; exact (h14 t t8).2 b b8
  · rw [hA (59 + 10 * b) (by omega)]; exact h15 b b8
  · rw [hA (11 + 6 * t) (by omega), hA (10 + 6 * t) (by omega)]; exact h16 t t8 b b8
/-- the last five facts of the relation, by themselves -/
theorem RN.spots {N : JV} {A : Nat → Int} (h : RN N A) : (∀ p : Nat, p < 6 → S8 (N 3 p) ∧ ∀ b : Nat, b < 8 → (bit (N 3 p) b = true ↔ (b : Int) < A 2 ∧ ¬ A (59 + 10 * b) = 1 ∧ A (63 + 10 * b) = p)) ∧
    (∀ t : Nat, t < 8 → S8 (N 4 t) ∧ ∀ b : Nat, b < 8 → (bit (N 4 t) b = true ↔ (b : Int) < A 2 ∧ ¬ A (59 + 10 * b) = 1 ∧ A (63 + 10 * b) = 10 + t)) ∧
    (∀ b : Nat, b < 8 → (b : Int) < A 2 → ¬ A (59 + 10 * b) = 1 → (0 ≤ A (63 + 10 * b) ∧ A (63 + 10 * b) < A 0) ∨ (10 ≤ A (63 + 10 * b) ∧ A (63 + 10 * b) < 10 + A 1)) ∧
    (∀ t : Nat, t < 8 → ∀ b : Nat, b < 8 → bit (N 4 t) b = true → N 5 t = A (64 + 10 * b) + A (11 + 6 * t) ∧ 0 ≤ A (64 + 10 * b) ∧ A (64 + 10 * b) ≤ 63 ∧ A (64 + 10 * b) = A (10 + 6 * t)) := by
  unfold RN at h
  obtain ⟨q0, q1, ⟨a2, q2⟩, q3, ⟨a4, q4⟩, q5, ⟨a6, q6⟩, q7, q8, q9, q10, q11, q12, q13, q14, q15, q16⟩ := h
  exact ⟨q13, q14, q15, q16⟩
theorem RN.heads {N : JV} {A : Nat → Int} (h : RN N A) : (N 0 0 = A 4 ∧ 0 ≤ A 4 ∧ A 4 ≤ 999) ∧ (N 0 1 = A 5 ∧ 0 ≤ A 5 ∧ A 5 ≤ 64) ∧
    (S8 (N 0 2) ∧ ∀ b : Nat, b < 8 → (bit (N 0 2) b = true ↔ (b : Int) < A 2 ∧ A (58 + 10 * b) = 1)) ∧ (S8 (N 0 3) ∧ ∀ b : Nat, b < 8 → (bit (N 0 3) b = true ↔ (b : Int) < A 2 ∧ A (59 + 10 * b) = 1)) ∧
    (S8 (N 0 4) ∧ ∀ t : Nat, t < 8 → (bit (N 0 4) t = true ↔ (t : Int) < A 1 ∧ A (13 + 6 * t) = 1)) ∧ (∀ b : Nat, b < 8 → (b : Int) < A 2 → N 1 b = A (61 + 10 * b) ∧ S8 (A (61 + 10 * b))) := by
  unfold RN at h
  obtain ⟨q0, q1, q2, q3, q4, q5, q6, q7, q8, q9, q10, q11, q12, q13, q14, q15, q16⟩ := h
  exact ⟨q0, q1, q2, q4, q6, fun b b8 hb => ⟨(q8 b b8 hb).1, (q8 b b8 hb).2.1⟩⟩
/-- where who is on one of the first k trains is, when these have arrived -/
def arv (A : Nat → Int) (k b : Nat) : Int := if (b : Int) < A 2 ∧ ¬ A (59 + 10 * b) = 1 ∧ 10 ≤ A (63 + 10 * b) ∧ A (63 + 10 * b) < 10 + (k : Int) ∧ A (64 + 10 * b) + A (11 + 6 * (A (63 + 10 * b) - 10).toNat) = A 5 then A (9 + 6 * (A (63 + 10 * b) - 10).toNat) else A (63 + 10 * b)
def arA (A : Nat → Int) (k : Nat) : Nat → Int := upB A 63 8 (arv A k)
theorem arA_at {A : Nat → Int} {k b : Nat} (h : b < 8) : arA A k (63 + 10 * b) = arv A k b := upB_at h
theorem arA_ne {A : Nat → Int} {k i : Nat} (h : ∀ b : Nat, b < 8 → i ≠ 63 + 10 * b) : arA A k i = A i := upB_ne h
theorem arA_0 (A : Nat → Int) : arA A 0 = A := by
  funext i
  unfold arA upB
  by_cases c : 63 ≤ i ∧ (i - 63) % 10 = 0 ∧ (i - 63) / 10 < 8
  · rw [if_pos c]
    unfold arv
    rw [if_neg (fun q => by omega), show 63 + 10 * ((i - 63) / 10) = i by omega]
  · rw [if_neg c]
theorem arA_all {A : Nat → Int} (h : SA A) : arA A (A 1).toNat = offs A (A 2).toNat := by
  funext i
  unfold arA offs upB
  by_cases c : 63 ≤ i ∧ (i - 63) % 10 = 0 ∧ (i - 63) / 10 < 8
  · rw [if_pos c]
    by_cases c2 : 63 ≤ i ∧ (i - 63) % 10 = 0 ∧ (i - 63) / 10 < (A 2).toNat
    · rw [if_pos c2]
      unfold arv offv
      have r := (h.2.2.2.2.2.2 ((i - 63) / 10) c.2.2 (by omega)).2.2.2.2
      have h0 := h.1
      have h1 := h.2.1
      by_cases c3 : ((i - 63) / 10 : Nat) < A 2 ∧ ¬ A (59 + 10 * ((i - 63) / 10)) = 1 ∧ 10 ≤ A (63 + 10 * ((i - 63) / 10)) ∧ A (64 + 10 * ((i - 63) / 10)) + A (11 + 6 * (A (63 + 10 * ((i - 63) / 10)) - 10).toNat) = A 5
      · have r := r c3.2.1
        rw [if_pos c3, if_pos ⟨c3.1, c3.2.1, c3.2.2.1, by omega, c3.2.2.2⟩]
      · rw [if_neg c3, if_neg (fun q => c3 ⟨q.1, q.2.1, q.2.2.1, q.2.2.2.2⟩)]
    · rw [if_neg c2]
      unfold arv
      rw [if_neg (fun q => by omega), show 63 + 10 * ((i - 63) / 10) = i by omega]
  · have := h.2.2.1
    rw [if_neg c, if_neg (by omega)]
/-- one train arrives, or not -/
theorem arv_rider {A : Nat → Int} {t b : Nat} (hb : (b : Int) < A 2) (he : ¬ A (59 + 10 * b) = 1) (hw : A (63 + 10 * b) = 10 + t) : arv A t b = 10 + t ∧ (A (64 + 10 * b) + A (11 + 6 * t) = A 5 → arv A (t + 1) b = A (9 + 6 * t)) ∧ (¬ A (64 + 10 * b) + A (11 + 6 * t) = A 5 → arv A (t + 1) b = 10 + t) := by
  unfold arv
  rw [hw, show ((10 + (t : Int)) - 10).toNat = t by omega]
  refine ⟨if_neg (fun q => by omega), fun c => if_pos ⟨hb, he, by omega, by omega, c⟩, fun c => if_neg (fun q => c q.2.2.2.2)⟩
theorem arv_other {A : Nat → Int} {t b : Nat} (h : ¬ ((b : Int) < A 2 ∧ ¬ A (59 + 10 * b) = 1 ∧ A (63 + 10 * b) = 10 + t)) : arv A (t + 1) b = arv A t b := by
  unfold arv
  by_cases c : (b : Int) < A 2 ∧ ¬ A (59 + 10 * b) = 1 ∧ 10 ≤ A (63 + 10 * b) ∧ A (63 + 10 * b) < 10 + (t : Int) ∧ A (64 + 10 * b) + A (11 + 6 * (A (63 + 10 * b) - 10).toNat) = A 5
  · rw [if_pos c, if_pos ⟨c.1, c.2.1, c.2.2.1, by omega, c.2.2.2.2⟩]
  · rw [if_neg c, if_neg (fun q => c ⟨q.1, q.2.1, q.2.2.1, by have := mt (fun e => (⟨q.1, q.2.1, e⟩ : (b : Int) < A 2 ∧ ¬ A (59 + 10 * b) = 1 ∧ A (63 + 10 * b) = 10 + t)) h; omega, q.2.2.2.2⟩)]
theorem arv_ten {A : Nat → Int} (h : SA A) {t u b : Nat} (hb : (b : Int) < A 2) (b8 : b < 8) (he : ¬ A (59 + 10 * b) = 1) (hu : t ≤ u) (hw : arv A t b = 10 + u) : A (63 + 10 * b) = 10 + u := by
  have h0 := h.1
  unfold arv at hw
  by_cases c : (b : Int) < A 2 ∧ ¬ A (59 + 10 * b) = 1 ∧ 10 ≤ A (63 + 10 * b) ∧ A (63 + 10 * b) < 10 + (t : Int) ∧ A (64 + 10 * b) + A (11 + 6 * (A (63 + 10 * b) - 10).toNat) = A 5
  · rw [if_pos c] at hw
    have h1 := h.2.1
    have r := (h.2.2.2.2.2.2 b b8 hb).2.2.2.2 he
    have := (h.2.2.2.2.2.1 (A (63 + 10 * b) - 10).toNat (by omega) (by omega)).2.1
    omega
  · rw [if_neg c] at hw; exact hw
theorem RN.arr {N N' : JV} {A : Nat → Int} {t : Nat} (hA : SA A) (h : RN N (arA A t)) (t8 : t < 8) (ht : (t : Int) < A 1) (hd : N 5 t = A 5) (hN : ∀ j k : Nat, j < 3 ∨ j = 5 → N' j k = N j k)
    (h3 : ∀ p : Nat, p < 6 → N' 3 p = if (p : Int) = A (9 + 6 * t) then jor (N 3 p) (N 4 t) else N 3 p) (h4 : ∀ u : Nat, u < 8 → N' 4 u = if u = t then 0 else N 4 u) : RN N' (arA A (t + 1)) := by
  obtain ⟨q13, q14, q15, q16⟩ := h.spots
  have a2 : arA A t 2 = A 2 := arA_ne (by omega)
  have a0 : arA A t 0 = A 0 := arA_ne (by omega)
  have a1 : arA A t 1 = A 1 := arA_ne (by omega)
  have a59 : ∀ b : Nat, arA A t (59 + 10 * b) = A (59 + 10 * b) := fun b => arA_ne (by omega)
  have a64 : ∀ b : Nat, arA A t (64 + 10 * b) = A (64 + 10 * b) := fun b => arA_ne (by omega)
  have a64' : ∀ b : Nat, arA A (t + 1) (64 + 10 * b) = A (64 + 10 * b) := fun b => arA_ne (by omega)
  have a11 : ∀ u : Nat, u < 8 → arA A t (11 + 6 * u) = A (11 + 6 * u) := fun u hu => arA_ne (by omega)
  have a10 : ∀ u : Nat, u < 8 → arA A t (10 + 6 * u) = A (10 + 6 * u) := fun u hu => arA_ne (by omega)
  have hto := (hA.2.2.2.2.2.1 t t8 ht).2.1
  have h0 := hA.1
  -- who is on this train
  have rid : ∀ b : Nat, b < 8 → (bit (N 4 t) b = true ↔ (b : Int) < A 2 ∧ ¬ A (59 + 10 * b) = 1 ∧ A (63 + 10 * b) = 10 + t) := fun b b8 => by
    rw [(q14 t t8).2 b b8, a2, a59, arA_at b8]
    constructor
    · rintro ⟨r1, r2, r3⟩
      exact ⟨r1, r2, arv_ten hA r1 b8 r2 (Nat.le_refl t) r3⟩
    · rintro ⟨r1, r2, r3⟩
      exact ⟨r1, r2, (arv_rider r1 r2 r3).1⟩
  have due : ∀ b : Nat, b < 8 → bit (N 4 t) b = true → A (64 + 10 * b) + A (11 + 6 * t) = A 5 := fun b b8 hb => by
    have r := (q16 t t8 b b8 hb).1
    rw [a64, a11 t t8] at r
    omega
  have vr : ∀ b : Nat, b < 8 → bit (N 4 t) b = true → arv A (t + 1) b = A (9 + 6 * t) ∧ arv A t b = 10 + t := fun b b8 hb => by
    have r := (rid b b8).1 hb
    exact ⟨(arv_rider r.1 r.2.1 r.2.2).2.1 (due b b8 hb), (arv_rider r.1 r.2.1 r.2.2).1⟩
  have vo : ∀ b : Nat, b < 8 → ¬ bit (N 4 t) b = true → arv A (t + 1) b = arv A t b := fun b b8 hb => arv_other (fun q => hb ((rid b b8).2 q))
  refine h.mv (fun j k hj => hN j k (Or.inl hj)) (fun i hi => by rw [arA_ne (fun b hb => (hi b hb).1), arA_ne (fun b hb => (hi b hb).1)]) (fun p p6 => ?_) (fun u u8 => ?_) (fun b b8 hb he => ?_) (fun u u8 b b8 hb => ?_)
  · rw [h3 p p6]
    by_cases c : (p : Int) = A (9 + 6 * t)
    · rw [if_pos c]
      have r := jorS (q13 p p6).1 (q14 t t8).1
      refine ⟨r.1, fun b b8 => ?_⟩
      rw [r.2 b, Bool.or_eq_true, a2, a59, arA_at b8]
      by_cases hb : bit (N 4 t) b = true
      · have rb := (rid b b8).1 hb
        rw [(vr b b8 hb).1]
        exact ⟨fun _ => ⟨rb.1, rb.2.1, c.symm⟩, fun _ => Or.inr hb⟩
      · rw [vo b b8 hb, (q13 p p6).2 b b8, a2, a59, arA_at b8]
        exact ⟨fun q => q.resolve_right hb, Or.inl⟩
    · rw [if_neg c]
      refine ⟨(q13 p p6).1, fun b b8 => ?_⟩
      rw [(q13 p p6).2 b b8, a2, a59, arA_at b8, arA_at b8]
      by_cases hb : bit (N 4 t) b = true
      · rw [(vr b b8 hb).1, (vr b b8 hb).2]
        exact ⟨fun q => by omega, fun q => absurd q.2.2.symm c⟩
      · rw [vo b b8 hb]
  · rw [h4 u u8]
    by_cases c : u = t
    · subst c
      rw [if_pos rfl]
      refine ⟨S8_0, fun b b8 => ?_⟩
      rw [bit0, a2, a59, arA_at b8]
      refine ⟨fun q => absurd q (by decide), fun q => ?_⟩
      by_cases hb : bit (N 4 u) b = true
      · rw [(vr b b8 hb).1] at q; omega
      · rw [vo b b8 hb] at q
        exact absurd ((rid b b8).2 ⟨q.1, q.2.1, arv_ten hA q.1 b8 q.2.1 (Nat.le_refl u) q.2.2⟩) hb
    · rw [if_neg c]
      refine ⟨(q14 u u8).1, fun b b8 => ?_⟩
      rw [(q14 u u8).2 b b8, a2, a59, arA_at b8, arA_at b8]
      by_cases hb : bit (N 4 t) b = true
      · rw [(vr b b8 hb).1, (vr b b8 hb).2]
        exact ⟨fun q => by omega, fun q => by omega⟩
      · rw [vo b b8 hb]
  · rw [a2] at hb
    rw [a59] at he
    rw [a0, a1, arA_at b8]
    by_cases hr : bit (N 4 t) b = true
    · rw [(vr b b8 hr).1]; exact Or.inl hto
    · rw [vo b b8 hr]
      have r := q15 b b8 (by rw [a2]; exact hb) (by rw [a59]; exact he)
      rw [a0, a1, arA_at b8] at r
      exact r
  · rw [h4 u u8] at hb
    by_cases c : u = t
    · rw [if_pos c, bit0] at hb
      exact absurd hb (by decide)
    · rw [if_neg c] at hb
      have r := q16 u u8 b b8 hb
      rw [hN 5 u (Or.inr rfl), a64', a11 u u8, a10 u u8]
      rw [a64, a11 u u8, a10 u u8] at r
      exact r
theorem arA_stay {N : JV} {A : Nat → Int} {t : Nat} (hA : SA A) (h : RN N (arA A t)) (t8 : t < 8) (hd : N 4 t = 0 ∨ ¬ N 5 t = A 5) : arA A (t + 1) = arA A t := by
  obtain ⟨q13, q14, q15, q16⟩ := h.spots
  funext i
  unfold arA upB
  by_cases c : 63 ≤ i ∧ (i - 63) % 10 = 0 ∧ (i - 63) / 10 < 8
  · rw [if_pos c, if_pos c]
    have b8 := c.2.2
    by_cases c2 : ((i - 63) / 10 : Nat) < A 2 ∧ ¬ A (59 + 10 * ((i - 63) / 10)) = 1 ∧ A (63 + 10 * ((i - 63) / 10)) = 10 + t
    · have r := arv_rider c2.1 c2.2.1 c2.2.2
      have hb : bit (N 4 t) ((i - 63) / 10) = true := by
        rw [(q14 t t8).2 _ b8, arA_at b8, r.1]
        exact ⟨by rw [arA_ne (by omega)]; exact c2.1, by rw [arA_ne (by omega)]; exact c2.2.1, rfl⟩
      have r2 := (q16 t t8 _ b8 hb).1
      rw [arA_ne (i := 64 + 10 * ((i - 63) / 10)) (by omega), arA_ne (i := 11 + 6 * t) (by omega)] at r2
      rcases hd with hd | hd
      · rw [hd, bit0] at hb
        exact absurd hb (by decide)
      · rw [r.1, r.2.2 (by omega)]
    · exact arv_other c2
  · rw [if_neg c, if_neg c]
theorem c_arrive_L {th p : Nat} (hs : p + 12 ≤ th ∨ th + 8 ≤ p) {A : Nat → Int} (hA : SA A) : ∀ (d t k : Nat) (M : JMem), t + d = (A 1).toNat → d < k → RP (blk M p 12) A → RN (blk M th 8) (arA A t) → ∃ M', f_X1_arrive_L2 n th p k (t : Int) M = some (0, M') ∧ Fq th M M' ∧ RN (blk M' th 8) (offs A (A 2).toNat) := by
  have h1 := hA.2.1
  have h0 := hA.1
  have s5 := hA.2.2.2.2.1
  intro d
  induction d with
  | zero =>
    intro t k M hi hk hP hR
    obtain ⟨k, rfl⟩ : ∃ q, k = q + 1 := ⟨k - 1, by omega⟩
    have e1 : M p 1 = A 1 := hP.2.1.1
    refine ⟨M, ?_, Fq.refl, ?_⟩
    · rw [f_X1_arrive_L2, e1, if_pos (by rw [jw_of (x := A 1) (by omega) (by omega), jw_of (x := (t : Int)) (by omega) (by omega)]; omega)]
    · rw [← arA_all hA, show (A 1).toNat = t by omega]; exact hR
  | succ d ih =>
    intro t k M hi hk hP hR
    obtain ⟨k, rfl⟩ : ∃ q, k = q + 1 := ⟨k - 1, by omega⟩
    have t8 : t < 8 := by omega
    have e1 : M p 1 = A 1 := hP.2.1.1
    obtain ⟨p1, p2, p3, p4, p5⟩ := hP.2.2.2.2.2.1 t t8 (by omega)
    have eto : M (p + 5) t = A (9 + 6 * t) := p2.1
    obtain ⟨q13, q14, q15, q16⟩ := hR.spots
    have r14 : S8 (M (th + 4) t) := (q14 t t8).1
    have eh : M th 1 = A 5 := by
      have r := hR.heads.2.1.1
      rw [arA_ne (by omega)] at r
      exact r
    have hno : (M (th + 4) t = 0 ∨ ¬ M (th + 5) t = A 5) → ∃ M', f_X1_arrive_L59 n th p (f_X1_arrive_L2 n th p k) (t : Int) M = some (0, M') ∧ Fq th M M' ∧ RN (blk M' th 8) (offs A (A 2).toNat) := fun c => by
      have e := arA_stay hA hR t8 c
      exact ih (t + 1) k M (by omega) (by omega) hP (by rw [e]; exact hR)
    rw [f_X1_arrive_L2, e1, jw_of (x := A 1) (by omega) (by omega), if_neg (by rw [jw_of (x := (t : Int)) (by omega) (by omega)]; omega), chk_pos (jin_of (by omega) (by omega) (by omega)), jwb (by omega), r14.jw]
    by_cases c1 : M (th + 4) t = 0
    · rw [if_pos c1]; exact hno (Or.inl c1)
    · rw [if_neg c1, chk_pos (jin_of (by omega) (by omega) (by omega)), eh, jw_of (x := A 5) (by omega) (by omega)]
      have hd : ∃ b : Nat, b < 8 ∧ bit (M (th + 4) t) b = true := by
        apply Classical.byContradiction
        intro q
        exact c1 (S8.ext r14 S8_0 fun b b8 => by
          rw [bit0]
          cases hb : bit (M (th + 4) t) b
          · rfl
          · exact absurd ⟨b, b8, hb⟩ q)
      obtain ⟨b, b8, hb⟩ := hd
      have r := q16 t t8 b b8 hb
      rw [arA_ne (i := 64 + 10 * b) (by omega), arA_ne (i := 11 + 6 * t) (by omega)] at r
      have e5 : jw (M (th + 5) t) = M (th + 5) t := by
        have : M (th + 5) t = A (64 + 10 * b) + A (11 + 6 * t) := r.1
        exact jw_of (by omega) (by omega)
      rw [e5]
      by_cases c2 : M (th + 5) t = A 5
      · obtain ⟨to, to6, eto'⟩ := natOf (x := A (9 + 6 * t)) (k := 6) (by omega) (by omega)
        rw [if_pos c2, chk_pos (jin_of (by omega) (by omega) (by omega)), eto, eto', chk_pos (jin_of (by omega) (by omega) (by omega)), chk_pos (jin_of (by omega) (by omega) (by omega)), chk_pos (jin_of (by omega) (by omega) (by omega)), jwb (by omega)]
        simp only [letv_ap, letm_ap]
        rw [chk_pos (jin_of (by omega) (by omega) (by omega))]
        have hF : Fq th M (jup (jup M (th + 3) to (jor (M (th + 3) to) (M (th + 4) t))) (th + 4) t 0) := fun c c3 c4 c5 => by rw [jup_cell c4, jup_cell c3]
        have hP' : RP (blk (jup (jup M (th + 3) to (jor (M (th + 3) to) (M (th + 4) t))) (th + 4) t 0) p 12) A := by rw [hF.plan hs]; exact hP
        obtain ⟨M', g1, g2, g3⟩ := ih (t + 1) k _ (by omega) (by omega) hP' (hR.arr hA t8 (by omega) c2 (fun j i hj => by rw [blk_at (by omega), blk_at (by omega), jup_cell (by omega), jup_cell (by omega)]) (fun q q6 => by
          rw [blk_at (by omega), blk_at (by omega), blk_at (by omega), jup_cell (by omega), jup_at, eto']
          by_cases e : q = to
          · rw [if_pos ⟨rfl, e⟩, if_pos (by omega), e]
          · rw [if_neg (fun w => e w.2), if_neg (by omega)]) (fun u u8 => by
          rw [blk_at (by omega), blk_at (by omega), jup_at]
          by_cases e : u = t
          · rw [if_pos ⟨rfl, e⟩, if_pos e]
          · rw [if_neg (fun w => e w.2), if_neg e, jup_cell (by omega)]))
        exact ⟨M', g1, hF.trans g2, g3⟩
      · rw [if_neg c2]; exact hno (Or.inr c2)
theorem c_arrive {th p : Nat} (hf : 100 ≤ n) (hs : p + 12 ≤ th ∨ th + 8 ≤ p) {A : Nat → Int} (hP : RP (blk M p 12) A) (hR : RN (blk M th 8) A) : ∃ M', f_X1_arrive n th p M = some (0, M') ∧ Fq th M M' ∧ RN (blk M' th 8) (offs A (A 2).toNat) := by
  have hA := SA.of hP hR
  have h1 := hA.2.1
  exact c_arrive_L hs hA (A 1).toNat 0 n M (by omega) (by omega) hP (by rw [arA_0]; exact hR)
end PARR

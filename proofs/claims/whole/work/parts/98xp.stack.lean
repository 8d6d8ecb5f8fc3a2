section PSTACK
/-! what is open in WEEKS, and what is closed -/
def opw (W : Nat → Int) (k : Nat) : Prop := 21 ≤ W k ∧ W k ≤ 24
def SQ (W D S A : Nat → Int) (r dp : Nat) : Prop :=
  (∀ i : Nat, i < dp → ∃ o : Nat, S i = o ∧ o < r ∧ opw W o ∧ D o = o) ∧
  (∀ i j : Nat, i < j → j < dp → S i < S j) ∧
  (∀ k : Nat, k < r → opw W k → (∃ i : Nat, i < dp ∧ S i = k) ∨ ∃ e : Nat, D k = e ∧ A k = e ∧ k < e ∧ e < r ∧ W e = 25 ∧ D e = k) ∧
  (∀ e : Nat, e < r → W e = 25 → ∃ k : Nat, D e = k ∧ A e = k ∧ k < e ∧ opw W k ∧ D k = e) ∧
  (∀ k j : Nat, k < j → (j : Int) < D k → k < r → opw W k → opw W j → D j < D k) ∧
  (∀ k : Nat, k < r → opw W k → ∀ i : Nat, i < dp → (k : Int) < S i → D k < S i)
variable {W D S A W' D' S' A' : Nat → Int} {r dp : Nat}
theorem SQ.zero : SQ W D S A 0 0 := ⟨fun i hi => by omega, fun i j _ hj => by omega, fun k hk => by omega, fun e he => by omega, fun k j _ _ hk => by omega, fun k hk => by omega⟩
theorem SQ.top (h : SQ W D S A r dp) {k : Nat} (hk : k < r) (ho : opw W k) : D k < r := by
  rcases h.2.2.1 k hk ho with ⟨i, hi, e⟩ | ⟨e, e1, e2, e3, e4, e5⟩
  · obtain ⟨o, o1, o2, o3, o4⟩ := h.1 i hi
    have : o = k := by omega
    rw [this] at o4
    omega
  · omega
theorem SQ.congr (h : SQ W D S A r dp) (hW : ∀ k : Nat, k < r → W' k = W k) (hD : ∀ k : Nat, k < r → D' k = D k) (hS : ∀ i : Nat, i < dp → S' i = S i) (hA : ∀ k : Nat, k < r → A' k = A k) : SQ W' D' S' A' r dp := by
  have ow : ∀ k : Nat, k < r → (opw W' k ↔ opw W k) := fun k hk => by unfold opw; rw [hW k hk]
  have tp := fun (k : Nat) (hk : k < r) (ho : opw W k) => h.top hk ho
  obtain ⟨h1, h2, h3, h4, h5, h6⟩ := h
  refine ⟨fun i hi => ?_, fun i j hij hj => ?_, fun k hk ho => ?_, fun e he h25 => ?_, fun k j hkj hj hk ho hoj => ?_, fun k hk ho i hi hki => ?_⟩
  · obtain ⟨o, o1, o2, o3, o4⟩ := h1 i hi
    exact ⟨o, by rw [hS i hi]; exact o1, o2, (ow o o2).2 o3, by rw [hD o o2]; exact o4⟩
  · rw [hS i (by omega), hS j hj]; exact h2 i j hij hj
  · rcases h3 k hk ((ow k hk).1 ho) with ⟨i, hi, e⟩ | ⟨e, e1, e2, e3, e4, e5, e6⟩
    · exact Or.inl ⟨i, hi, by rw [hS i hi]; exact e⟩
    · exact Or.inr ⟨e, by rw [hD k hk]; exact e1, by rw [hA k hk]; exact e2, e3, e4, by rw [hW e e4]; exact e5, by rw [hD e e4]; exact e6⟩
  · rw [hW e he] at h25
    obtain ⟨k, k1, k2, k3, k4, k5⟩ := h4 e he h25
    exact ⟨k, by rw [hD e he]; exact k1, by rw [hA e he]; exact k2, k3, (ow k (by omega)).2 k4, by rw [hD k (by omega)]; exact k5⟩
  · have := tp k hk ((ow k hk).1 ho)
    rw [hD k hk] at hj ⊢
    have hjr : j < r := by omega
    rw [hD j hjr]
    exact h5 k j hkj hj hk ((ow k hk).1 ho) ((ow j hjr).1 hoj)
  · rw [hS i hi] at hki ⊢
    rw [hD k hk]
    exact h6 k hk ((ow k hk).1 ho) i hi hki
/-- a row that opens nothing and closes nothing -/
theorem SQ.plain (h : SQ W D S A r dp) (hW : W r < 21 ∨ 25 < W r) : SQ W D S A (r + 1) dp := by
  have tp := fun (k : Nat) (hk : k < r) (ho : opw W k) => h.top hk ho
  have no : ¬ opw W r := fun z => by unfold opw at z; omega
  have lt : ∀ k : Nat, k < r + 1 → opw W k → k < r := fun k hk ho => by
    by_cases e : k = r
    · rw [e] at ho; exact absurd ho no
    · omega
  obtain ⟨h1, h2, h3, h4, h5, h6⟩ := h
  refine ⟨fun i hi => ?_, h2, fun k hk ho => ?_, fun e he h25 => ?_, fun k j hkj hj hk ho hoj => h5 k j hkj hj (lt k hk ho) ho hoj, fun k hk ho => h6 k (lt k hk ho) ho⟩
  · obtain ⟨o, o1, o2, o3, o4⟩ := h1 i hi
    exact ⟨o, o1, by omega, o3, o4⟩
  · rcases h3 k (lt k hk ho) ho with e | ⟨e, e1, e2, e3, e4, e5, e6⟩
    · exact Or.inl e
    · exact Or.inr ⟨e, e1, e2, e3, by omega, e5, e6⟩
  · have : e ≠ r := fun z => by rw [z] at h25; omega
    exact h4 e (by omega) h25
/-- a row that opens -/
theorem SQ.opener (h : SQ W D S A r dp) (hW : opw W r) (hD : D r = r) (hS : S dp = r) : SQ W D S A (r + 1) (dp + 1) := by
  have tp := fun (k : Nat) (hk : k < r) (ho : opw W k) => h.top hk ho
  obtain ⟨h1, h2, h3, h4, h5, h6⟩ := h
  refine ⟨fun i hi => ?_, fun i j hij hj => ?_, fun k hk ho => ?_, fun e he h25 => ?_, fun k j hkj hj hk ho hoj => ?_, fun k hk ho i hi hki => ?_⟩
  · by_cases e : i = dp
    · rw [e]; exact ⟨r, hS, by omega, hW, hD⟩
    · obtain ⟨o, o1, o2, o3, o4⟩ := h1 i (by omega)
      exact ⟨o, o1, by omega, o3, o4⟩
  · by_cases e : j = dp
    · obtain ⟨o, o1, o2, o3, o4⟩ := h1 i (by omega)
      rw [e, hS]; omega
    · exact h2 i j hij (by omega)
  · by_cases e : k = r
    · rw [e]; exact Or.inl ⟨dp, by omega, hS⟩
    · rcases h3 k (by omega) ho with ⟨i, hi, e⟩ | ⟨e, e1, e2, e3, e4, e5, e6⟩
      · exact Or.inl ⟨i, by omega, e⟩
      · exact Or.inr ⟨e, e1, e2, e3, by omega, e5, e6⟩
  · have : e ≠ r := fun z => by rw [z] at h25; unfold opw at hW; omega
    exact h4 e (by omega) h25
  · by_cases e : k = r
    · rw [e, hD] at hj; omega
    · exact h5 k j hkj hj (by omega) ho hoj
  · by_cases e : i = dp
    · rw [e, hS] at hki ⊢
      have := tp k (by omega) ho
      exact this
    · by_cases e2 : k = r
      · obtain ⟨o, o1, o2, o3, o4⟩ := h1 i (by omega)
        omega
      · exact h6 k (by omega) ho i (by omega) hki
/-- a row that closes -/
theorem SQ.close (h : SQ W D S A r (dp + 1)) {o : Nat} (ho : S dp = o) (hW : W' r = 25) (hWo : ∀ k : Nat, k < r → W' k = W k) (hr : D' r = o) (hDo : D' o = r) (hD : ∀ k : Nat, k < r → k ≠ o → D' k = D k) (hAr : A' r = o) (hAo : A' o = r) (hA : ∀ k : Nat, k < r → k ≠ o → A' k = A k) (hS : ∀ i : Nat, i < dp → S' i = S i) : SQ W' D' S' A' (r + 1) dp := by
  have tp := fun (k : Nat) (hk : k < r) (ho : opw W k) => h.top hk ho
  have ow : ∀ k : Nat, k < r → (opw W' k ↔ opw W k) := fun k hk => by unfold opw; rw [hWo k hk]
  have nr : ¬ opw W' r := fun z => by unfold opw at z; omega
  have lt : ∀ k : Nat, k < r + 1 → opw W' k → k < r := fun k hk ho => by
    by_cases e : k = r
    · rw [e] at ho; exact absurd ho nr
    · omega
  obtain ⟨h1, h2, h3, h4, h5, h6⟩ := h
  obtain ⟨o', o1, o2, o3, o4⟩ := h1 dp (by omega)
  have eo : o' = o := by omega
  rw [eo] at o2 o3 o4
  refine ⟨fun i hi => ?_, fun i j hij hj => ?_, fun k hk hko => ?_, fun e he h25 => ?_, fun k j hkj hj hk hko hoj => ?_, fun k hk hko i hi hki => ?_⟩
  · obtain ⟨p, p1, p2, p3, p4⟩ := h1 i (by omega)
    have := h2 i dp hi (by omega)
    have po : p ≠ o := by omega
    exact ⟨p, by rw [hS i hi]; exact p1, by omega, (ow p p2).2 p3, by rw [hD p p2 po]; exact p4⟩
  · rw [hS i (by omega), hS j hj]; exact h2 i j hij (by omega)
  · have kr := lt k hk hko
    by_cases e : k = o
    · rw [e]; exact Or.inr ⟨r, hDo, hAo, o2, by omega, hW, hr⟩
    · rcases h3 k kr ((ow k kr).1 hko) with ⟨i, hi, z⟩ | ⟨q, e1, e2, e3, e4, e5, e6⟩
      · by_cases ei : i = dp
        · rw [ei] at z; omega
        · exact Or.inl ⟨i, by omega, by rw [hS i (by omega)]; exact z⟩
      · have qo : q ≠ o := fun z => by rw [z] at e5; unfold opw at o3; omega
        exact Or.inr ⟨q, by rw [hD k kr e]; exact e1, by rw [hA k kr e]; exact e2, e3, by omega, by rw [hWo q e4]; exact e5, by rw [hD q e4 qo]; exact e6⟩
  · by_cases er : e = r
    · rw [er]; exact ⟨o, hr, hAr, o2, (ow o o2).2 o3, hDo⟩
    · rw [hWo e (by omega)] at h25
      obtain ⟨k, k1, k2, k3, k4, k5⟩ := h4 e (by omega) h25
      have eo : e ≠ o := fun z => by rw [z] at h25; unfold opw at o3; omega
      have ko : k ≠ o := fun z => by rw [z] at k5; omega
      exact ⟨k, by rw [hD e (by omega) eo]; exact k1, by rw [hA e (by omega) eo]; exact k2, k3, (ow k (by omega)).2 k4, by rw [hD k (by omega) ko]; exact k5⟩
  · have kr := lt k hk hko
    by_cases e : k = o
    · rw [e] at hkj hj ⊢
      rw [hDo] at hj ⊢
      have jr : j < r := by omega
      rw [hD j jr (by omega)]
      exact tp j jr ((ow j jr).1 hoj)
    · rw [hD k kr e] at hj ⊢
      have := tp k kr ((ow k kr).1 hko)
      have jr : j < r := by omega
      by_cases ej : j = o
      · rw [ej] at hkj hj
        have := h6 k kr ((ow k kr).1 hko) dp (by omega) (by omega)
        omega
      · rw [hD j jr ej]
        exact h5 k j hkj hj kr ((ow k kr).1 hko) ((ow j jr).1 hoj)
  · have kr := lt k hk hko
    rw [hS i hi] at hki ⊢
    have := h2 i dp hi (by omega)
    rw [hD k kr (by omega)]
    exact h6 k kr ((ow k kr).1 hko) i (by omega) hki
end PSTACK

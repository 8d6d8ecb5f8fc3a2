section PSETS
variable {n : Nat} {M : JMem}
theorem jlshl1_nat : ∀ i : Nat, i < 31 → jlshl 1 (i : Int) = ((2 ^ i : Nat) : Int) := by decide +kernel
theorem pow8 : ∀ i : Nat, i < 9 → 1 ≤ 2 ^ i ∧ 2 ^ i ≤ 256 := by decide
theorem JR.isS (h : JR M) {x : Int} (hx : I32 x) : f_X11_isSet n x M = some (if 0 ≤ x ∧ x < ((2 ^ (M 168 2).toNat : Nat) : Int) then 1 else 0, M) := by
  have nb := h.nb
  have e := jwI hx
  obtain ⟨m, hm⟩ : ∃ m : Nat, (M 168 2).toNat = m := ⟨_, rfl⟩
  have hp := pow8 m (by omega)
  have e2 : M 40 2 = (m : Int) := by omega
  unfold f_X11_isSet
  rw [e2, jshl1_nat m (by omega), hm, jw_of (x := ((2 ^ m : Nat) : Int)) (by omega) (by omega)]
  by_cases h1 : x < 0
  · rw [if_pos (by omega), if_neg (by omega)]
  · by_cases h2 : x < ((2 ^ m : Nat) : Int)
    · rw [if_neg (by omega), if_neg (by omega), if_pos (by omega)]
    · rw [if_neg (by omega), if_pos (by omega), if_neg (by omega)]
theorem JR.isSM (h : JR M) {x : Int} (hx : I32 x) (M' : JMem) (e : M' 168 = M 168) : f_X12_areBeasts n x M' = some (if 0 ≤ x ∧ x < ((2 ^ (M 168 2).toNat : Nat) : Int) then 1 else 0, M') := by
  have nb := h.nb
  have ex := jwI hx
  obtain ⟨m, hm⟩ : ∃ m : Nat, (M 168 2).toNat = m := ⟨_, rfl⟩
  have hp := pow8 m (by omega)
  have e2 : M 168 2 = (m : Int) := by omega
  unfold f_X12_areBeasts
  rw [chk_pos (by decide), show (jw 2).toNat = 2 by decide, e, e2, jlshl1_nat m (by omega), ex, q_isFrom ⟨by have := hx.1; omega, by have := hx.2; omega⟩ (by omega) (by omega), bnd_some, show ((m : Int)).toNat = m from rfl]
  by_cases h1 : 0 ≤ x ∧ x < ((2 ^ m : Nat) : Int)
  · rw [if_pos (by omega), if_pos h1]; exact chk_pos (by decide) _
  · rw [if_neg (by omega), if_neg h1]; exact chk_pos (by decide) _
end PSETS

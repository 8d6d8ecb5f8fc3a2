section PASM
/-- the whole -/
theorem jOps_of {n : Nat} (hn : 70000 ≤ n) : jOps JR n :=
  ⟨p_status, p_top, p_bottom, p_tray (by omega), p_write, p_read, p_pour (by omega), p_feed (by omega), p_park (by omega), p_weeks (by omega), p_fault, p_told (by omega), p_train (by omega), p_beast, p_at (by omega), p_there (by omega), p_together (by omega), p_hour (by omega), p_monday (by omega), p_ticket, p_let, p_halt, p_trust, p_shift (by omega), p_hunt, p_mourn (by omega), p_rule, p_where (by omega), p_eatenAt (by omega), p_eater (by omega), p_meet (by omega), p_lateBy (by omega), p_peace (by omega), p_eatenBy (by omega), p_most (by omega), p_soonest (by omega), p_soonestBy (by omega), p_latest (by omega), p_stay (by omega), p_reach (by omega), p_cut (by omega), p_cutSet (by omega), p_snow (by omega), p_back (by omega), p_wildest (by omega), p_rooms (by omega), p_roomSize (by omega), p_sets (by omega), p_sure (by omega), p_slips (by omega), p_copyPlaces (by omega), p_live hn, p_lived, p_mean hn, p_mark (by omega), p_undo (by omega)⟩
theorem hpure_of : ∀ (L : Nat) (X : Nat → Int), L ≤ 3072 → (∀ j : Nat, -2147483648 ≤ X j ∧ X j < 2147483648) → ∃ (n : Nat) (r : Int) (M' : JMem), f_L_law n L X jM0 = some (r, M') := fun L X hL hX => by
  obtain ⟨r, M', e⟩ := law_start (R := JR) (n := 70000) (by omega) (jOps_of (by omega)) hL hX JR0
  exact ⟨70000, r, M', e⟩
end PASM

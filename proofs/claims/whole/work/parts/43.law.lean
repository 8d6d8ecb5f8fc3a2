section PLAW
/-! the law's loop, out of one fact for each pair of operations -/
def Good (o : Option (Int × JMem)) : Prop := ∃ r M, o = some (r, M)
theorem Good.ite {c : Prop} [Decidable c] {a b : Option (Int × JMem)} (h1 : c → Good a) (h2 : ¬ c → Good b) : Good (if c then a else b) := by
  by_cases h : c
  · rw [if_pos h]; exact h1 h
  · rw [if_neg h]; exact h2 h
theorem Good.pos {c : Prop} [Decidable c] {a b : Option (Int × JMem)} (h : c) (h1 : Good a) : Good (if c then a else b) := by rw [if_pos h]; exact h1
theorem Good.neg {c : Prop} [Decidable c] {a b : Option (Int × JMem)} (h : ¬ c) (h1 : Good b) : Good (if c then a else b) := by rw [if_neg h]; exact h1
theorem Good.chk {P : Prop} [Decidable P] {o : Option (Int × JMem)} (h : P) (h1 : Good o) : Good (chk P o) := by rw [chk_pos h]; exact h1
theorem Good.bnd {o : Option (Int × JMem)} {r : Int} {M : JMem} {f : Int → JMem → Option (Int × JMem)} (h : o = some (r, M)) (h1 : Good (f r M)) : Good (bnd o f) := by rw [bnd_eq h]; exact h1
/-- two ways to the same answer that keep the invariant -/
def Pr (R : JMem → Prop) (f g : JMem → Option (Int × JMem)) : Prop := ∀ M, R M → ∃ r M1 s M2, f M = some (r, M1) ∧ g M1 = some (s, M2) ∧ jw r = jw s ∧ R M2
def PrL (R : JMem → Prop) (f g : JMem → Option (Int × JMem)) : Prop := ∀ M, R M → ∃ r M1 s M2, f M = some (r, M1) ∧ g M1 = some (s, M2) ∧ jw (jcmp r s) = 0 ∧ R M2
def jO_status (R : JMem → Prop) (n : Nat) : Prop := Pr R (f_X11_status n ) (f_X12_status n )
def jO_top (R : JMem → Prop) (n : Nat) : Prop := PrL R (f_X11_top n ) (f_X12_top n )
def jO_bottom (R : JMem → Prop) (n : Nat) : Prop := PrL R (f_X11_bottom n ) (f_X12_bottom n )
def jO_tray (R : JMem → Prop) (n : Nat) : Prop := ∀ x1 x2 x3 : Int, I32 x1 → I32 x2 → I32 x3 → Pr R (f_X11_tray n x1 x2 x3) (f_X12_tray n x1 x2 x3)
def jO_write (R : JMem → Prop) (n : Nat) : Prop := ∀ x1 x2 x3 : Int, I32 x1 → I32 x2 → Pr R (f_X11_write n x1 x2 x3) (f_X12_write n x1 x2 x3)
def jO_read (R : JMem → Prop) (n : Nat) : Prop := ∀ x1 x2 : Int, I32 x1 → I32 x2 → PrL R (f_X11_read n x1 x2) (f_X12_read n x1 x2)
def jO_pour (R : JMem → Prop) (n : Nat) : Prop := ∀ x1 x2 x3 x4 x5 : Int, I32 x1 → I32 x2 → I32 x3 → I32 x4 → I32 x5 → Pr R (f_X11_pour n x1 x2 x3 x4 x5) (f_X12_pour n x1 x2 x3 x4 x5)
def jO_feed (R : JMem → Prop) (n : Nat) : Prop := ∀ x1 x2 x3 x4 x5 : Int, I32 x1 → I32 x2 → I32 x3 → I32 x4 → I32 x5 → Pr R (f_X11_feed n x1 x2 x3 x4 x5) (f_X12_feed n x1 x2 x3 x4 x5)
def jO_park (R : JMem → Prop) (n : Nat) : Prop := ∀ x1 : Int, I32 x1 → Pr R (f_X11_park n x1) (f_X12_park n x1)
def jO_weeks (R : JMem → Prop) (n : Nat) : Prop := ∀ x1 : Int, I32 x1 → Pr R (f_X11_weeks n x1) (f_X12_weeks n x1)
def jO_fault (R : JMem → Prop) (n : Nat) : Prop := ∀ x1 : Int, I32 x1 → Pr R (f_X11_fault n x1) (f_X12_fault n x1)
def jO_told (R : JMem → Prop) (n : Nat) : Prop := ∀ x1 : Int, I32 x1 → Pr R (f_X11_told n x1) (f_X12_told n x1)
def jO_train (R : JMem → Prop) (n : Nat) : Prop := ∀ x1 x2 : Int, I32 x1 → I32 x2 → Pr R (f_X11_train n x1 x2) (f_X12_train n x1 x2)
def jO_beast (R : JMem → Prop) (n : Nat) : Prop := ∀ x1 x2 : Int, I32 x1 → I32 x2 → Pr R (f_X11_beast n x1 x2) (f_X12_beast n x1 x2)
def jO_at (R : JMem → Prop) (n : Nat) : Prop := ∀ x1 : Int, I32 x1 → Pr R (f_X11_at n x1) (f_X12_at n x1)
def jO_there (R : JMem → Prop) (n : Nat) : Prop := ∀ x1 : Int, I32 x1 → Pr R (f_X11_there n x1) (f_X12_there n x1)
def jO_together (R : JMem → Prop) (n : Nat) : Prop := ∀ x1 x2 : Int, I32 x1 → I32 x2 → Pr R (f_X11_together n x1 x2) (f_X12_together n x1 x2)
def jO_hour (R : JMem → Prop) (n : Nat) : Prop := ∀ x1 : Int, I32 x1 → Pr R (f_X11_hour n x1) (f_X12_hour n x1)
def jO_monday (R : JMem → Prop) (n : Nat) : Prop := Pr R (f_X11_monday n ) (f_X12_monday n )
def jO_ticket (R : JMem → Prop) (n : Nat) : Prop := ∀ x1 x2 x3 : Int, I32 x1 → I32 x2 → (x3 = 0 ∨ x3 = 1) → Pr R (f_X11_ticket n x1 x2 x3) (f_X12_ticket n x1 x2 x3)
def jO_let (R : JMem → Prop) (n : Nat) : Prop := ∀ x1 x2 : Int, I32 x1 → (x2 = 0 ∨ x2 = 1) → Pr R (f_X11_let n x1 x2) (f_X12_let n x1 x2)
def jO_halt (R : JMem → Prop) (n : Nat) : Prop := ∀ x1 x2 : Int, I32 x1 → (x2 = 0 ∨ x2 = 1) → Pr R (f_X11_halt n x1 x2) (f_X12_halt n x1 x2)
def jO_trust (R : JMem → Prop) (n : Nat) : Prop := ∀ x1 x2 : Int, I32 x1 → I32 x2 → Pr R (f_X11_trust n x1 x2) (f_X12_trust n x1 x2)
def jO_shift (R : JMem → Prop) (n : Nat) : Prop := ∀ x1 x2 : Int, I32 x1 → I32 x2 → Pr R (f_X11_shift n x1 x2) (f_X12_shift n x1 x2)
def jO_hunt (R : JMem → Prop) (n : Nat) : Prop := ∀ x1 x2 x3 : Int, I32 x1 → I32 x2 → (x3 = 0 ∨ x3 = 1) → Pr R (f_X11_hunt n x1 x2 x3) (f_X12_hunt n x1 x2 x3)
def jO_mourn (R : JMem → Prop) (n : Nat) : Prop := ∀ x1 : Int, I32 x1 → Pr R (f_X11_mourn n x1) (f_X12_mourn n x1)
def jO_rule (R : JMem → Prop) (n : Nat) : Prop := ∀ x1 : Int, I32 x1 → Pr R (f_X11_rule n x1) (f_X12_rule n x1)
def jO_where (R : JMem → Prop) (n : Nat) : Prop := ∀ x1 x2 : Int, I32 x1 → I32 x2 → Pr R (f_X11_where n x1 x2) (f_X12_where n x1 x2)
def jO_eatenAt (R : JMem → Prop) (n : Nat) : Prop := ∀ x1 : Int, I32 x1 → Pr R (f_X11_eatenAt n x1) (f_X12_eatenAt n x1)
def jO_eater (R : JMem → Prop) (n : Nat) : Prop := ∀ x1 : Int, I32 x1 → Pr R (f_X11_eater n x1) (f_X12_eater n x1)
def jO_meet (R : JMem → Prop) (n : Nat) : Prop := ∀ x1 x2 : Int, I32 x1 → I32 x2 → Pr R (f_X11_meet n x1 x2) (f_X12_meet n x1 x2)
def jO_lateBy (R : JMem → Prop) (n : Nat) : Prop := Pr R (f_X11_lateBy n ) (f_X12_lateBy n )
def jO_peace (R : JMem → Prop) (n : Nat) : Prop := ∀ x1 : Int, I32 x1 → Pr R (f_X11_peace n x1) (f_X12_peace n x1)
def jO_eatenBy (R : JMem → Prop) (n : Nat) : Prop := ∀ x1 : Int, I32 x1 → Pr R (f_X11_eatenBy n x1) (f_X12_eatenBy n x1)
def jO_most (R : JMem → Prop) (n : Nat) : Prop := Pr R (f_X11_most n ) (f_X12_most n )
def jO_soonest (R : JMem → Prop) (n : Nat) : Prop := ∀ x1 x2 x3 : Int, I32 x1 → I32 x2 → I32 x3 → Pr R (f_X11_soonest n x1 x2 x3) (f_X12_soonest n x1 x2 x3)
def jO_soonestBy (R : JMem → Prop) (n : Nat) : Prop := ∀ x1 x2 x3 : Int, I32 x1 → I32 x2 → I32 x3 → Pr R (f_X11_soonestBy n x1 x2 x3) (f_X12_soonestBy n x1 x2 x3)
def jO_latest (R : JMem → Prop) (n : Nat) : Prop := ∀ x1 x2 x3 : Int, I32 x1 → I32 x2 → I32 x3 → Pr R (f_X11_latest n x1 x2 x3) (f_X12_latest n x1 x2 x3)
def jO_stay (R : JMem → Prop) (n : Nat) : Prop := ∀ x1 : Int, I32 x1 → Pr R (f_X11_stay n x1) (f_X12_stay n x1)
def jO_reach (R : JMem → Prop) (n : Nat) : Prop := Pr R (f_X11_reach n ) (f_X12_reach n )
def jO_cut (R : JMem → Prop) (n : Nat) : Prop := ∀ x1 : Int, I32 x1 → Pr R (f_X11_cut n x1) (f_X12_cut n x1)
def jO_cutSet (R : JMem → Prop) (n : Nat) : Prop := ∀ x1 : Int, I32 x1 → Pr R (f_X11_cutSet n x1) (f_X12_cutSet n x1)
def jO_snow (R : JMem → Prop) (n : Nat) : Prop := ∀ x1 : Int, I32 x1 → Pr R (f_X11_snow n x1) (f_X12_snow n x1)
def jO_back (R : JMem → Prop) (n : Nat) : Prop := ∀ x1 x2 : Int, I32 x1 → I32 x2 → Pr R (f_X11_back n x1 x2) (f_X12_back n x1 x2)
def jO_wildest (R : JMem → Prop) (n : Nat) : Prop := ∀ x1 : Int, I32 x1 → Pr R (f_X11_wildest n x1) (f_X12_wildest n x1)
def jO_rooms (R : JMem → Prop) (n : Nat) : Prop := ∀ x1 x2 : Int, I32 x1 → I32 x2 → Pr R (f_X11_rooms n x1 x2) (f_X12_rooms n x1 x2)
def jO_roomSize (R : JMem → Prop) (n : Nat) : Prop := ∀ x1 x2 : Int, I32 x1 → I32 x2 → Pr R (f_X11_roomSize n x1 x2) (f_X12_roomSize n x1 x2)
def jO_sets (R : JMem → Prop) (n : Nat) : Prop := ∀ x1 x2 x3 : Int, I32 x1 → I32 x2 → I32 x3 → Pr R (f_X11_sets n x1 x2 x3) (f_X12_sets n x1 x2 x3)
def jO_sure (R : JMem → Prop) (n : Nat) : Prop := ∀ x1 x2 x3 : Int, I32 x1 → I32 x2 → I32 x3 → Pr R (f_X11_sure n x1 x2 x3) (f_X12_sure n x1 x2 x3)
def jO_slips (R : JMem → Prop) (n : Nat) : Prop := ∀ x1 x2 : Int, I32 x1 → I32 x2 → Pr R (f_X11_slips n x1 x2) (f_X12_slips n x1 x2)
def jO_copyPlaces (R : JMem → Prop) (n : Nat) : Prop := ∀ x1 : Int, I32 x1 → Pr R (f_X11_copyPlaces n x1) (f_X12_copyPlaces n x1)
def jO_live (R : JMem → Prop) (n : Nat) : Prop := ∀ x1 : Int, I32 x1 → Pr R (f_X11_live n x1) (f_X12_live n x1)
def jO_lived (R : JMem → Prop) (n : Nat) : Prop := ∀ x1 : Int, I32 x1 → Pr R (f_X11_lived n x1) (f_X12_lived n x1)
def jO_mean (R : JMem → Prop) (n : Nat) : Prop := ∀ x1 x2 : Int, I32 x1 → I32 x2 → Pr R (f_X11_mean n x1 x2) (f_X12_mean n x1 x2)
def jO_mark (R : JMem → Prop) (n : Nat) : Prop := Pr R (f_X11_mark n ) (f_X12_mark n )
def jO_undo (R : JMem → Prop) (n : Nat) : Prop := Pr R (f_X11_undo n ) (f_X12_undo n )
def jOps (R : JMem → Prop) (n : Nat) : Prop := jO_status R n ∧ jO_top R n ∧ jO_bottom R n ∧ jO_tray R n ∧ jO_write R n ∧ jO_read R n ∧ jO_pour R n ∧ jO_feed R n ∧ jO_park R n ∧ jO_weeks R n ∧ jO_fault R n ∧ jO_told R n ∧ jO_train R n ∧ jO_beast R n ∧ jO_at R n ∧ jO_there R n ∧ jO_together R n ∧ jO_hour R n ∧ jO_monday R n ∧ jO_ticket R n ∧ jO_let R n ∧ jO_halt R n ∧ jO_trust R n ∧ jO_shift R n ∧ jO_hunt R n ∧ jO_mourn R n ∧ jO_rule R n ∧ jO_where R n ∧ jO_eatenAt R n ∧ jO_eater R n ∧ jO_meet R n ∧ jO_lateBy R n ∧ jO_peace R n ∧ jO_eatenBy R n ∧ jO_most R n ∧ jO_soonest R n ∧ jO_soonestBy R n ∧ jO_latest R n ∧ jO_stay R n ∧ jO_reach R n ∧ jO_cut R n ∧ jO_cutSet R n ∧ jO_snow R n ∧ jO_back R n ∧ jO_wildest R n ∧ jO_rooms R n ∧ jO_roomSize R n ∧ jO_sets R n ∧ jO_sure R n ∧ jO_slips R n ∧ jO_copyPlaces R n ∧ jO_live R n ∧ jO_lived R n ∧ jO_mean R n ∧ jO_mark R n ∧ jO_undo R n
theorem jOps.status {R : JMem → Prop} {n : Nat} (h : jOps R n) : jO_status R n := h.1
theorem jOps.top {R : JMem → Prop} {n : Nat} (h : jOps R n) : jO_top R n := h.2.1
theorem jOps.bottom {R : JMem → Prop} {n : Nat} (h : jOps R n) : jO_bottom R n := h.2.2.1
theorem jOps.tray {R : JMem → Prop} {n : Nat} (h : jOps R n) : jO_tray R n := h.2.2.2.1
theorem jOps.write {R : JMem → Prop} {n : Nat} (h : jOps R n) : jO_write R n := h.2.2.2.2.1
theorem jOps.read {R : JMem → Prop} {n : Nat} (h : jOps R n) : jO_read R n := h.2.2.2.2.2.1
theorem jOps.pour {R : JMem → Prop} {n : Nat} (h : jOps R n) : jO_pour R n := h.2.2.2.2.2.2.1
theorem jOps.feed {R : JMem → Prop} {n : Nat} (h : jOps R n) : jO_feed R n := h.2.2.2.2.2.2.2.1
theorem jOps.park {R : JMem → Prop} {n : Nat} (h : jOps R n) : jO_park R n := h.2.2.2.2.2.2.2.2.1
theorem jOps.weeks {R : JMem → Prop} {n : Nat} (h : jOps R n) : jO_weeks R n := h.2.2.2.2.2.2.2.2.2.1
theorem jOps.fault {R : JMem → Prop} {n : Nat} (h : jOps R n) : jO_fault R n := h.2.2.2.2.2.2.2.2.2.2.1
theorem jOps.told {R : JMem → Prop} {n : Nat} (h : jOps R n) : jO_told R n := h.2.2.2.2.2.2.2.2.2.2.2.1
theorem jOps.train {R : JMem → Prop} {n : Nat} (h : jOps R n) : jO_train R n := h.2.2.2.2.2.2.2.2.2.2.2.2.1
theorem jOps.beast {R : JMem → Prop} {n : Nat} (h : jOps R n) : jO_beast R n := h.2.2.2.2.2.2.2.2.2.2.2.2.2.1
theorem jOps.at {R : JMem → Prop} {n : Nat} (h : jOps R n) : jO_at R n := h.2.2.2.2.2.2.2.2.2.2.2.2.2.2.1
theorem jOps.there {R : JMem → Prop} {n : Nat} (h : jOps R n) : jO_there R n := h.2.2.2.2.2.2.2.2.2.2.2.2.2.2.2.1
theorem jOps.together {R : JMem → Prop} {n : Nat} (h : jOps R n) : jO_together R n := h.2.2.2.2.2.2.2.2.2.2.2.2.2.2.2.2.1
theorem jOps.hour {R : JMem → Prop} {n : Nat} (h : jOps R n) : jO_hour R n := h.2.2.2.2.2.2.2.2.2.2.2.2.2.2.2.2.2.1
theorem jOps.monday {R : JMem → Prop} {n : Nat} (h : jOps R n) : jO_monday R n := h.2.2.2.2.2.2.2.2.2.2.2.2.2.2.2.2.2.2.1
theorem jOps.ticket {R : JMem → Prop} {n : Nat} (h : jOps R n) : jO_ticket R n := h.2.2.2.2.2.2.2.2.2.2.2.2.2.2.2.2.2.2.2.1
theorem jOps.let {R : JMem → Prop} {n : Nat} (h : jOps R n) : jO_let R n := h.2.2.2.2.2.2.2.2.2.2.2.2.2.2.2.2.2.2.2.2.1
theorem jOps.halt {R : JMem → Prop} {n : Nat} (h : jOps R n) : jO_halt R n := h.2.2.2.2.2.2.2.2.2.2.2.2.2.2.2.2.2.2.2.2.2.1
theorem jOps.trust {R : JMem → Prop} {n : Nat} (h : jOps R n) : jO_trust R n := h.2.2.2.2.2.2.2.2.2.2.2.2.2.2.2.2.2.2.2.2.2.2.1
theorem jOps.shift {R : JMem → Prop} {n : Nat} (h : jOps R n) : jO_shift R n := h.2.2.2.2.2.2.2.2.2.2.2.2.2.2.2.2.2.2.2.2.2.2.2.1
theorem jOps.hunt {R : JMem → Prop} {n : Nat} (h : jOps R n) : jO_hunt R n := h.2.2.2.2.2.2.2.2.2.2.2.2.2.2.2.2.2.2.2.2.2.2.2.2.1
theorem jOps.mourn {R : JMem → Prop} {n : Nat} (h : jOps R n) : jO_mourn R n := h.2.2.2.2.2.2.2.2.2.2.2.2.2.2.2.2.2.2.2.2.2.2.2.2.2.1
theorem jOps.rule {R : JMem → Prop} {n : Nat} (h : jOps R n) : jO_rule R n := h.2.2.2.2.2.2.2.2.2.2.2.2.2.2.2.2.2.2.2.2.2.2.2.2.2.2.1
theorem jOps.where {R : JMem → Prop} {n : Nat} (h : jOps R n) : jO_where R n := h.2.2.2.2.2.2.2.2.2.2.2.2.2.2.2.2.2.2.2.2.2.2.2.2.2.2.2.1
theorem jOps.eatenAt {R : JMem → Prop} {n : Nat} (h : jOps R n) : jO_eatenAt R n := h.2.2.2.2.2.2.2.2.2.2.2.2.2.2.2.2.2.2.2.2.2.2.2.2.2.2.2.2.1
theorem jOps.eater {R : JMem → Prop} {n : Nat} (h : jOps R n) : jO_eater R n := h.2.2.2.2.2.2.2.2.2.2.2.2.2.2.2.2.2.2.2.2.2.2.2.2.2.2.2.2.2.1
theorem jOps.meet {R : JMem → Prop} {n : Nat} (h : jOps R n) : jO_meet R n := h.2.2.2.2.2.2.2.2.2.2.2.2.2.2.2.2.2.2.2.2.2.2.2.2.2.2.2.2.2.2.1
theorem jOps.lateBy {R : JMem → Prop} {n : Nat} (h : jOps R n) : jO_lateBy R n := h.2.2.2.2.2.2.2.2.2.2.2.2.2.2.2.2.2.2.2.2.2.2.2.2.2.2.2.2.2.2.2.1
theorem jOps.peace {R : JMem → Prop} {n : Nat} (h : jOps R n) : jO_peace R n := h.2.2.2.2.2.2.2.2.2.2.2.2.2.2.2.2.2.2.2.2.2.2.2.2.2.2.2.2.2.2.2.2.1
theorem jOps.eatenBy {R : JMem → Prop} {n : Nat} (h : jOps R n) : jO_eatenBy R n := h.2.2.2.2.2.2.2.2.2.2.2.2.2.2.2.2.2.2.2.2.2.2.2.2.2.2.2.2.2.2.2.2.2.1
theorem jOps.most {R : JMem → Prop} {n : Nat} (h : jOps R n) : jO_most R n := h.2.2.2.2.2.2.2.2.2.2.2.2.2.2.2.2.2.2.2.2.2.2.2.2.2.2.2.2.2.2.2.2.2.2.1
theorem jOps.soonest {R : JMem → Prop} {n : Nat} (h : jOps R n) : jO_soonest R n := h.2.2.2.2.2.2.2.2.2.2.2.2.2.2.2.2.2.2.2.2.2.2.2.2.2.2.2.2.2.2.2.2.2.2.2.1
theorem jOps.soonestBy {R : JMem → Prop} {n : Nat} (h : jOps R n) : jO_soonestBy R n := h.2.2.2.2.2.2.2.2.2.2.2.2.2.2.2.2.2.2.2.2.2.2.2.2.2.2.2.2.2.2.2.2.2.2.2.2.1
theorem jOps.latest {R : JMem → Prop} {n : Nat} (h : jOps R n) : jO_latest R n := h.2.2.2.2.2.2.2.2.2.2.2.2.2.2.2.2.2.2.2.2.2.2.2.2.2.2.2.2.2.2.2.2.2.2.2.2.2.1
theorem jOps.stay {R : JMem → Prop} {n : Nat} (h : jOps R n) : jO_stay R n := h.2.2.2.2.2.2.2.2.2.2.2.2.2.2.2.2.2.2.2.2.2.2.2.2.2.2.2.2.2.2.2.2.2.2.2.2.2.2.1
theorem jOps.reach {R : JMem → Prop} {n : Nat} (h : jOps R n) : jO_reach R n := h.2.2.2.2.2.2.2.2.2.2.2.2.2.2.2.2.2.2.2.2.2.2.2.2.2.2.2.2.2.2.2.2.2.2.2.2.2.2.2.1
theorem jOps.cut {R : JMem → Prop} {n : Nat} (h : jOps R n) : jO_cut R n := h.2.2.2.2.2.2.2.2.2.2.2.2.2.2.2.2.2.2.2.2.2.2.2.2.2.2.2.2.2.2.2.2.2.2.2.2.2.2.2.2.1
theorem jOps.cutSet {R : JMem → Prop} {n : Nat} (h : jOps R n) : jO_cutSet R n := h.2.2.2.2.2.2.2.2.2.2.2.2.2.2.2.2.2.2.2.2.2.2.2.2.2.2.2.2.2.2.2.2.2.2.2.2.2.2.2.2.2.1
theorem jOps.snow {R : JMem → Prop} {n : Nat} (h : jOps R n) : jO_snow R n := h.2.2.2.2.2.2.2.2.2.2.2.2.2.2.2.2.2.2.2.2.2.2.2.2.2.2.2.2.2.2.2.2.2.2.2.2.2.2.2.2.2.2.1
theorem jOps.back {R : JMem → Prop} {n : Nat} (h : jOps R n) : jO_back R n := h.2.2.2.2.2.2.2.2.2.2.2.2.2.2.2.2.2.2.2.2.2.2.2.2.2.2.2.2.2.2.2.2.2.2.2.2.2.2.2.2.2.2.2.1
theorem jOps.wildest {R : JMem → Prop} {n : Nat} (h : jOps R n) : jO_wildest R n := h.2.2.2.2.2.2.2.2.2.2.2.2.2.2.2.2.2.2.2.2.2.2.2.2.2.2.2.2.2.2.2.2.2.2.2.2.2.2.2.2.2.2.2.2.1
theorem jOps.rooms {R : JMem → Prop} {n : Nat} (h : jOps R n) : jO_rooms R n := h.2.2.2.2.2.2.2.2.2.2.2.2.2.2.2.2.2.2.2.2.2.2.2.2.2.2.2.2.2.2.2.2.2.2.2.2.2.2.2.2.2.2.2.2.2.1
theorem jOps.roomSize {R : JMem → Prop} {n : Nat} (h : jOps R n) : jO_roomSize R n := h.2.2.2.2.2.2.2.2.2.2.2.2.2.2.2.2.2.2.2.2.2.2.2.2.2.2.2.2.2.2.2.2.2.2.2.2.2.2.2.2.2.2.2.2.2.2.1
theorem jOps.sets {R : JMem → Prop} {n : Nat} (h : jOps R n) : jO_sets R n := h.2.2.2.2.2.2.2.2.2.2.2.2.2.2.2.2.2.2.2.2.2.2.2.2.2.2.2.2.2.2.2.2.2.2.2.2.2.2.2.2.2.2.2.2.2.2.2.1
theorem jOps.sure {R : JMem → Prop} {n : Nat} (h : jOps R n) : jO_sure R n := h.2.2.2.2.2.2.2.2.2.2.2.2.2.2.2.2.2.2.2.2.2.2.2.2.2.2.2.2.2.2.2.2.2.2.2.2.2.2.2.2.2.2.2.2.2.2.2.2.1
theorem jOps.slips {R : JMem → Prop} {n : Nat} (h : jOps R n) : jO_slips R n := h.2.2.2.2.2.2.2.2.2.2.2.2.2.2.2.2.2.2.2.2.2.2.2.2.2.2.2.2.2.2.2.2.2.2.2.2.2.2.2.2.2.2.2.2.2.2.2.2.2.1
theorem jOps.copyPlaces {R : JMem → Prop} {n : Nat} (h : jOps R n) : jO_copyPlaces R n := h.2.2.2.2.2.2.2.2.2.2.2.2.2.2.2.2.2.2.2.2.2.2.2.2.2.2.2.2.2.2.2.2.2.2.2.2.2.2.2.2.2.2.2.2.2.2.2.2.2.2.1
theorem jOps.live {R : JMem → Prop} {n : Nat} (h : jOps R n) : jO_live R n := h.2.2.2.2.2.2.2.2.2.2.2.2.2.2.2.2.2.2.2.2.2.2.2.2.2.2.2.2.2.2.2.2.2.2.2.2.2.2.2.2.2.2.2.2.2.2.2.2.2.2.2.1
theorem jOps.lived {R : JMem → Prop} {n : Nat} (h : jOps R n) : jO_lived R n := h.2.2.2.2.2.2.2.2.2.2.2.2.2.2.2.2.2.2.2.2.2.2.2.2.2.2.2.2.2.2.2.2.2.2.2.2.2.2.2.2.2.2.2.2.2.2.2.2.2.2.2.2.1
theorem jOps.mean {R : JMem → Prop} {n : Nat} (h : jOps R n) : jO_mean R n := h.2.2.2.2.2.2.2.2.2.2.2.2.2.2.2.2.2.2.2.2.2.2.2.2.2.2.2.2.2.2.2.2.2.2.2.2.2.2.2.2.2.2.2.2.2.2.2.2.2.2.2.2.2.1
theorem jOps.mark {R : JMem → Prop} {n : Nat} (h : jOps R n) : jO_mark R n := h.2.2.2.2.2.2.2.2.2.2.2.2.2.2.2.2.2.2.2.2.2.2.2.2.2.2.2.2.2.2.2.2.2.2.2.2.2.2.2.2.2.2.2.2.2.2.2.2.2.2.2.2.2.2.1
theorem jOps.undo {R : JMem → Prop} {n : Nat} (h : jOps R n) : jO_undo R n := h.2.2.2.2.2.2.2.2.2.2.2.2.2.2.2.2.2.2.2.2.2.2.2.2.2.2.2.2.2.2.2.2.2.2.2.2.2.2.2.2.2.2.2.2.2.2.2.2.2.2.2.2.2.2.2
set_option maxRecDepth 20000 in
set_option maxHeartbeats 4000000 in
theorem law_good {R : JMem → Prop} {n L : Nat} {X : Nat → Int} (hO : jOps R n) (hL : L ≤ 3072) (hX : ∀ j, I32 (X j)) : ∀ (k : Nat) (v3 : Int) (M : JMem), R M → 0 ≤ v3 → v3 ≤ L → (L : Int) + 6 < v3 + 6 * k → Good (f_L_law_L18 n L X k v3 M) := by
  intro k
  induction k with
  | zero => intro v3 M hR h0 h1 h2; omega
  | succ k ih =>
  intro v3 M hR h0 h1 h2
  rw [f_L_law_L18]
  refine Good.ite (fun e => ⟨_, _, rfl⟩) (fun e => ?_)
  rw [jw_of (show -2147483648 ≤ (L : Int) - 6 by omega) (by omega), jw_of (show -2147483648 ≤ v3 by omega) (by omega)] at e
  have hnext : ∀ M', R M' → Good (f_L_law_L1977 n L X (f_L_law_L18 n L X k) v3 M') := fun M' h => ih (v3 + 6) M' h (by omega) (by omega) (by omega)
  refine Good.chk (jin_of (by omega) (by omega) (by omega)) ?_
  refine Good.ite (fun e0 => ?_) (fun e0 => ?_)
  · skip
    obtain ⟨r, M1, s, M2, h1, h2, h3, h4⟩ := hO.status  M hR
    refine Good.bnd h1 ?_
    refine Good.bnd h2 ?_
    refine Good.pos h3 ?_
    exact hnext _ h4
  refine Good.ite (fun e1 => ?_) (fun e1 => ?_)
  · skip
    obtain ⟨r, M1, s, M2, h1, h2, h3, h4⟩ := hO.top  M hR
    refine Good.bnd h1 ?_
    refine Good.bnd h2 ?_
    refine Good.pos h3 ?_
    exact hnext _ h4
  refine Good.ite (fun e2 => ?_) (fun e2 => ?_)
  · skip
    obtain ⟨r, M1, s, M2, h1, h2, h3, h4⟩ := hO.bottom  M hR
    refine Good.bnd h1 ?_
    refine Good.bnd h2 ?_
    refine Good.pos h3 ?_
    exact hnext _ h4
  refine Good.ite (fun e3 => ?_) (fun e3 => ?_)
  · skip
    refine Good.chk (jin_of (by omega) (by omega) (by omega)) ?_
    refine Good.chk (jin_of (by omega) (by omega) (by omega)) ?_
    refine Good.chk (jin_of (by omega) (by omega) (by omega)) ?_
    obtain ⟨r, M1, s, M2, h1, h2, h3, h4⟩ := hO.tray (X (jw (v3 + 1)).toNat) (X (jw (v3 + 2)).toNat) (X (jw (v3 + 3)).toNat) (hX _) (hX _) (hX _) M hR
    refine Good.bnd h1 ?_
    refine Good.chk (jin_of (by omega) (by omega) (by omega)) ?_
    refine Good.chk (jin_of (by omega) (by omega) (by omega)) ?_
    refine Good.chk (jin_of (by omega) (by omega) (by omega)) ?_
    refine Good.bnd h2 ?_
    refine Good.pos h3 ?_
    exact hnext _ h4
  refine Good.ite (fun e4 => ?_) (fun e4 => ?_)
  · skip
    refine Good.chk (jin_of (by omega) (by omega) (by omega)) ?_
    refine Good.chk (jin_of (by omega) (by omega) (by omega)) ?_
    refine Good.chk (jin_of (by omega) (by omega) (by omega)) ?_
    refine Good.chk (jin_of (by omega) (by omega) (by omega)) ?_
    obtain ⟨r, M1, s, M2, h1, h2, h3, h4⟩ := hO.write (X (jw (v3 + 1)).toNat) (X (jw (v3 + 2)).toNat) (jlor (jlshl (jw (X (jw (v3 + 3)).toNat)) 32) (jland (jw (X (jw (v3 + 4)).toNat)) 4294967295)) (hX _) (hX _) M hR
    refine Good.bnd h1 ?_
    refine Good.chk (jin_of (by omega) (by omega) (by omega)) ?_
    refine Good.chk (jin_of (by omega) (by omega) (by omega)) ?_
    refine Good.chk (jin_of (by omega) (by omega) (by omega)) ?_
    refine Good.chk (jin_of (by omega) (by omega) (by omega)) ?_
    refine Good.bnd h2 ?_
    refine Good.pos h3 ?_
    exact hnext _ h4
  refine Good.ite (fun e5 => ?_) (fun e5 => ?_)
  · skip
    refine Good.chk (jin_of (by omega) (by omega) (by omega)) ?_
    refine Good.chk (jin_of (by omega) (by omega) (by omega)) ?_
    obtain ⟨r, M1, s, M2, h1, h2, h3, h4⟩ := hO.read (X (jw (v3 + 1)).toNat) (X (jw (v3 + 2)).toNat) (hX _) (hX _) M hR
    refine Good.bnd h1 ?_
    refine Good.chk (jin_of (by omega) (by omega) (by omega)) ?_
    refine Good.chk (jin_of (by omega) (by omega) (by omega)) ?_
    refine Good.bnd h2 ?_
    refine Good.pos h3 ?_
    exact hnext _ h4
  refine Good.ite (fun e6 => ?_) (fun e6 => ?_)
  · skip
    refine Good.chk (jin_of (by omega) (by omega) (by omega)) ?_
    refine Good.chk (jin_of (by omega) (by omega) (by omega)) ?_
    refine Good.chk (jin_of (by omega) (by omega) (by omega)) ?_
    refine Good.chk (jin_of (by omega) (by omega) (by omega)) ?_
    refine Good.chk (jin_of (by omega) (by omega) (by omega)) ?_
    obtain ⟨r, M1, s, M2, h1, h2, h3, h4⟩ := hO.pour (X (jw (v3 + 1)).toNat) (X (jw (v3 + 2)).toNat) (X (jw (v3 + 3)).toNat) (X (jw (v3 + 4)).toNat) (X (jw (v3 + 5)).toNat) (hX _) (hX _) (hX _) (hX _) (hX _) M hR
    refine Good.bnd h1 ?_
    refine Good.chk (jin_of (by omega) (by omega) (by omega)) ?_
    refine Good.chk (jin_of (by omega) (by omega) (by omega)) ?_
    refine Good.chk (jin_of (by omega) (by omega) (by omega)) ?_
    refine Good.chk (jin_of (by omega) (by omega) (by omega)) ?_
    refine Good.chk (jin_of (by omega) (by omega) (by omega)) ?_
    refine Good.bnd h2 ?_
    refine Good.pos h3 ?_
    exact hnext _ h4
  refine Good.ite (fun e7 => ?_) (fun e7 => ?_)
  · skip
    refine Good.chk (jin_of (by omega) (by omega) (by omega)) ?_
    refine Good.chk (jin_of (by omega) (by omega) (by omega)) ?_
    refine Good.chk (jin_of (by omega) (by omega) (by omega)) ?_
    refine Good.chk (jin_of (by omega) (by omega) (by omega)) ?_
    refine Good.chk (jin_of (by omega) (by omega) (by omega)) ?_
    obtain ⟨r, M1, s, M2, h1, h2, h3, h4⟩ := hO.feed (X (jw (v3 + 1)).toNat) (X (jw (v3 + 2)).toNat) (X (jw (v3 + 3)).toNat) (X (jw (v3 + 4)).toNat) (X (jw (v3 + 5)).toNat) (hX _) (hX _) (hX _) (hX _) (hX _) M hR
    refine Good.bnd h1 ?_
    refine Good.chk (jin_of (by omega) (by omega) (by omega)) ?_
    refine Good.chk (jin_of (by omega) (by omega) (by omega)) ?_
    refine Good.chk (jin_of (by omega) (by omega) (by omega)) ?_
    refine Good.chk (jin_of (by omega) (by omega) (by omega)) ?_
    refine Good.chk (jin_of (by omega) (by omega) (by omega)) ?_
    refine Good.bnd h2 ?_
    refine Good.pos h3 ?_
    exact hnext _ h4
  refine Good.ite (fun e8 => ?_) (fun e8 => ?_)
  · skip
    refine Good.chk (jin_of (by omega) (by omega) (by omega)) ?_
    obtain ⟨r, M1, s, M2, h1, h2, h3, h4⟩ := hO.park (X (jw (v3 + 1)).toNat) (hX _) M hR
    refine Good.bnd h1 ?_
    refine Good.chk (jin_of (by omega) (by omega) (by omega)) ?_
    refine Good.bnd h2 ?_
    refine Good.pos h3 ?_
    exact hnext _ h4
  refine Good.ite (fun e9 => ?_) (fun e9 => ?_)
  · skip
    refine Good.chk (jin_of (by omega) (by omega) (by omega)) ?_
    obtain ⟨r, M1, s, M2, h1, h2, h3, h4⟩ := hO.weeks (X (jw (v3 + 1)).toNat) (hX _) M hR
    refine Good.bnd h1 ?_
    refine Good.chk (jin_of (by omega) (by omega) (by omega)) ?_
    refine Good.bnd h2 ?_
    refine Good.pos h3 ?_
    exact hnext _ h4
  refine Good.ite (fun e10 => ?_) (fun e10 => ?_)
  · skip
    refine Good.chk (jin_of (by omega) (by omega) (by omega)) ?_
    obtain ⟨r, M1, s, M2, h1, h2, h3, h4⟩ := hO.fault (X (jw (v3 + 1)).toNat) (hX _) M hR
    refine Good.bnd h1 ?_
    refine Good.chk (jin_of (by omega) (by omega) (by omega)) ?_
    refine Good.bnd h2 ?_
    refine Good.pos h3 ?_
    exact hnext _ h4
  refine Good.ite (fun e11 => ?_) (fun e11 => ?_)
  · skip
    refine Good.chk (jin_of (by omega) (by omega) (by omega)) ?_
    obtain ⟨r, M1, s, M2, h1, h2, h3, h4⟩ := hO.told (X (jw (v3 + 1)).toNat) (hX _) M hR
    refine Good.bnd h1 ?_
    refine Good.chk (jin_of (by omega) (by omega) (by omega)) ?_
    refine Good.bnd h2 ?_
    refine Good.pos h3 ?_
    exact hnext _ h4
  refine Good.ite (fun e12 => ?_) (fun e12 => ?_)
  · skip
    refine Good.chk (jin_of (by omega) (by omega) (by omega)) ?_
    refine Good.chk (jin_of (by omega) (by omega) (by omega)) ?_
    obtain ⟨r, M1, s, M2, h1, h2, h3, h4⟩ := hO.train (X (jw (v3 + 1)).toNat) (X (jw (v3 + 2)).toNat) (hX _) (hX _) M hR
    refine Good.bnd h1 ?_
    refine Good.chk (jin_of (by omega) (by omega) (by omega)) ?_
    refine Good.chk (jin_of (by omega) (by omega) (by omega)) ?_
    refine Good.bnd h2 ?_
    refine Good.pos h3 ?_
    exact hnext _ h4
  refine Good.ite (fun e13 => ?_) (fun e13 => ?_)
  · skip
    refine Good.chk (jin_of (by omega) (by omega) (by omega)) ?_
    refine Good.chk (jin_of (by omega) (by omega) (by omega)) ?_
    obtain ⟨r, M1, s, M2, h1, h2, h3, h4⟩ := hO.beast (X (jw (v3 + 1)).toNat) (X (jw (v3 + 2)).toNat) (hX _) (hX _) M hR
    refine Good.bnd h1 ?_
    refine Good.chk (jin_of (by omega) (by omega) (by omega)) ?_
    refine Good.chk (jin_of (by omega) (by omega) (by omega)) ?_
    refine Good.bnd h2 ?_
    refine Good.pos h3 ?_
    exact hnext _ h4
  refine Good.ite (fun e14 => ?_) (fun e14 => ?_)
  · skip
    refine Good.chk (jin_of (by omega) (by omega) (by omega)) ?_
    obtain ⟨r, M1, s, M2, h1, h2, h3, h4⟩ := hO.at (X (jw (v3 + 1)).toNat) (hX _) M hR
    refine Good.bnd h1 ?_
    refine Good.chk (jin_of (by omega) (by omega) (by omega)) ?_
    refine Good.bnd h2 ?_
    refine Good.pos h3 ?_
    exact hnext _ h4
  refine Good.ite (fun e15 => ?_) (fun e15 => ?_)
  · skip
    refine Good.chk (jin_of (by omega) (by omega) (by omega)) ?_
    obtain ⟨r, M1, s, M2, h1, h2, h3, h4⟩ := hO.there (X (jw (v3 + 1)).toNat) (hX _) M hR
    refine Good.bnd h1 ?_
    refine Good.chk (jin_of (by omega) (by omega) (by omega)) ?_
    refine Good.bnd h2 ?_
    refine Good.pos h3 ?_
    exact hnext _ h4
  refine Good.ite (fun e16 => ?_) (fun e16 => ?_)
  · skip
    refine Good.chk (jin_of (by omega) (by omega) (by omega)) ?_
    refine Good.chk (jin_of (by omega) (by omega) (by omega)) ?_
    obtain ⟨r, M1, s, M2, h1, h2, h3, h4⟩ := hO.together (X (jw (v3 + 1)).toNat) (X (jw (v3 + 2)).toNat) (hX _) (hX _) M hR
    refine Good.bnd h1 ?_
    refine Good.chk (jin_of (by omega) (by omega) (by omega)) ?_
    refine Good.chk (jin_of (by omega) (by omega) (by omega)) ?_
    refine Good.bnd h2 ?_
    refine Good.pos h3 ?_
    exact hnext _ h4
  refine Good.ite (fun e17 => ?_) (fun e17 => ?_)
  · skip
    refine Good.chk (jin_of (by omega) (by omega) (by omega)) ?_
    obtain ⟨r, M1, s, M2, h1, h2, h3, h4⟩ := hO.hour (X (jw (v3 + 1)).toNat) (hX _) M hR
    refine Good.bnd h1 ?_
    refine Good.chk (jin_of (by omega) (by omega) (by omega)) ?_
    refine Good.bnd h2 ?_
    refine Good.pos h3 ?_
    exact hnext _ h4
  refine Good.ite (fun e18 => ?_) (fun e18 => ?_)
  · skip
    obtain ⟨r, M1, s, M2, h1, h2, h3, h4⟩ := hO.monday  M hR
    refine Good.bnd h1 ?_
    refine Good.bnd h2 ?_
    refine Good.pos h3 ?_
    exact hnext _ h4
  refine Good.ite (fun e19 => ?_) (fun e19 => ?_)
  · skip
    refine Good.chk (jin_of (by omega) (by omega) (by omega)) ?_
    refine Good.chk (jin_of (by omega) (by omega) (by omega)) ?_
    refine Good.chk (jin_of (by omega) (by omega) (by omega)) ?_
    refine Good.ite (fun e20 => ?_) (fun e20 => ?_)
    · skip
      unfold f_L_law_L886
      obtain ⟨r, M1, s, M2, h1, h2, h3, h4⟩ := hO.ticket (X (jw (v3 + 1)).toNat) (X (jw (v3 + 2)).toNat) (0) (hX _) (hX _) (by decide) M hR
      refine Good.bnd h1 ?_
      refine Good.chk (jin_of (by omega) (by omega) (by omega)) ?_
      refine Good.chk (jin_of (by omega) (by omega) (by omega)) ?_
      refine Good.chk (jin_of (by omega) (by omega) (by omega)) ?_
      refine Good.pos e20 ?_
      unfold f_L_law_L913
      refine Good.bnd h2 ?_
      refine Good.pos h3 ?_
      exact hnext _ h4
    unfold f_L_law_L886
    obtain ⟨r, M1, s, M2, h1, h2, h3, h4⟩ := hO.ticket (X (jw (v3 + 1)).toNat) (X (jw (v3 + 2)).toNat) (1) (hX _) (hX _) (by decide) M hR
    refine Good.bnd h1 ?_
    refine Good.chk (jin_of (by omega) (by omega) (by omega)) ?_
    refine Good.chk (jin_of (by omega) (by omega) (by omega)) ?_
    refine Good.chk (jin_of (by omega) (by omega) (by omega)) ?_
    refine Good.neg e20 ?_
    unfold f_L_law_L913
    refine Good.bnd h2 ?_
    refine Good.pos h3 ?_
    exact hnext _ h4
  refine Good.ite (fun e20 => ?_) (fun e20 => ?_)
  · skip
    refine Good.chk (jin_of (by omega) (by omega) (by omega)) ?_
    refine Good.chk (jin_of (by omega) (by omega) (by omega)) ?_
    refine Good.ite (fun e21 => ?_) (fun e21 => ?_)
    · skip
      unfold f_L_law_L940
      obtain ⟨r, M1, s, M2, h1, h2, h3, h4⟩ := hO.let (X (jw (v3 + 1)).toNat) (0) (hX _) (by decide) M hR
      refine Good.bnd h1 ?_
      refine Good.chk (jin_of (by omega) (by omega) (by omega)) ?_
      refine Good.chk (jin_of (by omega) (by omega) (by omega)) ?_
      refine Good.pos e21 ?_
      unfold f_L_law_L962
      refine Good.bnd h2 ?_
      refine Good.pos h3 ?_
      exact hnext _ h4
    unfold f_L_law_L940
    obtain ⟨r, M1, s, M2, h1, h2, h3, h4⟩ := hO.let (X (jw (v3 + 1)).toNat) (1) (hX _) (by decide) M hR
    refine Good.bnd h1 ?_
    refine Good.chk (jin_of (by omega) (by omega) (by omega)) ?_
    refine Good.chk (jin_of (by omega) (by omega) (by omega)) ?_
    refine Good.neg e21 ?_
    unfold f_L_law_L962
    refine Good.bnd h2 ?_
    refine Good.pos h3 ?_
    exact hnext _ h4
  refine Good.ite (fun e21 => ?_) (fun e21 => ?_)
  · skip
    refine Good.chk (jin_of (by omega) (by omega) (by omega)) ?_
    refine Good.chk (jin_of (by omega) (by omega) (by omega)) ?_
    refine Good.ite (fun e22 => ?_) (fun e22 => ?_)
    · skip
      unfold f_L_law_L989
      obtain ⟨r, M1, s, M2, h1, h2, h3, h4⟩ := hO.halt (X (jw (v3 + 1)).toNat) (0) (hX _) (by decide) M hR
      refine Good.bnd h1 ?_
      refine Good.chk (jin_of (by omega) (by omega) (by omega)) ?_
      refine Good.chk (jin_of (by omega) (by omega) (by omega)) ?_
      refine Good.pos e22 ?_
      unfold f_L_law_L1011
      refine Good.bnd h2 ?_
      refine Good.pos h3 ?_
      exact hnext _ h4
    unfold f_L_law_L989
    obtain ⟨r, M1, s, M2, h1, h2, h3, h4⟩ := hO.halt (X (jw (v3 + 1)).toNat) (1) (hX _) (by decide) M hR
    refine Good.bnd h1 ?_
    refine Good.chk (jin_of (by omega) (by omega) (by omega)) ?_
    refine Good.chk (jin_of (by omega) (by omega) (by omega)) ?_
    refine Good.neg e22 ?_
    unfold f_L_law_L1011
    refine Good.bnd h2 ?_
    refine Good.pos h3 ?_
    exact hnext _ h4
  refine Good.ite (fun e22 => ?_) (fun e22 => ?_)
  · skip
    refine Good.chk (jin_of (by omega) (by omega) (by omega)) ?_
    refine Good.chk (jin_of (by omega) (by omega) (by omega)) ?_
    obtain ⟨r, M1, s, M2, h1, h2, h3, h4⟩ := hO.trust (X (jw (v3 + 1)).toNat) (X (jw (v3 + 2)).toNat) (hX _) (hX _) M hR
    refine Good.bnd h1 ?_
    refine Good.chk (jin_of (by omega) (by omega) (by omega)) ?_
    refine Good.chk (jin_of (by omega) (by omega) (by omega)) ?_
    refine Good.bnd h2 ?_
    refine Good.pos h3 ?_
    exact hnext _ h4
  refine Good.ite (fun e23 => ?_) (fun e23 => ?_)
  · skip
    refine Good.chk (jin_of (by omega) (by omega) (by omega)) ?_
    refine Good.chk (jin_of (by omega) (by omega) (by omega)) ?_
    obtain ⟨r, M1, s, M2, h1, h2, h3, h4⟩ := hO.shift (X (jw (v3 + 1)).toNat) (X (jw (v3 + 2)).toNat) (hX _) (hX _) M hR
    refine Good.bnd h1 ?_
    refine Good.chk (jin_of (by omega) (by omega) (by omega)) ?_
    refine Good.chk (jin_of (by omega) (by omega) (by omega)) ?_
    refine Good.bnd h2 ?_
    refine Good.pos h3 ?_
    exact hnext _ h4
  refine Good.ite (fun e24 => ?_) (fun e24 => ?_)
  · skip
    refine Good.chk (jin_of (by omega) (by omega) (by omega)) ?_
    refine Good.chk (jin_of (by omega) (by omega) (by omega)) ?_
    refine Good.chk (jin_of (by omega) (by omega) (by omega)) ?_
    refine Good.ite (fun e25 => ?_) (fun e25 => ?_)
    · skip
      unfold f_L_law_L1109
      obtain ⟨r, M1, s, M2, h1, h2, h3, h4⟩ := hO.hunt (X (jw (v3 + 1)).toNat) (X (jw (v3 + 2)).toNat) (0) (hX _) (hX _) (by decide) M hR
      refine Good.bnd h1 ?_
      refine Good.chk (jin_of (by omega) (by omega) (by omega)) ?_
      refine Good.chk (jin_of (by omega) (by omega) (by omega)) ?_
      refine Good.chk (jin_of (by omega) (by omega) (by omega)) ?_
      refine Good.pos e25 ?_
      unfold f_L_law_L1136
      refine Good.bnd h2 ?_
      refine Good.pos h3 ?_
      exact hnext _ h4
    unfold f_L_law_L1109
    obtain ⟨r, M1, s, M2, h1, h2, h3, h4⟩ := hO.hunt (X (jw (v3 + 1)).toNat) (X (jw (v3 + 2)).toNat) (1) (hX _) (hX _) (by decide) M hR
    refine Good.bnd h1 ?_
    refine Good.chk (jin_of (by omega) (by omega) (by omega)) ?_
    refine Good.chk (jin_of (by omega) (by omega) (by omega)) ?_
    refine Good.chk (jin_of (by omega) (by omega) (by omega)) ?_
    refine Good.neg e25 ?_
    unfold f_L_law_L1136
    refine Good.bnd h2 ?_
    refine Good.pos h3 ?_
    exact hnext _ h4
  refine Good.ite (fun e25 => ?_) (fun e25 => ?_)
  · skip
    refine Good.chk (jin_of (by omega) (by omega) (by omega)) ?_
    obtain ⟨r, M1, s, M2, h1, h2, h3, h4⟩ := hO.mourn (X (jw (v3 + 1)).toNat) (hX _) M hR
    refine Good.bnd h1 ?_
    refine Good.chk (jin_of (by omega) (by omega) (by omega)) ?_
    refine Good.bnd h2 ?_
    refine Good.pos h3 ?_
    exact hnext _ h4
  refine Good.ite (fun e26 => ?_) (fun e26 => ?_)
  · skip
    refine Good.chk (jin_of (by omega) (by omega) (by omega)) ?_
    obtain ⟨r, M1, s, M2, h1, h2, h3, h4⟩ := hO.rule (X (jw (v3 + 1)).toNat) (hX _) M hR
    refine Good.bnd h1 ?_
    refine Good.chk (jin_of (by omega) (by omega) (by omega)) ?_
    refine Good.bnd h2 ?_
    refine Good.pos h3 ?_
    exact hnext _ h4
  refine Good.ite (fun e27 => ?_) (fun e27 => ?_)
  · skip
    refine Good.chk (jin_of (by omega) (by omega) (by omega)) ?_
    refine Good.chk (jin_of (by omega) (by omega) (by omega)) ?_
    obtain ⟨r, M1, s, M2, h1, h2, h3, h4⟩ := hO.where (X (jw (v3 + 1)).toNat) (X (jw (v3 + 2)).toNat) (hX _) (hX _) M hR
    refine Good.bnd h1 ?_
    refine Good.chk (jin_of (by omega) (by omega) (by omega)) ?_
    refine Good.chk (jin_of (by omega) (by omega) (by omega)) ?_
    refine Good.bnd h2 ?_
    refine Good.pos h3 ?_
    exact hnext _ h4
  refine Good.ite (fun e28 => ?_) (fun e28 => ?_)
  · skip
    refine Good.chk (jin_of (by omega) (by omega) (by omega)) ?_
    obtain ⟨r, M1, s, M2, h1, h2, h3, h4⟩ := hO.eatenAt (X (jw (v3 + 1)).toNat) (hX _) M hR
    refine Good.bnd h1 ?_
    refine Good.chk (jin_of (by omega) (by omega) (by omega)) ?_
    refine Good.bnd h2 ?_
    refine Good.pos h3 ?_
    exact hnext _ h4
  refine Good.ite (fun e29 => ?_) (fun e29 => ?_)
  · skip
    refine Good.chk (jin_of (by omega) (by omega) (by omega)) ?_
    obtain ⟨r, M1, s, M2, h1, h2, h3, h4⟩ := hO.eater (X (jw (v3 + 1)).toNat) (hX _) M hR
    refine Good.bnd h1 ?_
    refine Good.chk (jin_of (by omega) (by omega) (by omega)) ?_
    refine Good.bnd h2 ?_
    refine Good.pos h3 ?_
    exact hnext _ h4
  refine Good.ite (fun e30 => ?_) (fun e30 => ?_)
  · skip
    refine Good.chk (jin_of (by omega) (by omega) (by omega)) ?_
    refine Good.chk (jin_of (by omega) (by omega) (by omega)) ?_
    obtain ⟨r, M1, s, M2, h1, h2, h3, h4⟩ := hO.meet (X (jw (v3 + 1)).toNat) (X (jw (v3 + 2)).toNat) (hX _) (hX _) M hR
    refine Good.bnd h1 ?_
    refine Good.chk (jin_of (by omega) (by omega) (by omega)) ?_
    refine Good.chk (jin_of (by omega) (by omega) (by omega)) ?_
    refine Good.bnd h2 ?_
    refine Good.pos h3 ?_
    exact hnext _ h4
  refine Good.ite (fun e31 => ?_) (fun e31 => ?_)
  · skip
    obtain ⟨r, M1, s, M2, h1, h2, h3, h4⟩ := hO.lateBy  M hR
    refine Good.bnd h1 ?_
    refine Good.bnd h2 ?_
    refine Good.pos h3 ?_
    exact hnext _ h4
  refine Good.ite (fun e32 => ?_) (fun e32 => ?_)
  · skip
    refine Good.chk (jin_of (by omega) (by omega) (by omega)) ?_
    obtain ⟨r, M1, s, M2, h1, h2, h3, h4⟩ := hO.peace (X (jw (v3 + 1)).toNat) (hX _) M hR
    refine Good.bnd h1 ?_
    refine Good.chk (jin_of (by omega) (by omega) (by omega)) ?_
    refine Good.bnd h2 ?_
    refine Good.pos h3 ?_
    exact hnext _ h4
  refine Good.ite (fun e33 => ?_) (fun e33 => ?_)
  · skip
    refine Good.chk (jin_of (by omega) (by omega) (by omega)) ?_
    obtain ⟨r, M1, s, M2, h1, h2, h3, h4⟩ := hO.eatenBy (X (jw (v3 + 1)).toNat) (hX _) M hR
    refine Good.bnd h1 ?_
    refine Good.chk (jin_of (by omega) (by omega) (by omega)) ?_
    refine Good.bnd h2 ?_
    refine Good.pos h3 ?_
    exact hnext _ h4
  refine Good.ite (fun e34 => ?_) (fun e34 => ?_)
  · skip
    obtain ⟨r, M1, s, M2, h1, h2, h3, h4⟩ := hO.most  M hR
    refine Good.bnd h1 ?_
    refine Good.bnd h2 ?_
    refine Good.pos h3 ?_
    exact hnext _ h4
  refine Good.ite (fun e35 => ?_) (fun e35 => ?_)
  · skip
    refine Good.chk (jin_of (by omega) (by omega) (by omega)) ?_
    refine Good.chk (jin_of (by omega) (by omega) (by omega)) ?_
    refine Good.chk (jin_of (by omega) (by omega) (by omega)) ?_
    obtain ⟨r, M1, s, M2, h1, h2, h3, h4⟩ := hO.soonest (X (jw (v3 + 1)).toNat) (X (jw (v3 + 2)).toNat) (X (jw (v3 + 3)).toNat) (hX _) (hX _) (hX _) M hR
    refine Good.bnd h1 ?_
    refine Good.chk (jin_of (by omega) (by omega) (by omega)) ?_
    refine Good.chk (jin_of (by omega) (by omega) (by omega)) ?_
    refine Good.chk (jin_of (by omega) (by omega) (by omega)) ?_
    refine Good.bnd h2 ?_
    refine Good.pos h3 ?_
    exact hnext _ h4
  refine Good.ite (fun e36 => ?_) (fun e36 => ?_)
  · skip
    refine Good.chk (jin_of (by omega) (by omega) (by omega)) ?_
    refine Good.chk (jin_of (by omega) (by omega) (by omega)) ?_
    refine Good.chk (jin_of (by omega) (by omega) (by omega)) ?_
    obtain ⟨r, M1, s, M2, h1, h2, h3, h4⟩ := hO.soonestBy (X (jw (v3 + 1)).toNat) (X (jw (v3 + 2)).toNat) (X (jw (v3 + 3)).toNat) (hX _) (hX _) (hX _) M hR
    refine Good.bnd h1 ?_
    refine Good.chk (jin_of (by omega) (by omega) (by omega)) ?_
    refine Good.chk (jin_of (by omega) (by omega) (by omega)) ?_
    refine Good.chk (jin_of (by omega) (by omega) (by omega)) ?_
    refine Good.bnd h2 ?_
    refine Good.pos h3 ?_
    exact hnext _ h4
  refine Good.ite (fun e37 => ?_) (fun e37 => ?_)
  · skip
    refine Good.chk (jin_of (by omega) (by omega) (by omega)) ?_
    refine Good.chk (jin_of (by omega) (by omega) (by omega)) ?_
    refine Good.chk (jin_of (by omega) (by omega) (by omega)) ?_
    obtain ⟨r, M1, s, M2, h1, h2, h3, h4⟩ := hO.latest (X (jw (v3 + 1)).toNat) (X (jw (v3 + 2)).toNat) (X (jw (v3 + 3)).toNat) (hX _) (hX _) (hX _) M hR
    refine Good.bnd h1 ?_
    refine Good.chk (jin_of (by omega) (by omega) (by omega)) ?_
    refine Good.chk (jin_of (by omega) (by omega) (by omega)) ?_
    refine Good.chk (jin_of (by omega) (by omega) (by omega)) ?_
    refine Good.bnd h2 ?_
    refine Good.pos h3 ?_
    exact hnext _ h4
  refine Good.ite (fun e38 => ?_) (fun e38 => ?_)
  · skip
    refine Good.chk (jin_of (by omega) (by omega) (by omega)) ?_
    obtain ⟨r, M1, s, M2, h1, h2, h3, h4⟩ := hO.stay (X (jw (v3 + 1)).toNat) (hX _) M hR
    refine Good.bnd h1 ?_
    refine Good.chk (jin_of (by omega) (by omega) (by omega)) ?_
    refine Good.bnd h2 ?_
    refine Good.pos h3 ?_
    exact hnext _ h4
  refine Good.ite (fun e39 => ?_) (fun e39 => ?_)
  · skip
    obtain ⟨r, M1, s, M2, h1, h2, h3, h4⟩ := hO.reach  M hR
    refine Good.bnd h1 ?_
    refine Good.bnd h2 ?_
    refine Good.pos h3 ?_
    exact hnext _ h4
  refine Good.ite (fun e40 => ?_) (fun e40 => ?_)
  · skip
    refine Good.chk (jin_of (by omega) (by omega) (by omega)) ?_
    obtain ⟨r, M1, s, M2, h1, h2, h3, h4⟩ := hO.cut (X (jw (v3 + 1)).toNat) (hX _) M hR
    refine Good.bnd h1 ?_
    refine Good.chk (jin_of (by omega) (by omega) (by omega)) ?_
    refine Good.bnd h2 ?_
    refine Good.pos h3 ?_
    exact hnext _ h4
  refine Good.ite (fun e41 => ?_) (fun e41 => ?_)
  · skip
    refine Good.chk (jin_of (by omega) (by omega) (by omega)) ?_
    obtain ⟨r, M1, s, M2, h1, h2, h3, h4⟩ := hO.cutSet (X (jw (v3 + 1)).toNat) (hX _) M hR
    refine Good.bnd h1 ?_
    refine Good.chk (jin_of (by omega) (by omega) (by omega)) ?_
    refine Good.bnd h2 ?_
    refine Good.pos h3 ?_
    exact hnext _ h4
  refine Good.ite (fun e42 => ?_) (fun e42 => ?_)
  · skip
    refine Good.chk (jin_of (by omega) (by omega) (by omega)) ?_
    obtain ⟨r, M1, s, M2, h1, h2, h3, h4⟩ := hO.snow (X (jw (v3 + 1)).toNat) (hX _) M hR
    refine Good.bnd h1 ?_
    refine Good.chk (jin_of (by omega) (by omega) (by omega)) ?_
    refine Good.bnd h2 ?_
    refine Good.pos h3 ?_
    exact hnext _ h4
  refine Good.ite (fun e43 => ?_) (fun e43 => ?_)
  · skip
    refine Good.chk (jin_of (by omega) (by omega) (by omega)) ?_
    refine Good.chk (jin_of (by omega) (by omega) (by omega)) ?_
    obtain ⟨r, M1, s, M2, h1, h2, h3, h4⟩ := hO.back (X (jw (v3 + 1)).toNat) (X (jw (v3 + 2)).toNat) (hX _) (hX _) M hR
    refine Good.bnd h1 ?_
    refine Good.chk (jin_of (by omega) (by omega) (by omega)) ?_
    refine Good.chk (jin_of (by omega) (by omega) (by omega)) ?_
    refine Good.bnd h2 ?_
    refine Good.pos h3 ?_
    exact hnext _ h4
  refine Good.ite (fun e44 => ?_) (fun e44 => ?_)
  · skip
    refine Good.chk (jin_of (by omega) (by omega) (by omega)) ?_
    obtain ⟨r, M1, s, M2, h1, h2, h3, h4⟩ := hO.wildest (X (jw (v3 + 1)).toNat) (hX _) M hR
    refine Good.bnd h1 ?_
    refine Good.chk (jin_of (by omega) (by omega) (by omega)) ?_
    refine Good.bnd h2 ?_
    refine Good.pos h3 ?_
    exact hnext _ h4
  refine Good.ite (fun e45 => ?_) (fun e45 => ?_)
  · skip
    refine Good.chk (jin_of (by omega) (by omega) (by omega)) ?_
    refine Good.chk (jin_of (by omega) (by omega) (by omega)) ?_
    obtain ⟨r, M1, s, M2, h1, h2, h3, h4⟩ := hO.rooms (X (jw (v3 + 1)).toNat) (X (jw (v3 + 2)).toNat) (hX _) (hX _) M hR
    refine Good.bnd h1 ?_
    refine Good.chk (jin_of (by omega) (by omega) (by omega)) ?_
    refine Good.chk (jin_of (by omega) (by omega) (by omega)) ?_
    refine Good.bnd h2 ?_
    refine Good.pos h3 ?_
    exact hnext _ h4
  refine Good.ite (fun e46 => ?_) (fun e46 => ?_)
  · skip
    refine Good.chk (jin_of (by omega) (by omega) (by omega)) ?_
    refine Good.chk (jin_of (by omega) (by omega) (by omega)) ?_
    obtain ⟨r, M1, s, M2, h1, h2, h3, h4⟩ := hO.roomSize (X (jw (v3 + 1)).toNat) (X (jw (v3 + 2)).toNat) (hX _) (hX _) M hR
    refine Good.bnd h1 ?_
    refine Good.chk (jin_of (by omega) (by omega) (by omega)) ?_
    refine Good.chk (jin_of (by omega) (by omega) (by omega)) ?_
    refine Good.bnd h2 ?_
    refine Good.pos h3 ?_
    exact hnext _ h4
  refine Good.ite (fun e47 => ?_) (fun e47 => ?_)
  · skip
    refine Good.chk (jin_of (by omega) (by omega) (by omega)) ?_
    refine Good.chk (jin_of (by omega) (by omega) (by omega)) ?_
    refine Good.chk (jin_of (by omega) (by omega) (by omega)) ?_
    obtain ⟨r, M1, s, M2, h1, h2, h3, h4⟩ := hO.sets (X (jw (v3 + 1)).toNat) (X (jw (v3 + 2)).toNat) (X (jw (v3 + 3)).toNat) (hX _) (hX _) (hX _) M hR
    refine Good.bnd h1 ?_
    refine Good.chk (jin_of (by omega) (by omega) (by omega)) ?_
    refine Good.chk (jin_of (by omega) (by omega) (by omega)) ?_
    refine Good.chk (jin_of (by omega) (by omega) (by omega)) ?_
    refine Good.bnd h2 ?_
    refine Good.pos h3 ?_
    exact hnext _ h4
  refine Good.ite (fun e48 => ?_) (fun e48 => ?_)
  · skip
    refine Good.chk (jin_of (by omega) (by omega) (by omega)) ?_
    refine Good.chk (jin_of (by omega) (by omega) (by omega)) ?_
    refine Good.chk (jin_of (by omega) (by omega) (by omega)) ?_
    obtain ⟨r, M1, s, M2, h1, h2, h3, h4⟩ := hO.sure (X (jw (v3 + 1)).toNat) (X (jw (v3 + 2)).toNat) (X (jw (v3 + 3)).toNat) (hX _) (hX _) (hX _) M hR
    refine Good.bnd h1 ?_
    refine Good.chk (jin_of (by omega) (by omega) (by omega)) ?_
    refine Good.chk (jin_of (by omega) (by omega) (by omega)) ?_
    refine Good.chk (jin_of (by omega) (by omega) (by omega)) ?_
    refine Good.bnd h2 ?_
    refine Good.pos h3 ?_
    exact hnext _ h4
  refine Good.ite (fun e49 => ?_) (fun e49 => ?_)
  · skip
    refine Good.chk (jin_of (by omega) (by omega) (by omega)) ?_
    refine Good.chk (jin_of (by omega) (by omega) (by omega)) ?_
    obtain ⟨r, M1, s, M2, h1, h2, h3, h4⟩ := hO.slips (X (jw (v3 + 1)).toNat) (X (jw (v3 + 2)).toNat) (hX _) (hX _) M hR
    refine Good.bnd h1 ?_
    refine Good.chk (jin_of (by omega) (by omega) (by omega)) ?_
    refine Good.chk (jin_of (by omega) (by omega) (by omega)) ?_
    refine Good.bnd h2 ?_
    refine Good.pos h3 ?_
    exact hnext _ h4
  refine Good.ite (fun e50 => ?_) (fun e50 => ?_)
  · skip
    refine Good.chk (jin_of (by omega) (by omega) (by omega)) ?_
    obtain ⟨r, M1, s, M2, h1, h2, h3, h4⟩ := hO.copyPlaces (X (jw (v3 + 1)).toNat) (hX _) M hR
    refine Good.bnd h1 ?_
    refine Good.chk (jin_of (by omega) (by omega) (by omega)) ?_
    refine Good.bnd h2 ?_
    refine Good.pos h3 ?_
    exact hnext _ h4
  refine Good.ite (fun e51 => ?_) (fun e51 => ?_)
  · skip
    refine Good.chk (jin_of (by omega) (by omega) (by omega)) ?_
    obtain ⟨r, M1, s, M2, h1, h2, h3, h4⟩ := hO.live (X (jw (v3 + 1)).toNat) (hX _) M hR
    refine Good.bnd h1 ?_
    refine Good.chk (jin_of (by omega) (by omega) (by omega)) ?_
    refine Good.bnd h2 ?_
    refine Good.pos h3 ?_
    exact hnext _ h4
  refine Good.ite (fun e52 => ?_) (fun e52 => ?_)
  · skip
    refine Good.chk (jin_of (by omega) (by omega) (by omega)) ?_
    obtain ⟨r, M1, s, M2, h1, h2, h3, h4⟩ := hO.lived (X (jw (v3 + 1)).toNat) (hX _) M hR
    refine Good.bnd h1 ?_
    refine Good.chk (jin_of (by omega) (by omega) (by omega)) ?_
    refine Good.bnd h2 ?_
    refine Good.pos h3 ?_
    exact hnext _ h4
  refine Good.ite (fun e53 => ?_) (fun e53 => ?_)
  · skip
    refine Good.chk (jin_of (by omega) (by omega) (by omega)) ?_
    refine Good.chk (jin_of (by omega) (by omega) (by omega)) ?_
    obtain ⟨r, M1, s, M2, h1, h2, h3, h4⟩ := hO.mean (X (jw (v3 + 1)).toNat) (X (jw (v3 + 2)).toNat) (hX _) (hX _) M hR
    refine Good.bnd h1 ?_
    refine Good.chk (jin_of (by omega) (by omega) (by omega)) ?_
    refine Good.chk (jin_of (by omega) (by omega) (by omega)) ?_
    refine Good.bnd h2 ?_
    refine Good.pos h3 ?_
    exact hnext _ h4
  refine Good.ite (fun e54 => ?_) (fun e54 => ?_)
  · skip
    obtain ⟨r, M1, s, M2, h1, h2, h3, h4⟩ := hO.mark  M hR
    refine Good.bnd h1 ?_
    refine Good.bnd h2 ?_
    refine Good.pos h3 ?_
    exact hnext _ h4
  refine Good.ite (fun e55 => ?_) (fun e55 => ?_)
  · skip
    obtain ⟨r, M1, s, M2, h1, h2, h3, h4⟩ := hO.undo  M hR
    refine Good.bnd h1 ?_
    refine Good.bnd h2 ?_
    refine Good.pos h3 ?_
    exact hnext _ h4
  exact hnext _ hR
theorem law_start {R : JMem → Prop} {n L : Nat} {X : Nat → Int} (hn : 2000 ≤ n) (hO : jOps R n) (hL : L ≤ 3072) (hX : ∀ j, I32 (X j)) (h0 : R jM0) : Good (f_L_law n L X jM0) := by
  unfold f_L_law letv
  show Good (f_L_law_L18 n L X n 0 jM0)
  by_cases h : L < 6
  · obtain ⟨n, rfl⟩ : ∃ n', n = n' + 1 := ⟨n - 1, by omega⟩
    rw [f_L_law_L18]
    refine Good.pos ?_ ⟨_, _, rfl⟩
    rw [jw_of (show -2147483648 ≤ (L : Int) - 6 by omega) (by omega)]
    show (L : Int) - 6 < jw 0
    rw [show jw 0 = 0 by decide]
    omega
  · exact law_good hO hL hX n 0 jM0 h0 (by omega) (by omega) (by omega)
end PLAW

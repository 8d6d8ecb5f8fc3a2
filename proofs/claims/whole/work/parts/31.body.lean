section JSTART
theorem d_L_law_0 : decode code 0 = .ok (.new 7, 3) := by decide +kernel
theorem d_L_law_3 : decode code 3 = .ok (.dup, 1) := by decide +kernel
theorem d_L_law_4 : decode code 4 = .ok (.invokespecial 9, 3) := by decide +kernel
theorem d_L_law_7 : decode code 7 = .ok (.astore_n 1, 1) := by decide +kernel
theorem d_L_law_8 : decode code 8 = .ok (.new 10, 3) := by decide +kernel
theorem d_L_law_11 : decode code 11 = .ok (.dup, 1) := by decide +kernel
theorem d_L_law_12 : decode code 12 = .ok (.invokespecial 12, 3) := by decide +kernel
theorem d_L_law_15 : decode code 15 = .ok (.astore_n 2, 1) := by decide +kernel
theorem lc_L_7 : Cond.classLink RL 7 RX11 ∈ jTW := jTW_mem (k := 155) (by decide +kernel) rfl
theorem lc_L_10 : Cond.classLink RL 10 RX12 ∈ jTW := jTW_mem (k := 1366) (by decide +kernel) rfl
theorem it_X11 : Cond.instantiable RX11 20 ∈ jTW := jTW_mem (k := 156) (by decide +kernel) rfl
theorem iz_X11 : Cond.initialized RX11 ∈ jTW := jTW_mem (k := 135) (by decide +kernel) rfl
theorem it_X12 : Cond.instantiable RX12 39 ∈ jTW := jTW_mem (k := 1367) (by decide +kernel) rfl
theorem iz_X12 : Cond.initialized RX12 ∈ jTW := jTW_mem (k := 151) (by decide +kernel) rfl
theorem lm_L_9 : Cond.methodLink RL 9 yX11_init ∈ jTW := jTW_mem (k := 157) (by decide +kernel) rfl
theorem lm_L_12 : Cond.methodLink RL 12 yX12_init ∈ jTW := jTW_mem (k := 1368) (by decide +kernel) rfl
def jZ : JMem := fun _ _ => 0
def jZr : JRho := fun _ _ => none
theorem jhft : (f_X6_init_L73 400 400 0 0 0 (cM_X6 (jz (cM_X7 (jz (jup (jup (jup jZ 0 0 0) 0 1 0) 0 2 1) 1)) 9))).isSome = true := by decide +kernel
theorem jw0 : jwf 1 jZr := fun a k b _ h => by cases h
/-- the memory behind the two constructors -/
def jM0 : JMem := match f_X12_plain 600 0 (cM_X12 (jz (cM_X11 jZ) 167)) with
  | some q => q.2
  | none => jZ
theorem jM0_ok : (f_X12_plain 600 0 (cM_X12 (jz (cM_X11 jZ) 167))).isSome = true := by decide +kernel
theorem jM0_eq : ∃ r, f_X12_plain 600 0 (cM_X12 (jz (cM_X11 jZ) 167)) = some (r, jM0) := by
  have h := jM0_ok
  unfold jM0
  cases hq : f_X12_plain 600 0 (cM_X12 (jz (cM_X11 jZ) 167)) with
  | none => rw [hq] at h; cases h
  | some q => exact ⟨q.1, rfl⟩
theorem jR_ok : ∀ a, a < 186 → ∀ k, k < 40 → jR a k = cR_X12 (jzr (cR_X11 jZr) 167) a k := by decide +kernel
theorem jw12 : jwf 168 (jzr (cR_X11 jZr) 167) := jwf_new (cw_X11 jZr jw0)
theorem law_body {g : JG} {ad : Nat → Nat} (nm : String) (hs : jStr g ad) (hsc : ad 1005 = g.2.2.2.2.2.2.1) {n : Nat} {r : Int} {M' : JMem} (hp : f_L_law n g.2.2.2.2.2.2.2.1 (fun j => (g.2.2.2.2.2.2.2.2 j).toInt) jM0 = some (r, M')) : jO g (D_L nm) (jQL g) (1, 20) 1 ad jZr 3 [some (.ref 1005), none, none, none] [.ref 0] jZ (some (r, M')) := by
  obtain ⟨r0, hM0⟩ := jM0_eq
  refine jo_dup (v := .ref 0) d_L_law_3 rfl ?_
  refine jo_callC (st := [.ref 0]) hs (c_X11 jZr jZ jw0 jhft) okc_X11 (And.intro (Nat.le_of_ble_eq_true rfl) (Nat.le_of_ble_eq_true rfl)) lm_L_9 rfl (And.intro (Nat.le_of_ble_eq_true rfl) (Nat.le_of_ble_eq_true rfl)) (And.intro (jvo_hi (by omega)) True.intro) (And.intro (jvo_lt (by omega)) True.intro) rfl (Nat.le_of_ble_eq_true rfl) d_L_law_4 (fun ad1 h1 => ?_)
  refine jo_astore 1 d_L_law_7 rfl (Nat.le_of_ble_eq_true rfl) ?_
  refine jo_new (a0 := 0) cl_12 fd_12 (by decide +kernel) (by omega) (by omega) (cw_X11 jZr jw0) lc_L_10 it_X12 iz_X12 (And.intro (jvo_hi (by omega)) (And.intro (jvo_lt (by omega)) True.intro)) True.intro (And.intro (Nat.le_of_ble_eq_true rfl) (Nat.le_of_ble_eq_true rfl)) d_L_law_8 (fun ad2 h2 => ?_)
  refine jo_dup (v := .ref 167) d_L_law_11 rfl ?_
  have hs2 := (hs.ag h1).ag h2
  refine jo_callC (st := [.ref 167]) hs2 (c_X12 (jzr (cR_X11 jZr) 167) _ jw12 jR_ok hM0) okc_X12 (And.intro (Nat.le_of_ble_eq_true rfl) (Nat.le_of_ble_eq_true rfl)) lm_L_12 rfl (And.intro (Nat.le_of_ble_eq_true rfl) (Nat.le_of_ble_eq_true rfl)) (And.intro (jvo_hi (by omega)) (And.intro (jvo_lt (by omega)) True.intro)) (And.intro (jvo_lt (by omega)) True.intro) rfl (Nat.le_of_ble_eq_true rfl) d_L_law_12 (fun ad3 h3 => ?_)
  refine jo_astore 2 d_L_law_15 rfl (Nat.le_of_ble_eq_true rfl) ?_
  have hs3 := hs2.ag h3
  have hsc3 : ad3 1005 = g.2.2.2.2.2.2.1 := (h3.2 _ (by omega)).trans ((h2.2 _ (by omega)).trans ((h1.2 _ (by omega)).trans hsc))
  have hlaw := t_L_law nm hs3 hsc3 n jM0
  rw [hp] at hlaw
  exact jO.sub hlaw (And.intro rfl (And.intro rfl (And.intro rfl True.intro)))

end JSTART

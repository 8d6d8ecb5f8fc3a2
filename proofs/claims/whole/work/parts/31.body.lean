section JSTART
theorem d_L_law_0 : decode code 0 = .ok (.new 7, 3) := by decide +kernel
theorem d_L_law_3 : decode code 3 = .ok (.dup, 1) := by decide +kernel
theorem d_L_law_4 : decode code 4 = .ok (.invokespecial 9, 3) := by decide +kernel
theorem d_L_law_7 : decode code 7 = .ok (.astore_n 1, 1) := by decide +kernel
theorem d_L_law_8 : decode code 8 = .ok (.new 10, 3) := by decide +kernel
theorem d_L_law_11 : decode code 11 = .ok (.dup, 1) := by decide +kernel
theorem d_L_law_12 : decode code 12 = .ok (.invokespecial 12, 3) := by decide +kernel
theorem d_L_law_15 : decode code 15 = .ok (.astore_n 2, 1) := by decide +kernel
theorem lc_L_7 : Cond.classLink RL 7 RX11 ∈ jTW := jTW_mem (k := 155) (by decide +kernel) rfl
theorem lc_L_10 : Cond.classLink RL 10 RX12 ∈ jTW := jTW_mem (k := 1366) (by decide +kernel) rfl
theorem it_X11 : Cond.instantiable RX11 20 ∈ jTW := jTW_mem (k := 156) (by decide +kernel) rfl
theorem iz_X11 : Cond.initialized RX11 ∈ jTW := jTW_mem (k := 135) (by decide +kernel) rfl
theorem it_X12 : Cond.instantiable RX12 39 ∈ jTW := jTW_mem (k := 1367) (by decide +kernel) rfl
theorem iz_X12 : Cond.initialized RX12 ∈ jTW := jTW_mem (k := 151) (by decide +kernel) rfl
theorem lm_L_9 : Cond.methodLink RL 9 yX11_init ∈ jTW := jTW_mem (k := 157) (by decide +kernel) rfl
theorem lm_L_12 : Cond.methodLink RL 12 yX12_init ∈ jTW := jTW_mem (k := 1368) (by decide +kernel) rfl
def jZ : JMem := fun _ _ => 0
def jZr : JRho := fun _ _ => none
theorem jhft : (f_X6_init_L73 400 400 0 0 0 (cM_X6 (jz (cM_X7 (jz (jup (jup (jup jZ 0 0 0) 0 1 0) 0 2 1) 1)) 9))).isSome = true := by decide +kernel
theorem jw0 : jwf 1 jZr := fun a k b _ h => by cases h
/-- the memory behind the two constructors -/
def jM0 : JMem := match f_X12_plain 600 0 (cM_X12 (jz (cM_X11 jZ) 167)) with
  | some q => q.2
  | none => jZ
theorem jM0_ok : (f_X12_plain 600 0 (cM_X12 (jz (cM_X11 jZ) 167))).isSome = true := by decide +kernel
theorem jM0_eq : ∃ r, f_X12_plain 600 0 (cM_X12 (jz (cM_X11 jZ) 167)) = some (r, jM0) := by
  have h := jM0_ok
  unfold jM0
  cases hq : f_X12_plain 600 0 (cM_X12 (jz (cM_X11 jZ) 167)) with
  | none => rw [hq] at h; cases h
  | some q => exact ⟨q.1, rfl⟩
theorem jR_ok0 : ∀ a, a < 6 → ∀ k, k < 40 → jR (0 + a) k = cR_X12 (jzr (cR_X11 jZr) 167) (0 + a) k := by decide +kernel
theorem jR_ok6 : ∀ a, a < 6 → ∀ k, k < 40 → jR (6 + a) k = cR_X12 (jzr (cR_X11 jZr) 167) (6 + a) k := by decide +kernel
theorem jR_ok12 : ∀ a, a < 6 → ∀ k, k < 40 → jR (12 + a) k = cR_X12 (jzr (cR_X11 jZr) 167) (12 + a) k := by decide +kernel
theorem jR_ok18 : ∀ a, a < 6 → ∀ k, k < 40 → jR (18 + a) k = cR_X12 (jzr (cR_X11 jZr) 167) (18 + a) k := by decide +kernel
theorem jR_ok24 : ∀ a, a < 6 → ∀ k, k < 40 → jR (24 + a) k = cR_X12 (jzr (cR_X11 jZr) 167) (24 + a) k := by decide +kernel
theorem jR_ok30 : ∀ a, a < 6 → ∀ k, k < 40 → jR (30 + a) k = cR_X12 (jzr (cR_X11 jZr) 167) (30 + a) k := by decide +kernel
theorem jR_ok36 : ∀ a, a < 6 → ∀ k, k < 40 → jR (36 + a) k = cR_X12 (jzr (cR_X11 jZr) 167) (36 + a) k := by decide +kernel
theorem jR_ok42 : ∀ a, a < 6 → ∀ k, k < 40 → jR (42 + a) k = cR_X12 (jzr (cR_X11 jZr) 167) (42 + a) k := by decide +kernel
theorem jR_ok48 : ∀ a, a < 6 → ∀ k, k < 40 → jR (48 + a) k = cR_X12 (jzr (cR_X11 jZr) 167) (48 + a) k := by decide +kernel
theorem jR_ok54 : ∀ a, a < 6 → ∀ k, k < 40 → jR (54 + a) k = cR_X12 (jzr (cR_X11 jZr) 167) (54 + a) k := by decide +kernel
theorem jR_ok60 : ∀ a, a < 6 → ∀ k, k < 40 → jR (60 + a) k = cR_X12 (jzr (cR_X11 jZr) 167) (60 + a) k := by decide +kernel
theorem jR_ok66 : ∀ a, a < 6 → ∀ k, k < 40 → jR (66 + a) k = cR_X12 (jzr (cR_X11 jZr) 167) (66 + a) k := by decide +kernel
theorem jR_ok72 : ∀ a, a < 6 → ∀ k, k < 40 → jR (72 + a) k = cR_X12 (jzr (cR_X11 jZr) 167) (72 + a) k := by decide +kernel
theorem jR_ok78 : ∀ a, a < 6 → ∀ k, k < 40 → jR (78 + a) k = cR_X12 (jzr (cR_X11 jZr) 167) (78 + a) k := by decide +kernel
theorem jR_ok84 : ∀ a, a < 6 → ∀ k, k < 40 → jR (84 + a) k = cR_X12 (jzr (cR_X11 jZr) 167) (84 + a) k := by decide +kernel
theorem jR_ok90 : ∀ a, a < 6 → ∀ k, k < 40 → jR (90 + a) k = cR_X12 (jzr (cR_X11 jZr) 167) (90 + a) k := by decide +kernel
theorem jR_ok96 : ∀ a, a < 6 → ∀ k, k < 40 → jR (96 + a) k = cR_X12 (jzr (cR_X11 jZr) 167) (96 + a) k := by decide +kernel
theorem jR_ok102 : ∀ a, a < 6 → ∀ k, k < 40 → jR (102 + a) k = cR_X12 (jzr (cR_X11 jZr) 167) (102 + a) k := by decide +kernel
theorem jR_ok108 : ∀ a, a < 6 → ∀ k, k < 40 → jR (108 + a) k = cR_X12 (jzr (cR_X11 jZr) 167) (108 + a) k := by decide +kernel
theorem jR_ok114 : ∀ a, a < 6 → ∀ k, k < 40 → jR (114 + a) k = cR_X12 (jzr (cR_X11 jZr) 167) (114 + a) k := by decide +kernel
theorem jR_ok120 : ∀ a, a < 6 → ∀ k, k < 40 → jR (120 + a) k = cR_X12 (jzr (cR_X11 jZr) 167) (120 + a) k := by decide +kernel
theorem jR_ok126 : ∀ a, a < 6 → ∀ k, k < 40 → jR (126 + a) k = cR_X12 (jzr (cR_X11 jZr) 167) (126 + a) k := by decide +kernel
theorem jR_ok132 : ∀ a, a < 6 → ∀ k, k < 40 → jR (132 + a) k = cR_X12 (jzr (cR_X11 jZr) 167) (132 + a) k := by decide +kernel
theorem jR_ok138 : ∀ a, a < 6 → ∀ k, k < 40 → jR (138 + a) k = cR_X12 (jzr (cR_X11 jZr) 167) (138 + a) k := by decide +kernel
theorem jR_ok144 : ∀ a, a < 6 → ∀ k, k < 40 → jR (144 + a) k = cR_X12 (jzr (cR_X11 jZr) 167) (144 + a) k := by decide +kernel
theorem jR_ok150 : ∀ a, a < 6 → ∀ k, k < 40 → jR (150 + a) k = cR_X12 (jzr (cR_X11 jZr) 167) (150 + a) k := by decide +kernel
theorem jR_ok156 : ∀ a, a < 6 → ∀ k, k < 40 → jR (156 + a) k = cR_X12 (jzr (cR_X11 jZr) 167) (156 + a) k := by decide +kernel
theorem jR_ok162 : ∀ a, a < 6 → ∀ k, k < 40 → jR (162 + a) k = cR_X12 (jzr (cR_X11 jZr) 167) (162 + a) k := by decide +kernel
theorem jR_ok168 : ∀ a, a < 6 → ∀ k, k < 40 → jR (168 + a) k = cR_X12 (jzr (cR_X11 jZr) 167) (168 + a) k := by decide +kernel
theorem jR_ok174 : ∀ a, a < 6 → ∀ k, k < 40 → jR (174 + a) k = cR_X12 (jzr (cR_X11 jZr) 167) (174 + a) k := by decide +kernel
theorem jR_ok180 : ∀ a, a < 6 → ∀ k, k < 40 → jR (180 + a) k = cR_X12 (jzr (cR_X11 jZr) 167) (180 + a) k := by decide +kernel
theorem jR_ok (a : Nat) (ha : a < 186) (k : Nat) (hk : k < 40) : jR a k = cR_X12 (jzr (cR_X11 jZr) 167) a k := by
  by_cases h0 : a < 6
  · have h := jR_ok0 (a - 0) (by omega) k hk
    rw [show 0 + (a - 0) = a by omega] at h
    exact h
  by_cases h6 : a < 12
  · have h := jR_ok6 (a - 6) (by omega) k hk
    rw [show 6 + (a - 6) = a by omega] at h
    exact h
  by_cases h12 : a < 18
  · have h := jR_ok12 (a - 12) (by omega) k hk
    rw [show 12 + (a - 12) = a by omega] at h
    exact h
  by_cases h18 : a < 24
  · have h := jR_ok18 (a - 18) (by omega) k hk
    rw [show 18 + (a - 18) = a by omega] at h
    exact h
  by_cases h24 : a < 30
  · have h := jR_ok24 (a - 24) (by omega) k hk
    rw [show 24 + (a - 24) = a by omega] at h
    exact h
  by_cases h30 : a < 36
  · have h := jR_ok30 (a - 30) (by omega) k hk
    rw [show 30 + (a - 30) = a by omega] at h
    exact h
  by_cases h36 : a < 42
  · have h := jR_ok36 (a - 36) (by omega) k hk
    rw [show 36 + (a - 36) = a by omega] at h
    exact h
  by_cases h42 : a < 48
  · have h := jR_ok42 (a - 42) (by omega) k hk
    rw [show 42 + (a - 42) = a by omega] at h
    exact h
  by_cases h48 : a < 54
  · have h := jR_ok48 (a - 48) (by omega) k hk
    rw [show 48 + (a - 48) = a by omega] at h
    exact h
  by_cases h54 : a < 60
  · have h := jR_ok54 (a - 54) (by omega) k hk
    rw [show 54 + (a - 54) = a by omega] at h
    exact h
  by_cases h60 : a < 66
  · have h := jR_ok60 (a - 60) (by omega) k hk
    rw [show 60 + (a - 60) = a by omega] at h
    exact h
  by_cases h66 : a < 72
  · have h := jR_ok66 (a - 66) (by omega) k hk
    rw [show 66 + (a - 66) = a by omega] at h
    exact h
  by_cases h72 : a < 78
  · have h := jR_ok72 (a - 72) (by omega) k hk
    rw [show 72 + (a - 72) = a by omega] at h
    exact h
  by_cases h78 : a < 84
  · have h := jR_ok78 (a - 78) (by omega) k hk
    rw [show 78 + (a - 78) = a by omega] at h
    exact h
  by_cases h84 : a < 90
  · have h := jR_ok84 (a - 84) (by omega) k hk
    rw [show 84 + (a - 84) = a by omega] at h
    exact h
  by_cases h90 : a < 96
  · have h := jR_ok90 (a - 90) (by omega) k hk
    rw [show 90 + (a - 90) = a by omega] at h
    exact h
  by_cases h96 : a < 102
  · have h := jR_ok96 (a - 96) (by omega) k hk
    rw [show 96 + (a - 96) = a by omega] at h
    exact h
  by_cases h102 : a < 108
  · have h := jR_ok102 (a - 102) (by omega) k hk
    rw [show 102 + (a - 102) = a by omega] at h
    exact h
  by_cases h108 : a < 114
  · have h := jR_ok108 (a - 108) (by omega) k hk
    rw [show 108 + (a - 108) = a by omega] at h
    exact h
  by_cases h114 : a < 120
  · have h := jR_ok114 (a - 114) (by omega) k hk
    rw [show 114 + (a - 114) = a by omega] at h
    exact h
  by_cases h120 : a < 126
  · have h := jR_ok120 (a - 120) (by omega) k hk
    rw [show 120 + (a - 120) = a by omega] at h
    exact h
  by_cases h126 : a < 132
  · have h := jR_ok126 (a - 126) (by omega) k hk
    rw [show 126 + (a - 126) = a by omega] at h
    exact h
  by_cases h132 : a < 138
  · have h := jR_ok132 (a - 132) (by omega) k hk
    rw [show 132 + (a - 132) = a by omega] at h
    exact h
  by_cases h138 : a < 144
  · have h := jR_ok138 (a - 138) (by omega) k hk
    rw [show 138 + (a - 138) = a by omega] at h
    exact h
  by_cases h144 : a < 150
  · have h := jR_ok144 (a - 144) (by omega) k hk
    rw [show 144 + (a - 144) = a by omega] at h
    exact h
  by_cases h150 : a < 156
  · have h := jR_ok150 (a - 150) (by omega) k hk
    rw [show 150 + (a - 150) = a by omega] at h
    exact h
  by_cases h156 : a < 162
  · have h := jR_ok156 (a - 156) (by omega) k hk
    rw [show 156 + (a - 156) = a by omega] at h
    exact h
  by_cases h162 : a < 168
  · have h := jR_ok162 (a - 162) (by omega) k hk
    rw [show 162 + (a - 162) = a by omega] at h
    exact h
  by_cases h168 : a < 174
  · have h := jR_ok168 (a - 168) (by omega) k hk
    rw [show 168 + (a - 168) = a by omega] at h
    exact h
  by_cases h174 : a < 180
  · have h := jR_ok174 (a - 174) (by omega) k hk
    rw [show 174 + (a - 174) = a by omega] at h
    exact h
  by_cases h180 : a < 186
  · have h := jR_ok180 (a - 180) (by omega) k hk
    rw [show 180 + (a - 180) = a by omega] at h
    exact h
  omega
theorem jw12 : jwf 168 (jzr (cR_X11 jZr) 167) := jwf_new (cw_X11 jZr jw0)
theorem law_body {g : JG} {ad : Nat → Nat} (nm : String) (hs : jStr g ad) (hsc : ad 1005 = g.2.2.2.2.2.2.1) {n : Nat} {r : Int} {M' : JMem} (hp : f_L_law n g.2.2.2.2.2.2.2.1 (fun j => (g.2.2.2.2.2.2.2.2 j).toInt) jM0 = some (r, M')) : jO g (D_L nm) (jQL g) (1, 20) 1 ad jZr 3 [some (.ref 1005), none, none, none] [.ref 0] jZ (some (r, M')) := by
  obtain ⟨r0, hM0⟩ := jM0_eq
  refine jo_dup (v := .ref 0) d_L_law_3 rfl ?_
  refine jo_callC (st := [.ref 0]) hs (c_X11 jZr jZ jw0 jhft) okc_X11 (And.intro (Nat.le_of_ble_eq_true rfl) (Nat.le_of_ble_eq_true rfl)) lm_L_9 rfl (And.intro (Nat.le_of_ble_eq_true rfl) (Nat.le_of_ble_eq_true rfl)) (And.intro (jvo_hi (by omega)) True.intro) (And.intro (jvo_lt (by omega)) True.intro) rfl (Nat.le_of_ble_eq_true rfl) d_L_law_4 (fun ad1 h1 => ?_)
  refine jo_astore 1 d_L_law_7 rfl (Nat.le_of_ble_eq_true rfl) ?_
  refine jo_new (a0 := 0) cl_12 fd_12 (by decide +kernel) (by omega) (by omega) (cw_X11 jZr jw0) lc_L_10 it_X12 iz_X12 (And.intro (jvo_hi (by omega)) (And.intro (jvo_lt (by omega)) True.intro)) True.intro (And.intro (Nat.le_of_ble_eq_true rfl) (Nat.le_of_ble_eq_true rfl)) d_L_law_8 (fun ad2 h2 => ?_)
  refine jo_dup (v := .ref 167) d_L_law_11 rfl ?_
  have hs2 := (hs.ag h1).ag h2
  refine jo_callC (st := [.ref 167]) hs2 (c_X12 (jzr (cR_X11 jZr) 167) _ jw12 jR_ok hM0) okc_X12 (And.intro (Nat.le_of_ble_eq_true rfl) (Nat.le_of_ble_eq_true rfl)) lm_L_12 rfl (And.intro (Nat.le_of_ble_eq_true rfl) (Nat.le_of_ble_eq_true rfl)) (And.intro (jvo_hi (by omega)) (And.intro (jvo_lt (by omega)) True.intro)) (And.intro (jvo_lt (by omega)) True.intro) rfl (Nat.le_of_ble_eq_true rfl) d_L_law_12 (fun ad3 h3 => ?_)
  refine jo_astore 2 d_L_law_15 rfl (Nat.le_of_ble_eq_true rfl) ?_
  have hs3 := hs2.ag h3
  have hsc3 : ad3 1005 = g.2.2.2.2.2.2.1 := (h3.2 _ (by omega)).trans ((h2.2 _ (by omega)).trans ((h1.2 _ (by omega)).trans hsc))
  have hlaw := t_L_law nm hs3 hsc3 n jM0
  rw [hp] at hlaw
  exact jO.sub hlaw (And.intro rfl (And.intro rfl (And.intro rfl True.intro)))

end JSTART

section
/-! CageLeave$ParkReader.passNewName(II)V -/
def D_X2_passNewName : JD := (RX2, cX2_passNewName, 3, none, "passNewName", { frames := 3, cells := 0, slots := 0, locals := 66 })
theorem ok_X2_passNewName : jOk D_X2_passNewName yX2_passNewName 2 := ⟨jTW_mem (k := 818) (by decide +kernel) rfl, jTW_mem (k := 142) (by decide +kernel) rfl, ⟨by decide +kernel, by decide +kernel⟩, by decide +kernel, rfl, rfl⟩
theorem in_X2_passNewName : Cond.instanceMethod yX2_passNewName ∈ jTW := jTW_mem (k := 817) (by decide +kernel) rfl
theorem se_X2_passNewName : Cond.selects yX2_passNewName.cls yX2_passNewName yX2_passNewName ∈ jTW := jTW_mem (k := 7) (by decide +kernel) rfl
theorem lm_X2_74 : Cond.methodLink RX2 74 yX6_fail ∈ jTW := jTW_mem (k := 805) (by decide +kernel) rfl
theorem lk_X2_157 : Cond.fieldLink RX2 157 (TX6 7).1 (TX6 7).2.1 (TX6 7).2.2.1 ∈ jTW := jTW_mem (k := 261) (by decide +kernel) rfl
theorem lm_X2_165 : Cond.methodLink RX2 165 yX4_addName ∈ jTW := jTW_mem (k := 823) (by decide +kernel) rfl
theorem lk_X2_49 : Cond.fieldLink RX2 49 (TX6 4).1 (TX6 4).2.1 (TX6 4).2.2.1 ∈ jTW := jTW_mem (k := 254) (by decide +kernel) rfl
theorem lm_X2_161 : Cond.methodLink RX2 161 yX4_hasName ∈ jTW := jTW_mem (k := 819) (by decide +kernel) rfl
theorem lk_X2_94 : Cond.fieldLink RX2 94 (TX4 0).1 (TX4 0).2.1 (TX4 0).2.2.1 ∈ jTW := jTW_mem (k := 303) (by decide +kernel) rfl
theorem d_X2_passNewName_0 : decode (D_X2_passNewName).2.1 0 = .ok (.aload_n 0, 1) := by decide +kernel
theorem d_X2_passNewName_1 : decode (D_X2_passNewName).2.1 1 = .ok (.getfield 29, 3) := by decide +kernel
theorem d_X2_passNewName_4 : decode (D_X2_passNewName).2.1 4 = .ok (.getfield 49, 3) := by decide +kernel
theorem d_X2_passNewName_7 : decode (D_X2_passNewName).2.1 7 = .ok (.iconst 2, 1) := by decide +kernel
theorem d_X2_passNewName_8 : decode (D_X2_passNewName).2.1 8 = .ok (.if_icmp .eq 12, 3) := by decide +kernel
theorem d_X2_passNewName_11 : decode (D_X2_passNewName).2.1 11 = .ok (.aload_n 0, 1) := by decide +kernel
theorem d_X2_passNewName_12 : decode (D_X2_passNewName).2.1 12 = .ok (.getfield 29, 3) := by decide +kernel
theorem d_X2_passNewName_15 : decode (D_X2_passNewName).2.1 15 = .ok (.iconst 2, 1) := by decide +kernel
theorem d_X2_passNewName_16 : decode (D_X2_passNewName).2.1 16 = .ok (.invokevirtual 74, 3) := by decide +kernel
theorem d_X2_passNewName_19 : decode (D_X2_passNewName).2.1 19 = .ok (.return_, 1) := by decide +kernel
theorem d_X2_passNewName_20 : decode (D_X2_passNewName).2.1 20 = .ok (.aload_n 0, 1) := by decide +kernel
theorem d_X2_passNewName_21 : decode (D_X2_passNewName).2.1 21 = .ok (.getfield 12, 3) := by decide +kernel
theorem d_X2_passNewName_24 : decode (D_X2_passNewName).2.1 24 = .ok (.aload_n 0, 1) := by decide +kernel
theorem d_X2_passNewName_25 : decode (D_X2_passNewName).2.1 25 = .ok (.getfield 29, 3) := by decide +kernel
theorem d_X2_passNewName_28 : decode (D_X2_passNewName).2.1 28 = .ok (.getfield 157, 3) := by decide +kernel
theorem d_X2_passNewName_31 : decode (D_X2_passNewName).2.1 31 = .ok (.invokevirtual 161, 3) := by decide +kernel
theorem d_X2_passNewName_34 : decode (D_X2_passNewName).2.1 34 = .ok (.ifCond .ne 19, 3) := by decide +kernel
theorem d_X2_passNewName_37 : decode (D_X2_passNewName).2.1 37 = .ok (.iload_n 1, 1) := by decide +kernel
theorem d_X2_passNewName_38 : decode (D_X2_passNewName).2.1 38 = .ok (.bipush 8, 2) := by decide +kernel
theorem d_X2_passNewName_40 : decode (D_X2_passNewName).2.1 40 = .ok (.if_icmp .ne 22, 3) := by decide +kernel
theorem d_X2_passNewName_43 : decode (D_X2_passNewName).2.1 43 = .ok (.aload_n 0, 1) := by decide +kernel
theorem d_X2_passNewName_44 : decode (D_X2_passNewName).2.1 44 = .ok (.getfield 12, 3) := by decide +kernel
theorem d_X2_passNewName_47 : decode (D_X2_passNewName).2.1 47 = .ok (.getfield 94, 3) := by decide +kernel
theorem d_X2_passNewName_50 : decode (D_X2_passNewName).2.1 50 = .ok (.ifCond .ne 12, 3) := by decide +kernel
theorem d_X2_passNewName_53 : decode (D_X2_passNewName).2.1 53 = .ok (.aload_n 0, 1) := by decide +kernel
theorem d_X2_passNewName_54 : decode (D_X2_passNewName).2.1 54 = .ok (.getfield 29, 3) := by decide +kernel
theorem d_X2_passNewName_57 : decode (D_X2_passNewName).2.1 57 = .ok (.iconst 3, 1) := by decide +kernel
theorem d_X2_passNewName_58 : decode (D_X2_passNewName).2.1 58 = .ok (.invokevirtual 74, 3) := by decide +kernel
theorem d_X2_passNewName_61 : decode (D_X2_passNewName).2.1 61 = .ok (.return_, 1) := by decide +kernel
theorem d_X2_passNewName_62 : decode (D_X2_passNewName).2.1 62 = .ok (.aload_n 0, 1) := by decide +kernel
theorem d_X2_passNewName_63 : decode (D_X2_passNewName).2.1 63 = .ok (.getfield 12, 3) := by decide +kernel
theorem d_X2_passNewName_66 : decode (D_X2_passNewName).2.1 66 = .ok (.aload_n 0, 1) := by decide +kernel
theorem d_X2_passNewName_67 : decode (D_X2_passNewName).2.1 67 = .ok (.getfield 29, 3) := by decide +kernel
theorem d_X2_passNewName_70 : decode (D_X2_passNewName).2.1 70 = .ok (.getfield 157, 3) := by decide +kernel
theorem d_X2_passNewName_73 : decode (D_X2_passNewName).2.1 73 = .ok (.iload_n 1, 1) := by decide +kernel
theorem d_X2_passNewName_74 : decode (D_X2_passNewName).2.1 74 = .ok (.iload_n 2, 1) := by decide +kernel
theorem d_X2_passNewName_75 : decode (D_X2_passNewName).2.1 75 = .ok (.invokevirtual 165, 3) := by decide +kernel
theorem d_X2_passNewName_78 : decode (D_X2_passNewName).2.1 78 = .ok (.aload_n 0, 1) := by decide +kernel
theorem d_X2_passNewName_79 : decode (D_X2_passNewName).2.1 79 = .ok (.getfield 29, 3) := by decide +kernel
theorem d_X2_passNewName_82 : decode (D_X2_passNewName).2.1 82 = .ok (.invokevirtual 84, 3) := by decide +kernel
theorem d_X2_passNewName_85 : decode (D_X2_passNewName).2.1 85 = .ok (.return_, 1) := by decide +kernel
def f_X2_passNewName_L53 (n : Nat) (M : JMem) : Option (Int × JMem) := bnd (f_X6_fail n 3 M) fun _ M2 => some (0, M2)
set_option maxRecDepth 4000 in
theorem t_X2_passNewName_L53 {g : JG} {ad : Nat → Nat} (hs : jStr g ad) (n : Nat) (M : JMem) : jB g D_X2_passNewName ad 53 [some (.ref 12), none, none] [] M (f_X2_passNewName_L53 n M) := by
  unfold f_X2_passNewName_L53
  refine jo_aload 0 d_X2_passNewName_53 rfl rfl ?_
  refine jo_getR (k := 0) cl_2 (Nat.le_of_ble_eq_true rfl) lk_X2_29 rfl kc_12 kr_12_0 d_X2_passNewName_54 ?_
  refine jo_iconst 3 d_X2_passNewName_57 ?_
  refine jo_callV (st := []) (m_X6_fail hs n 3 M) ok_X6_fail (And.intro (Nat.le_of_ble_eq_true rfl) (Nat.le_of_ble_eq_true rfl)) lm_X2_74 in_X6_fail se_X6_fail rfl kc_9 rfl rfl (And.intro (Nat.zero_le _) (Nat.zero_le _)) rfl (Nat.le_of_ble_eq_true rfl) d_X2_passNewName_58 (fun _ M2 => ?_)
  exact jo_vret rfl d_X2_passNewName_61
def f_X2_passNewName_L62 (n : Nat) (v1 v2 : Int) (M : JMem) : Option (Int × JMem) := bnd (f_X4_addName n 13 (M 9 7) v1 v2 M) fun _ M2 => bnd (f_X6_advance n M2) fun _ M4 => some (0, M4)
set_option maxRecDepth 4000 in
theorem t_X2_passNewName_L62 {g : JG} {ad : Nat → Nat} (hs : jStr g ad) (n : Nat) (v1 v2 : Int) (M : JMem) : jB g D_X2_passNewName ad 62 [some (.ref 12), some (ji v1), some (ji v2)] [] M (f_X2_passNewName_L62 n v1 v2 M) := by
  unfold f_X2_passNewName_L62
  refine jo_aload 0 d_X2_passNewName_62 rfl rfl ?_
  refine jo_getR (k := 1) cl_2 (Nat.le_of_ble_eq_true rfl) lk_X2_12 rfl kc_12 kr_12_1 d_X2_passNewName_63 ?_
  refine jo_aload 0 d_X2_passNewName_66 rfl rfl ?_
  refine jo_getR (k := 0) cl_2 (Nat.le_of_ble_eq_true rfl) lk_X2_29 rfl kc_12 kr_12_0 d_X2_passNewName_67 ?_
  refine jo_getL (k := 7) cl_6 (Nat.le_of_ble_eq_true rfl) lk_X2_157 rfl kc_9 d_X2_passNewName_70 ?_
  refine jo_iload 1 d_X2_passNewName_73 rfl rfl ?_
  refine jo_iload 2 d_X2_passNewName_74 rfl rfl ?_
  refine jo_callV (st := []) (m_X4_addName hs n 13 (M 9 7) v1 v2 kc_13 M) ok_X4_addName (And.intro (Nat.le_of_ble_eq_true rfl) (Nat.le_of_ble_eq_true rfl)) lm_X2_165 in_X4_addName se_X4_addName rfl kc_13 rfl rfl (And.intro (Nat.zero_le _) (Nat.zero_le _)) rfl (Nat.le_of_ble_eq_true rfl) d_X2_passNewName_75 (fun _ M2 => ?_)
  refine jo_aload 0 d_X2_passNewName_78 rfl rfl ?_
  refine jo_getR (k := 0) cl_2 (Nat.le_of_ble_eq_true rfl) lk_X2_29 rfl kc_12 kr_12_0 d_X2_passNewName_79 ?_
  refine jo_callV (st := []) (m_X6_advance hs n M2) ok_X6_advance (And.intro (Nat.le_of_ble_eq_true rfl) (Nat.le_of_ble_eq_true rfl)) lm_X2_84 in_X6_advance se_X6_advance rfl kc_9 rfl rfl (And.intro (Nat.zero_le _) (Nat.zero_le _)) rfl (Nat.le_of_ble_eq_true rfl) d_X2_passNewName_82 (fun _ M4 => ?_)
  exact jo_vret rfl d_X2_passNewName_85
def f_X2_passNewName (n : Nat) (x1 : Int) (x2 : Int) (M : JMem) : Option (Int × JMem) := if jw (M 9 4) = jw 2 then (bnd (f_X4_hasName n 13 (M 9 7) M) fun r1 M2 => if jw r1 = 0 then (if jw x1 = jw 8 then (if jw (M2 13 0) = 0 then (f_X2_passNewName_L53 n M2) else (f_X2_passNewName_L62 n x1 x2 M2)) else (f_X2_passNewName_L62 n x1 x2 M2)) else (f_X2_passNewName_L53 n M2)) else (bnd (f_X6_fail n 2 M) fun _ M4 => some (0, M4))
set_option maxRecDepth 4000 in
theorem t_X2_passNewName {g : JG} {ad : Nat → Nat} (hs : jStr g ad) (n : Nat) (x1 : Int) (x2 : Int) (M : JMem) : jB g D_X2_passNewName ad 0 [some (.ref 12), some (ji x1), some (ji x2)] [] M (f_X2_passNewName n x1 x2 M) := by
  unfold f_X2_passNewName
  refine jo_aload 0 d_X2_passNewName_0 rfl rfl ?_
  refine jo_getR (k := 0) cl_2 (Nat.le_of_ble_eq_true rfl) lk_X2_29 rfl kc_12 kr_12_0 d_X2_passNewName_1 ?_
  refine jo_getI (k := 4) cl_6 (Nat.le_of_ble_eq_true rfl) lk_X2_49 (Or.inl rfl) kc_9 d_X2_passNewName_4 ?_
  refine jo_iconst 2 d_X2_passNewName_7 ?_
  refine jo_icmp_eq 20 d_X2_passNewName_8 (by decide) ?_ ?_
  · skip
    refine jo_aload 0 d_X2_passNewName_20 rfl rfl ?_
    refine jo_getR (k := 1) cl_2 (Nat.le_of_ble_eq_true rfl) lk_X2_12 rfl kc_12 kr_12_1 d_X2_passNewName_21 ?_
    refine jo_aload 0 d_X2_passNewName_24 rfl rfl ?_
    refine jo_getR (k := 0) cl_2 (Nat.le_of_ble_eq_true rfl) lk_X2_29 rfl kc_12 kr_12_0 d_X2_passNewName_25 ?_
    refine jo_getL (k := 7) cl_6 (Nat.le_of_ble_eq_true rfl) lk_X2_157 rfl kc_9 d_X2_passNewName_28 ?_
    refine jo_callV (st := []) (m_X4_hasName hs n 13 (M 9 7) kc_13 M) ok_X4_hasName (And.intro (Nat.le_of_ble_eq_true rfl) (Nat.le_of_ble_eq_true rfl)) lm_X2_161 in_X4_hasName se_X4_hasName rfl kc_13 rfl rfl (And.intro (Nat.zero_le _) (Nat.zero_le _)) rfl (Nat.le_of_ble_eq_true rfl) d_X2_passNewName_31 (fun r1 M2 => ?_)
    refine jo_if_ne 53 d_X2_passNewName_34 (by decide) ?_ ?_
    · skip
      exact jO.sub (t_X2_passNewName_L53 hs n M2) (And.intro rfl True.intro)
    · skip
      refine jo_iload 1 d_X2_passNewName_37 rfl rfl ?_
      refine jo_bipush 8 d_X2_passNewName_38 (by decide) ?_
      refine jo_icmp_ne 62 d_X2_passNewName_40 (by decide) ?_ ?_
      · skip
        exact jO.sub (t_X2_passNewName_L62 hs n x1 x2 M2) (And.intro rfl (And.intro rfl (And.intro rfl True.intro)))
      · skip
        refine jo_aload 0 d_X2_passNewName_43 rfl rfl ?_
        refine jo_getR (k := 1) cl_2 (Nat.le_of_ble_eq_true rfl) lk_X2_12 rfl kc_12 kr_12_1 d_X2_passNewName_44 ?_
        refine jo_getI (k := 0) cl_4 (Nat.le_of_ble_eq_true rfl) lk_X2_94 (Or.inl rfl) kc_13 d_X2_passNewName_47 ?_
        refine jo_if_ne 62 d_X2_passNewName_50 (by decide) ?_ ?_
        · skip
          exact jO.sub (t_X2_passNewName_L62 hs n x1 x2 M2) (And.intro rfl (And.intro rfl (And.intro rfl True.intro)))
        · skip
          exact jO.sub (t_X2_passNewName_L53 hs n M2) (And.intro rfl True.intro)
  · skip
    refine jo_aload 0 d_X2_passNewName_11 rfl rfl ?_
    refine jo_getR (k := 0) cl_2 (Nat.le_of_ble_eq_true rfl) lk_X2_29 rfl kc_12 kr_12_0 d_X2_passNewName_12 ?_
    refine jo_iconst 2 d_X2_passNewName_15 ?_
    refine jo_callV (st := []) (m_X6_fail hs n 2 M) ok_X6_fail (And.intro (Nat.le_of_ble_eq_true rfl) (Nat.le_of_ble_eq_true rfl)) lm_X2_74 in_X6_fail se_X6_fail rfl kc_9 rfl rfl (And.intro (Nat.zero_le _) (Nat.zero_le _)) rfl (Nat.le_of_ble_eq_true rfl) d_X2_passNewName_16 (fun _ M4 => ?_)
    exact jo_vret rfl d_X2_passNewName_19
theorem m_X2_passNewName {g : JG} {ad : Nat → Nat} (hs : jStr g ad) (n : Nat) (x1 : Int) (x2 : Int) (M : JMem) : jMet g jNN ad jR D_X2_passNewName yX2_passNewName [.ref 12, ji x1, ji x2] M (f_X2_passNewName n x1 x2 M) :=
  jMet.of (lo0 := [some (.ref 12), some (ji x1), some (ji x2)]) (by decide) rfl rfl (Nat.le_of_ble_eq_true rfl) (And.intro rfl (And.intro rfl (And.intro rfl True.intro))) (t_X2_passNewName hs n x1 x2 M)
/-! CageLeave$ParkReader.takeBeast()V -/
def D_X2_takeBeast : JD := (RX2, cX2_takeBeast, 2, none, "takeBeast", { frames := 5, cells := 0, slots := 0, locals := 113 })
theorem ok_X2_takeBeast : jOk D_X2_takeBeast yX2_takeBeast 0 := ⟨jTW_mem (k := 852) (by decide +kernel) rfl, jTW_mem (k := 142) (by decide +kernel) rfl, ⟨by decide +kernel, by decide +kernel⟩, by decide +kernel, rfl, rfl⟩
theorem in_X2_takeBeast : Cond.instanceMethod yX2_takeBeast ∈ jTW := jTW_mem (k := 851) (by decide +kernel) rfl
theorem se_X2_takeBeast : Cond.selects yX2_takeBeast.cls yX2_takeBeast yX2_takeBeast ∈ jTW := jTW_mem (k := 10) (by decide +kernel) rfl
theorem lk_X2_131 : Cond.fieldLink RX2 131 (TX4 2).1 (TX4 2).2.1 (TX4 2).2.2.1 ∈ jTW := jTW_mem (k := 316) (by decide +kernel) rfl
theorem lm_X2_97 : Cond.methodLink RX2 97 yX2_passNewName ∈ jTW := jTW_mem (k := 815) (by decide +kernel) rfl
theorem lk_X2_134 : Cond.fieldLink RX2 134 (TX4 13).1 (TX4 13).2.1 (TX4 13).2.2.1 ∈ jTW := jTW_mem (k := 352) (by decide +kernel) rfl
theorem lm_X2_127 : Cond.methodLink RX2 127 yX2_optional ∈ jTW := jTW_mem (k := 844) (by decide +kernel) rfl
theorem lk_X2_137 : Cond.fieldLink RX2 137 (TX4 14).1 (TX4 14).2.1 (TX4 14).2.2.1 ∈ jTW := jTW_mem (k := 355) (by decide +kernel) rfl
theorem lk_X2_140 : Cond.fieldLink RX2 140 (TX4 15).1 (TX4 15).2.1 (TX4 15).2.2.1 ∈ jTW := jTW_mem (k := 359) (by decide +kernel) rfl
theorem lm_X2_147 : Cond.methodLink RX2 147 yX1_turnOut ∈ jTW := jTW_mem (k := 853) (by decide +kernel) rfl
theorem d_X2_takeBeast_0 : decode (D_X2_takeBeast).2.1 0 = .ok (.aload_n 0, 1) := by decide +kernel
theorem d_X2_takeBeast_1 : decode (D_X2_takeBeast).2.1 1 = .ok (.getfield 12, 3) := by decide +kernel
theorem d_X2_takeBeast_4 : decode (D_X2_takeBeast).2.1 4 = .ok (.getfield 131, 3) := by decide +kernel
theorem d_X2_takeBeast_7 : decode (D_X2_takeBeast).2.1 7 = .ok (.istore_n 1, 1) := by decide +kernel
theorem d_X2_takeBeast_8 : decode (D_X2_takeBeast).2.1 8 = .ok (.iload_n 1, 1) := by decide +kernel
theorem d_X2_takeBeast_9 : decode (D_X2_takeBeast).2.1 9 = .ok (.bipush 8, 2) := by decide +kernel
theorem d_X2_takeBeast_11 : decode (D_X2_takeBeast).2.1 11 = .ok (.if_icmp .lt 13, 3) := by decide +kernel
theorem d_X2_takeBeast_14 : decode (D_X2_takeBeast).2.1 14 = .ok (.aload_n 0, 1) := by decide +kernel
theorem d_X2_takeBeast_15 : decode (D_X2_takeBeast).2.1 15 = .ok (.getfield 29, 3) := by decide +kernel
theorem d_X2_takeBeast_18 : decode (D_X2_takeBeast).2.1 18 = .ok (.bipush 6, 2) := by decide +kernel
theorem d_X2_takeBeast_20 : decode (D_X2_takeBeast).2.1 20 = .ok (.invokevirtual 74, 3) := by decide +kernel
theorem d_X2_takeBeast_23 : decode (D_X2_takeBeast).2.1 23 = .ok (.return_, 1) := by decide +kernel
theorem d_X2_takeBeast_24 : decode (D_X2_takeBeast).2.1 24 = .ok (.aload_n 0, 1) := by decide +kernel
theorem d_X2_takeBeast_25 : decode (D_X2_takeBeast).2.1 25 = .ok (.getfield 29, 3) := by decide +kernel
theorem d_X2_takeBeast_28 : decode (D_X2_takeBeast).2.1 28 = .ok (.invokevirtual 84, 3) := by decide +kernel
theorem d_X2_takeBeast_31 : decode (D_X2_takeBeast).2.1 31 = .ok (.aload_n 0, 1) := by decide +kernel
theorem d_X2_takeBeast_32 : decode (D_X2_takeBeast).2.1 32 = .ok (.bipush 8, 2) := by decide +kernel
theorem d_X2_takeBeast_34 : decode (D_X2_takeBeast).2.1 34 = .ok (.iload_n 1, 1) := by decide +kernel
theorem d_X2_takeBeast_35 : decode (D_X2_takeBeast).2.1 35 = .ok (.invokevirtual 97, 3) := by decide +kernel
theorem d_X2_takeBeast_38 : decode (D_X2_takeBeast).2.1 38 = .ok (.aload_n 0, 1) := by decide +kernel
theorem d_X2_takeBeast_39 : decode (D_X2_takeBeast).2.1 39 = .ok (.getfield 12, 3) := by decide +kernel
theorem d_X2_takeBeast_42 : decode (D_X2_takeBeast).2.1 42 = .ok (.getfield 134, 3) := by decide +kernel
theorem d_X2_takeBeast_45 : decode (D_X2_takeBeast).2.1 45 = .ok (.iload_n 1, 1) := by decide +kernel
theorem d_X2_takeBeast_46 : decode (D_X2_takeBeast).2.1 46 = .ok (.aload_n 0, 1) := by decide +kernel
theorem d_X2_takeBeast_47 : decode (D_X2_takeBeast).2.1 47 = .ok (.bipush 9, 2) := by decide +kernel
theorem d_X2_takeBeast_49 : decode (D_X2_takeBeast).2.1 49 = .ok (.iconst 1, 1) := by decide +kernel
theorem d_X2_takeBeast_50 : decode (D_X2_takeBeast).2.1 50 = .ok (.bipush 9, 2) := by decide +kernel
theorem d_X2_takeBeast_52 : decode (D_X2_takeBeast).2.1 52 = .ok (.iconst 1, 1) := by decide +kernel
theorem d_X2_takeBeast_53 : decode (D_X2_takeBeast).2.1 53 = .ok (.invokevirtual 127, 3) := by decide +kernel
theorem d_X2_takeBeast_56 : decode (D_X2_takeBeast).2.1 56 = .ok (.iastore, 1) := by decide +kernel
theorem d_X2_takeBeast_57 : decode (D_X2_takeBeast).2.1 57 = .ok (.aload_n 0, 1) := by decide +kernel
theorem d_X2_takeBeast_58 : decode (D_X2_takeBeast).2.1 58 = .ok (.getfield 12, 3) := by decide +kernel
theorem d_X2_takeBeast_61 : decode (D_X2_takeBeast).2.1 61 = .ok (.getfield 137, 3) := by decide +kernel
theorem d_X2_takeBeast_64 : decode (D_X2_takeBeast).2.1 64 = .ok (.iload_n 1, 1) := by decide +kernel
theorem d_X2_takeBeast_65 : decode (D_X2_takeBeast).2.1 65 = .ok (.aload_n 0, 1) := by decide +kernel
theorem d_X2_takeBeast_66 : decode (D_X2_takeBeast).2.1 66 = .ok (.bipush 10, 2) := by decide +kernel
theorem d_X2_takeBeast_68 : decode (D_X2_takeBeast).2.1 68 = .ok (.iconst 0, 1) := by decide +kernel
theorem d_X2_takeBeast_69 : decode (D_X2_takeBeast).2.1 69 = .ok (.bipush 16, 2) := by decide +kernel
theorem d_X2_takeBeast_71 : decode (D_X2_takeBeast).2.1 71 = .ok (.bipush 8, 2) := by decide +kernel
theorem d_X2_takeBeast_73 : decode (D_X2_takeBeast).2.1 73 = .ok (.invokevirtual 127, 3) := by decide +kernel
theorem d_X2_takeBeast_76 : decode (D_X2_takeBeast).2.1 76 = .ok (.iastore, 1) := by decide +kernel
theorem d_X2_takeBeast_77 : decode (D_X2_takeBeast).2.1 77 = .ok (.aload_n 0, 1) := by decide +kernel
theorem d_X2_takeBeast_78 : decode (D_X2_takeBeast).2.1 78 = .ok (.getfield 12, 3) := by decide +kernel
theorem d_X2_takeBeast_81 : decode (D_X2_takeBeast).2.1 81 = .ok (.getfield 140, 3) := by decide +kernel
theorem d_X2_takeBeast_84 : decode (D_X2_takeBeast).2.1 84 = .ok (.iload_n 1, 1) := by decide +kernel
theorem d_X2_takeBeast_85 : decode (D_X2_takeBeast).2.1 85 = .ok (.iconst 0, 1) := by decide +kernel
theorem d_X2_takeBeast_86 : decode (D_X2_takeBeast).2.1 86 = .ok (.iastore, 1) := by decide +kernel
theorem d_X2_takeBeast_87 : decode (D_X2_takeBeast).2.1 87 = .ok (.aload_n 0, 1) := by decide +kernel
theorem d_X2_takeBeast_88 : decode (D_X2_takeBeast).2.1 88 = .ok (.getfield 29, 3) := by decide +kernel
theorem d_X2_takeBeast_91 : decode (D_X2_takeBeast).2.1 91 = .ok (.bipush 11, 2) := by decide +kernel
theorem d_X2_takeBeast_93 : decode (D_X2_takeBeast).2.1 93 = .ok (.invokevirtual 143, 3) := by decide +kernel
theorem d_X2_takeBeast_96 : decode (D_X2_takeBeast).2.1 96 = .ok (.ifCond .eq 18, 3) := by decide +kernel
theorem d_X2_takeBeast_99 : decode (D_X2_takeBeast).2.1 99 = .ok (.aload_n 0, 1) := by decide +kernel
theorem d_X2_takeBeast_100 : decode (D_X2_takeBeast).2.1 100 = .ok (.getfield 21, 3) := by decide +kernel
theorem d_X2_takeBeast_103 : decode (D_X2_takeBeast).2.1 103 = .ok (.iload_n 1, 1) := by decide +kernel
theorem d_X2_takeBeast_104 : decode (D_X2_takeBeast).2.1 104 = .ok (.invokevirtual 147, 3) := by decide +kernel
theorem d_X2_takeBeast_107 : decode (D_X2_takeBeast).2.1 107 = .ok (.aload_n 0, 1) := by decide +kernel
theorem d_X2_takeBeast_108 : decode (D_X2_takeBeast).2.1 108 = .ok (.getfield 29, 3) := by decide +kernel
theorem d_X2_takeBeast_111 : decode (D_X2_takeBeast).2.1 111 = .ok (.invokevirtual 84, 3) := by decide +kernel
theorem d_X2_takeBeast_114 : decode (D_X2_takeBeast).2.1 114 = .ok (.aload_n 0, 1) := by decide +kernel
theorem d_X2_takeBeast_115 : decode (D_X2_takeBeast).2.1 115 = .ok (.getfield 12, 3) := by decide +kernel
theorem d_X2_takeBeast_118 : decode (D_X2_takeBeast).2.1 118 = .ok (.dup, 1) := by decide +kernel
theorem d_X2_takeBeast_119 : decode (D_X2_takeBeast).2.1 119 = .ok (.getfield 131, 3) := by decide +kernel
theorem d_X2_takeBeast_122 : decode (D_X2_takeBeast).2.1 122 = .ok (.iconst 1, 1) := by decide +kernel
theorem d_X2_takeBeast_123 : decode (D_X2_takeBeast).2.1 123 = .ok (.iadd, 1) := by decide +kernel
theorem d_X2_takeBeast_124 : decode (D_X2_takeBeast).2.1 124 = .ok (.putfield 131, 3) := by decide +kernel
theorem d_X2_takeBeast_127 : decode (D_X2_takeBeast).2.1 127 = .ok (.return_, 1) := by decide +kernel
def f_X2_takeBeast_L114 (n : Nat) (M : JMem) : Option (Int × JMem) := letm (jup M 13 2 ((M 13 2) + 1)) fun M1 => some (0, M1)
set_option maxRecDepth 4000 in
theorem t_X2_takeBeast_L114 {g : JG} {ad : Nat → Nat} (hs : jStr g ad) (n : Nat) (M : JMem) : jB g D_X2_takeBeast ad 114 [some (.ref 12), none] [] M (f_X2_takeBeast_L114 n M) := by
  unfold f_X2_takeBeast_L114
  refine jo_aload 0 d_X2_takeBeast_114 rfl rfl ?_
  refine jo_getR (k := 1) cl_2 (Nat.le_of_ble_eq_true rfl) lk_X2_12 rfl kc_12 kr_12_1 d_X2_takeBeast_115 ?_
  refine jo_dup d_X2_takeBeast_118 rfl ?_
  refine jo_getI (k := 2) cl_4 (Nat.le_of_ble_eq_true rfl) lk_X2_131 (Or.inl rfl) kc_13 d_X2_takeBeast_119 ?_
  refine jo_iconst 1 d_X2_takeBeast_122 ?_
  refine jo_iadd d_X2_takeBeast_123 ?_
  refine jo_putI (k := 2) cl_4 (Nat.le_of_ble_eq_true rfl) lk_X2_131 rfl rfl kc_13 d_X2_takeBeast_124 (fun M1 => ?_)
  exact jo_vret rfl d_X2_takeBeast_127
def f_X2_takeBeast (n : Nat) (M : JMem) : Option (Int × JMem) := letv (M 13 2) fun y1 => if jw y1 < jw 8 then (bnd (f_X6_advance n M) fun _ M3 => bnd (f_X2_passNewName n 8 y1 M3) fun _ M5 => bnd (f_X2_optional n 9 1 9 1 M5) fun r6 M7 => chk (jin y1 8) <| letm (jup M7 (13 + 9) (jw y1).toNat r6) fun M8 => bnd (f_X2_optional n 10 0 16 8 M8) fun r9 M10 => chk (jin y1 8) <| letm (jup M10 (13 + 10) (jw y1).toNat r9) fun M11 => chk (jin y1 8) <| letm (jup M11 (13 + 11) (jw y1).toNat 0) fun M12 => bnd (f_X6_isAt n 11 M12) fun r13 M14 => if jw r13 = 0 then (f_X2_takeBeast_L114 n M14) else (bnd (f_X1_turnOut n 25 y1 M14) fun _ M16 => bnd (f_X6_advance n M16) fun _ M18 => f_X2_takeBeast_L114 n M18)) else (bnd (f_X6_fail n 6 M) fun _ M20 => some (0, M20))
set_option maxRecDepth 4000 in
theorem t_X2_takeBeast {g : JG} {ad : Nat → Nat} (hs : jStr g ad) (n : Nat) (M : JMem) : jB g D_X2_takeBeast ad 0 [some (.ref 12), none] [] M (f_X2_takeBeast n M) := by
  unfold f_X2_takeBeast
  refine jo_aload 0 d_X2_takeBeast_0 rfl rfl ?_
  refine jo_getR (k := 1) cl_2 (Nat.le_of_ble_eq_true rfl) lk_X2_12 rfl kc_12 kr_12_1 d_X2_takeBeast_1 ?_
  refine jo_getI (k := 2) cl_4 (Nat.le_of_ble_eq_true rfl) lk_X2_131 (Or.inl rfl) kc_13 d_X2_takeBeast_4 ?_
  refine jo_istore 1 d_X2_takeBeast_7 rfl (Nat.le_of_ble_eq_true rfl) (fun y1 => ?_)
  refine jo_iload 1 d_X2_takeBeast_8 rfl rfl ?_
  refine jo_bipush 8 d_X2_takeBeast_9 (by decide) ?_
  refine jo_icmp_lt 24 d_X2_takeBeast_11 (by decide) ?_ ?_
  · skip
    refine jo_aload 0 d_X2_takeBeast_24 rfl rfl ?_
    refine jo_getR (k := 0) cl_2 (Nat.le_of_ble_eq_true rfl) lk_X2_29 rfl kc_12 kr_12_0 d_X2_takeBeast_25 ?_
    refine jo_callV (st := []) (m_X6_advance hs n M) ok_X6_advance (And.intro (Nat.le_of_ble_eq_true rfl) (Nat.le_of_ble_eq_true rfl)) lm_X2_84 in_X6_advance se_X6_advance rfl kc_9 rfl rfl (And.intro (Nat.zero_le _) (Nat.zero_le _)) rfl (Nat.le_of_ble_eq_true rfl) d_X2_takeBeast_28 (fun _ M3 => ?_)
    refine jo_aload 0 d_X2_takeBeast_31 rfl rfl ?_
    refine jo_bipush 8 d_X2_takeBeast_32 (by decide) ?_
    refine jo_iload 1 d_X2_takeBeast_34 rfl rfl ?_
    refine jo_callV (st := []) (m_X2_passNewName hs n 8 y1 M3) ok_X2_passNewName (And.intro (Nat.le_of_ble_eq_true rfl) (Nat.le_of_ble_eq_true rfl)) lm_X2_97 in_X2_passNewName se_X2_passNewName rfl kc_12 rfl rfl (And.intro (Nat.zero_le _) (Nat.zero_le _)) rfl (Nat.le_of_ble_eq_true rfl) d_X2_takeBeast_35 (fun _ M5 => ?_)
    refine jo_aload 0 d_X2_takeBeast_38 rfl rfl ?_
    refine jo_getR (k := 1) cl_2 (Nat.le_of_ble_eq_true rfl) lk_X2_12 rfl kc_12 kr_12_1 d_X2_takeBeast_39 ?_
    refine jo_getR (k := 13) cl_4 (Nat.le_of_ble_eq_true rfl) lk_X2_134 rfl kc_13 (kr_Plan_13 kc_13) d_X2_takeBeast_42 ?_
    refine jo_iload 1 d_X2_takeBeast_45 rfl rfl ?_
    refine jo_aload 0 d_X2_takeBeast_46 rfl rfl ?_
    refine jo_bipush 9 d_X2_takeBeast_47 (by decide) ?_
    refine jo_iconst 1 d_X2_takeBeast_49 ?_
    refine jo_bipush 9 d_X2_takeBeast_50 (by decide) ?_
    refine jo_iconst 1 d_X2_takeBeast_52 ?_
    refine jo_callV (st := [ji y1, .ref (13 + 9)]) (m_X2_optional hs n 9 1 9 1 M5) ok_X2_optional (And.intro (Nat.le_of_ble_eq_true rfl) (Nat.le_of_ble_eq_true rfl)) lm_X2_127 in_X2_optional se_X2_optional rfl kc_12 rfl rfl (And.intro (Nat.zero_le _) (Nat.zero_le _)) rfl (Nat.le_of_ble_eq_true rfl) d_X2_takeBeast_53 (fun r6 M7 => ?_)
    refine jo_iast (N := 8) (ka_Plan_13 kc_13) d_X2_takeBeast_56 (fun M8 => ?_)
    refine jo_aload 0 d_X2_takeBeast_57 rfl rfl ?_
    refine jo_getR (k := 1) cl_2 (Nat.le_of_ble_eq_true rfl) lk_X2_12 rfl kc_12 kr_12_1 d_X2_takeBeast_58 ?_
    refine jo_getR (k := 14) cl_4 (Nat.le_of_ble_eq_true rfl) lk_X2_137 rfl kc_13 (kr_Plan_14 kc_13) d_X2_takeBeast_61 ?_
    refine jo_iload 1 d_X2_takeBeast_64 rfl rfl ?_
    refine jo_aload 0 d_X2_takeBeast_65 rfl rfl ?_
    refine jo_bipush 10 d_X2_takeBeast_66 (by decide) ?_
    refine jo_iconst 0 d_X2_takeBeast_68 ?_
    refine jo_bipush 16 d_X2_takeBeast_69 (by decide) ?_
    refine jo_bipush 8 d_X2_takeBeast_71 (by decide) ?_
    refine jo_callV (st := [ji y1, .ref (13 + 10)]) (m_X2_optional hs n 10 0 16 8 M8) ok_X2_optional (And.intro (Nat.le_of_ble_eq_true rfl) (Nat.le_of_ble_eq_true rfl)) lm_X2_127 in_X2_optional se_X2_optional rfl kc_12 rfl rfl (And.intro (Nat.zero_le _) (Nat.zero_le _)) rfl (Nat.le_of_ble_eq_true rfl) d_X2_takeBeast_73 (fun r9 M10 => ?_)
    refine jo_iast (N := 8) (ka_Plan_14 kc_13) d_X2_takeBeast_76 (fun M11 => ?_)
    refine jo_aload 0 d_X2_takeBeast_77 rfl rfl ?_
    refine jo_getR (k := 1) cl_2 (Nat.le_of_ble_eq_true rfl) lk_X2_12 rfl kc_12 kr_12_1 d_X2_takeBeast_78 ?_
    refine jo_getR (k := 15) cl_4 (Nat.le_of_ble_eq_true rfl) lk_X2_140 rfl kc_13 (kr_Plan_15 kc_13) d_X2_takeBeast_81 ?_
    refine jo_iload 1 d_X2_takeBeast_84 rfl rfl ?_
    refine jo_iconst 0 d_X2_takeBeast_85 ?_
    refine jo_iast (N := 8) (ka_Plan_15 kc_13) d_X2_takeBeast_86 (fun M12 => ?_)
    refine jo_aload 0 d_X2_takeBeast_87 rfl rfl ?_
    refine jo_getR (k := 0) cl_2 (Nat.le_of_ble_eq_true rfl) lk_X2_29 rfl kc_12 kr_12_0 d_X2_takeBeast_88 ?_
    refine jo_bipush 11 d_X2_takeBeast_91 (by decide) ?_
    refine jo_callV (st := []) (m_X6_isAt hs n 11 M12) ok_X6_isAt (And.intro (Nat.le_of_ble_eq_true rfl) (Nat.le_of_ble_eq_true rfl)) lm_X2_143 in_X6_isAt se_X6_isAt rfl kc_9 rfl rfl (And.intro (Nat.zero_le _) (Nat.zero_le _)) rfl (Nat.le_of_ble_eq_true rfl) d_X2_takeBeast_93 (fun r13 M14 => ?_)
    refine jo_if_eq 114 d_X2_takeBeast_96 (by decide) ?_ ?_
    · skip
      exact jO.sub (t_X2_takeBeast_L114 hs n M14) (And.intro rfl True.intro)
    · skip
      refine jo_aload 0 d_X2_takeBeast_99 rfl rfl ?_
      refine jo_getR (k := 2) cl_2 (Nat.le_of_ble_eq_true rfl) lk_X2_21 rfl kc_12 kr_12_2 d_X2_takeBeast_100 ?_
      refine jo_iload 1 d_X2_takeBeast_103 rfl rfl ?_
      refine jo_callV (st := []) (m_X1_turnOut hs n 25 y1 kc_25 M14) ok_X1_turnOut (And.intro (Nat.le_of_ble_eq_true rfl) (Nat.le_of_ble_eq_true rfl)) lm_X2_147 in_X1_turnOut se_X1_turnOut rfl kc_25 rfl rfl (And.intro (Nat.zero_le _) (Nat.zero_le _)) rfl (Nat.le_of_ble_eq_true rfl) d_X2_takeBeast_104 (fun _ M16 => ?_)
      refine jo_aload 0 d_X2_takeBeast_107 rfl rfl ?_
      refine jo_getR (k := 0) cl_2 (Nat.le_of_ble_eq_true rfl) lk_X2_29 rfl kc_12 kr_12_0 d_X2_takeBeast_108 ?_
      refine jo_callV (st := []) (m_X6_advance hs n M16) ok_X6_advance (And.intro (Nat.le_of_ble_eq_true rfl) (Nat.le_of_ble_eq_true rfl)) lm_X2_84 in_X6_advance se_X6_advance rfl kc_9 rfl rfl (And.intro (Nat.zero_le _) (Nat.zero_le _)) rfl (Nat.le_of_ble_eq_true rfl) d_X2_takeBeast_111 (fun _ M18 => ?_)
      exact jO.sub (t_X2_takeBeast_L114 hs n M18) (And.intro rfl True.intro)
  · skip
    refine jo_aload 0 d_X2_takeBeast_14 rfl rfl ?_
    refine jo_getR (k := 0) cl_2 (Nat.le_of_ble_eq_true rfl) lk_X2_29 rfl kc_12 kr_12_0 d_X2_takeBeast_15 ?_
    refine jo_bipush 6 d_X2_takeBeast_18 (by decide) ?_
    refine jo_callV (st := []) (m_X6_fail hs n 6 M) ok_X6_fail (And.intro (Nat.le_of_ble_eq_true rfl) (Nat.le_of_ble_eq_true rfl)) lm_X2_74 in_X6_fail se_X6_fail rfl kc_9 rfl rfl (And.intro (Nat.zero_le _) (Nat.zero_le _)) rfl (Nat.le_of_ble_eq_true rfl) d_X2_takeBeast_20 (fun _ M20 => ?_)
    exact jo_vret rfl d_X2_takeBeast_23
theorem m_X2_takeBeast {g : JG} {ad : Nat → Nat} (hs : jStr g ad) (n : Nat) (M : JMem) : jMet g jNN ad jR D_X2_takeBeast yX2_takeBeast [.ref 12] M (f_X2_takeBeast n M) :=
  jMet.of (lo0 := [some (.ref 12), none]) (by decide) rfl rfl (Nat.le_of_ble_eq_true rfl) (And.intro rfl True.intro) (t_X2_takeBeast hs n M)
/-! CageLeave$Plan.numberAt(LCageLeave$Text;I)I -/
def D_X4_numberAt : JD := (RX4, cX4_numberAt, 4, some .int, "numberAt", { frames := 1, cells := 0, slots := 0, locals := 21 })
theorem ok_X4_numberAt : jOk D_X4_numberAt yX4_numberAt 2 := ⟨jTW_mem (k := 842) (by decide +kernel) rfl, jTW_mem (k := 143) (by decide +kernel) rfl, ⟨by decide +kernel, by decide +kernel⟩, by decide +kernel, rfl, rfl⟩
theorem in_X4_numberAt : Cond.instanceMethod yX4_numberAt ∈ jTW := jTW_mem (k := 840) (by decide +kernel) rfl
theorem se_X4_numberAt : Cond.selects yX4_numberAt.cls yX4_numberAt yX4_numberAt ∈ jTW := jTW_mem (k := 841) (by decide +kernel) rfl
theorem lk_X4_77 : Cond.fieldLink RX4 77 (TX6 7).1 (TX6 7).2.1 (TX6 7).2.2.1 ∈ jTW := jTW_mem (k := 260) (by decide +kernel) rfl
theorem lm_X4_73 : Cond.methodLink RX4 73 yX6_fail ∈ jTW := jTW_mem (k := 843) (by decide +kernel) rfl
theorem lk_X4_68 : Cond.fieldLink RX4 68 (TX6 4).1 (TX6 4).2.1 (TX6 4).2.2.1 ∈ jTW := jTW_mem (k := 255) (by decide +kernel) rfl
theorem d_X4_numberAt_0 : decode (D_X4_numberAt).2.1 0 = .ok (.aload_n 1, 1) := by decide +kernel
theorem d_X4_numberAt_1 : decode (D_X4_numberAt).2.1 1 = .ok (.getfield 68, 3) := by decide +kernel
theorem d_X4_numberAt_4 : decode (D_X4_numberAt).2.1 4 = .ok (.iconst 2, 1) := by decide +kernel
theorem d_X4_numberAt_5 : decode (D_X4_numberAt).2.1 5 = .ok (.if_icmp .eq 10, 3) := by decide +kernel
theorem d_X4_numberAt_8 : decode (D_X4_numberAt).2.1 8 = .ok (.aload_n 1, 1) := by decide +kernel
theorem d_X4_numberAt_9 : decode (D_X4_numberAt).2.1 9 = .ok (.iconst 2, 1) := by decide +kernel
theorem d_X4_numberAt_10 : decode (D_X4_numberAt).2.1 10 = .ok (.invokevirtual 73, 3) := by decide +kernel
theorem d_X4_numberAt_13 : decode (D_X4_numberAt).2.1 13 = .ok (.iconst (-1), 1) := by decide +kernel
theorem d_X4_numberAt_14 : decode (D_X4_numberAt).2.1 14 = .ok (.ireturn, 1) := by decide +kernel
theorem d_X4_numberAt_15 : decode (D_X4_numberAt).2.1 15 = .ok (.iconst 0, 1) := by decide +kernel
theorem d_X4_numberAt_16 : decode (D_X4_numberAt).2.1 16 = .ok (.istore_n 3, 1) := by decide +kernel
theorem d_X4_numberAt_17 : decode (D_X4_numberAt).2.1 17 = .ok (.iload_n 3, 1) := by decide +kernel
theorem d_X4_numberAt_18 : decode (D_X4_numberAt).2.1 18 = .ok (.aload_n 0, 1) := by decide +kernel
theorem d_X4_numberAt_19 : decode (D_X4_numberAt).2.1 19 = .ok (.getfield 24, 3) := by decide +kernel
theorem d_X4_numberAt_22 : decode (D_X4_numberAt).2.1 22 = .ok (.if_icmp .ge 40, 3) := by decide +kernel
theorem d_X4_numberAt_25 : decode (D_X4_numberAt).2.1 25 = .ok (.aload_n 0, 1) := by decide +kernel
theorem d_X4_numberAt_26 : decode (D_X4_numberAt).2.1 26 = .ok (.getfield 27, 3) := by decide +kernel
theorem d_X4_numberAt_29 : decode (D_X4_numberAt).2.1 29 = .ok (.iload_n 3, 1) := by decide +kernel
theorem d_X4_numberAt_30 : decode (D_X4_numberAt).2.1 30 = .ok (.laload, 1) := by decide +kernel
theorem d_X4_numberAt_31 : decode (D_X4_numberAt).2.1 31 = .ok (.aload_n 1, 1) := by decide +kernel
theorem d_X4_numberAt_32 : decode (D_X4_numberAt).2.1 32 = .ok (.getfield 77, 3) := by decide +kernel
theorem d_X4_numberAt_35 : decode (D_X4_numberAt).2.1 35 = .ok (.lcmp, 1) := by decide +kernel
theorem d_X4_numberAt_36 : decode (D_X4_numberAt).2.1 36 = .ok (.ifCond .ne 20, 3) := by decide +kernel
theorem d_X4_numberAt_39 : decode (D_X4_numberAt).2.1 39 = .ok (.aload_n 0, 1) := by decide +kernel
theorem d_X4_numberAt_40 : decode (D_X4_numberAt).2.1 40 = .ok (.getfield 31, 3) := by decide +kernel
theorem d_X4_numberAt_43 : decode (D_X4_numberAt).2.1 43 = .ok (.iload_n 3, 1) := by decide +kernel
theorem d_X4_numberAt_44 : decode (D_X4_numberAt).2.1 44 = .ok (.iaload, 1) := by decide +kernel
theorem d_X4_numberAt_45 : decode (D_X4_numberAt).2.1 45 = .ok (.iload_n 2, 1) := by decide +kernel
theorem d_X4_numberAt_46 : decode (D_X4_numberAt).2.1 46 = .ok (.if_icmp .ne 10, 3) := by decide +kernel
theorem d_X4_numberAt_49 : decode (D_X4_numberAt).2.1 49 = .ok (.aload_n 0, 1) := by decide +kernel
theorem d_X4_numberAt_50 : decode (D_X4_numberAt).2.1 50 = .ok (.getfield 35, 3) := by decide +kernel
theorem d_X4_numberAt_53 : decode (D_X4_numberAt).2.1 53 = .ok (.iload_n 3, 1) := by decide +kernel
theorem d_X4_numberAt_54 : decode (D_X4_numberAt).2.1 54 = .ok (.iaload, 1) := by decide +kernel
theorem d_X4_numberAt_55 : decode (D_X4_numberAt).2.1 55 = .ok (.ireturn, 1) := by decide +kernel
theorem d_X4_numberAt_56 : decode (D_X4_numberAt).2.1 56 = .ok (.iinc 3 1, 3) := by decide +kernel
theorem d_X4_numberAt_59 : decode (D_X4_numberAt).2.1 59 = .ok (.goto (-42), 3) := by decide +kernel
theorem d_X4_numberAt_62 : decode (D_X4_numberAt).2.1 62 = .ok (.aload_n 1, 1) := by decide +kernel
theorem d_X4_numberAt_63 : decode (D_X4_numberAt).2.1 63 = .ok (.iconst 3, 1) := by decide +kernel
theorem d_X4_numberAt_64 : decode (D_X4_numberAt).2.1 64 = .ok (.invokevirtual 73, 3) := by decide +kernel
theorem d_X4_numberAt_67 : decode (D_X4_numberAt).2.1 67 = .ok (.iconst (-1), 1) := by decide +kernel
theorem d_X4_numberAt_68 : decode (D_X4_numberAt).2.1 68 = .ok (.ireturn, 1) := by decide +kernel
def f_X4_numberAt_L49 (n : Nat) (th : Nat) (v3 : Int) (M : JMem) : Option (Int × JMem) := chk (jin v3 22) <| some ((M (th + 3) (jw v3).toNat), M)
set_option maxRecDepth 4000 in
theorem t_X4_numberAt_L49 {g : JG} {ad : Nat → Nat} (hs : jStr g ad) (n : Nat) (th : Nat) (hth : jK jNN (0, 4) th) (v3 : Int) (M : JMem) : jB g D_X4_numberAt ad 49 [some (.ref th), none, none, some (ji v3)] [] M (f_X4_numberAt_L49 n th v3 M) := by
  unfold f_X4_numberAt_L49
  refine jo_aload 0 d_X4_numberAt_49 rfl rfl ?_
  refine jo_getR (k := 7) cl_4 (Nat.le_of_ble_eq_true rfl) lk_X4_35 rfl hth (kr_Plan_7 hth) d_X4_numberAt_50 ?_
  refine jo_iload 3 d_X4_numberAt_53 rfl rfl ?_
  refine jo_iald (N := 22) (ka_Plan_7 hth) d_X4_numberAt_54 ?_
  exact jo_iret rfl d_X4_numberAt_55
def f_X4_numberAt_L56 (n : Nat) (th : Nat) (r17 : Int → Int → JMem → Option (Int × JMem)) (v2 v3 : Int) (M : JMem) : Option (Int × JMem) := letv (v3 + 1) fun y1 => r17 v2 y1 M
set_option maxRecDepth 4000 in
theorem t_X4_numberAt_L56 {g : JG} {ad : Nat → Nat} (hs : jStr g ad) (n : Nat) (th : Nat) (hth : jK jNN (0, 4) th) (r17 : Int → Int → JMem → Option (Int × JMem)) (hr17 : ∀ (v2 v3 : Int) (M : JMem), jB g D_X4_numberAt ad 17 [some (.ref th), some (.ref 9), some (ji v2), some (ji v3)] [] M (r17 v2 v3 M)) (v2 v3 : Int) (M : JMem) : jB g D_X4_numberAt ad 56 [some (.ref th), some (.ref 9), some (ji v2), some (ji v3)] [] M (f_X4_numberAt_L56 n th r17 v2 v3 M) := by
  unfold f_X4_numberAt_L56
  refine jo_iinc 3 d_X4_numberAt_56 rfl (Nat.le_of_ble_eq_true rfl) (fun y1 => ?_)
  refine jo_goto 17 d_X4_numberAt_59 (by decide) ?_
  exact jO.sub (hr17 v2 y1 M) (And.intro rfl (And.intro rfl (And.intro rfl (And.intro rfl True.intro))))
def f_X4_numberAt_L62 (n : Nat) (th : Nat) (M : JMem) : Option (Int × JMem) := bnd (f_X6_fail n 3 M) fun _ M2 => some ((-1), M2)
set_option maxRecDepth 4000 in
theorem t_X4_numberAt_L62 {g : JG} {ad : Nat → Nat} (hs : jStr g ad) (n : Nat) (th : Nat) (hth : jK jNN (0, 4) th) (M : JMem) : jB g D_X4_numberAt ad 62 [none, some (.ref 9), none, none] [] M (f_X4_numberAt_L62 n th M) := by
  unfold f_X4_numberAt_L62
  refine jo_aload 1 d_X4_numberAt_62 rfl rfl ?_
  refine jo_iconst 3 d_X4_numberAt_63 ?_
  refine jo_callV (st := []) (m_X6_fail hs n 3 M) ok_X6_fail (And.intro (Nat.le_of_ble_eq_true rfl) (Nat.le_of_ble_eq_true rfl)) lm_X4_73 in_X6_fail se_X6_fail rfl kc_9 rfl rfl (And.intro (Nat.zero_le _) (Nat.zero_le _)) rfl (Nat.le_of_ble_eq_true rfl) d_X4_numberAt_64 (fun _ M2 => ?_)
  refine jo_iconst (-1) d_X4_numberAt_67 ?_
  exact jo_iret rfl d_X4_numberAt_68
def f_X4_numberAt_L17 (n : Nat) (th : Nat) : Nat → Int → Int → JMem → Option (Int × JMem)
  | 0, _, _, _ => none
  | k + 1, v2, v3, M => if jw (M th 4) ≤ jw v3 then (f_X4_numberAt_L62 n th M) else (chk (jin v3 22) <| if jw (jcmp (M (th + 1) (jw v3).toNat) (M 9 7)) = 0 then (chk (jin v3 22) <| if jw (M (th + 2) (jw v3).toNat) = jw v2 then (f_X4_numberAt_L49 n th v3 M) else (f_X4_numberAt_L56 n th (f_X4_numberAt_L17 n th k) v2 v3 M)) else (f_X4_numberAt_L56 n th (f_X4_numberAt_L17 n th k) v2 v3 M))
set_option maxRecDepth 4000 in
theorem t_X4_numberAt_L17 {g : JG} {ad : Nat → Nat} (hs : jStr g ad) (n : Nat) (th : Nat) (hth : jK jNN (0, 4) th) : ∀ (k : Nat) (v2 v3 : Int) (M : JMem), jB g D_X4_numberAt ad 17 [some (.ref th), some (.ref 9), some (ji v2), some (ji v3)] [] M (f_X4_numberAt_L17 n th k v2 v3 M) := by
  intro k
  induction k with
  | zero => intro v2 v3 M; exact jO.none
  | succ k ih =>
    intro v2 v3 M
    rw [f_X4_numberAt_L17]
    refine jo_iload 3 d_X4_numberAt_17 rfl rfl ?_
    refine jo_aload 0 d_X4_numberAt_18 rfl rfl ?_
    refine jo_getI (k := 4) cl_4 (Nat.le_of_ble_eq_true rfl) lk_X4_24 (Or.inl rfl) hth d_X4_numberAt_19 ?_
    refine jo_icmp_ge 62 d_X4_numberAt_22 (by decide) ?_ ?_
    · skip
      exact jO.sub (t_X4_numberAt_L62 hs n th hth M) (And.intro rfl True.intro)
    · skip
      refine jo_aload 0 d_X4_numberAt_25 rfl rfl ?_
      refine jo_getR (k := 5) cl_4 (Nat.le_of_ble_eq_true rfl) lk_X4_27 rfl hth (kr_Plan_5 hth) d_X4_numberAt_26 ?_
      refine jo_iload 3 d_X4_numberAt_29 rfl rfl ?_
      refine jo_lald (N := 22) (ka_Plan_5 hth) d_X4_numberAt_30 ?_
      refine jo_aload 1 d_X4_numberAt_31 rfl rfl ?_
      refine jo_getL (k := 7) cl_6 (Nat.le_of_ble_eq_true rfl) lk_X4_77 rfl kc_9 d_X4_numberAt_32 ?_
      refine jo_lcmp d_X4_numberAt_35 ?_
      refine jo_if_ne 56 d_X4_numberAt_36 (by decide) ?_ ?_
      · skip
        exact jO.sub (t_X4_numberAt_L56 hs n th hth (f_X4_numberAt_L17 n th k) ih v2 v3 M) (And.intro rfl (And.intro rfl (And.intro rfl (And.intro rfl True.intro))))
      · skip
        refine jo_aload 0 d_X4_numberAt_39 rfl rfl ?_
        refine jo_getR (k := 6) cl_4 (Nat.le_of_ble_eq_true rfl) lk_X4_31 rfl hth (kr_Plan_6 hth) d_X4_numberAt_40 ?_
        refine jo_iload 3 d_X4_numberAt_43 rfl rfl ?_
        refine jo_iald (N := 22) (ka_Plan_6 hth) d_X4_numberAt_44 ?_
        refine jo_iload 2 d_X4_numberAt_45 rfl rfl ?_
        refine jo_icmp_ne 56 d_X4_numberAt_46 (by decide) ?_ ?_
        · skip
          exact jO.sub (t_X4_numberAt_L56 hs n th hth (f_X4_numberAt_L17 n th k) ih v2 v3 M) (And.intro rfl (And.intro rfl (And.intro rfl (And.intro rfl True.intro))))
        · skip
          exact jO.sub (t_X4_numberAt_L49 hs n th hth v3 M) (And.intro rfl (And.intro rfl True.intro))
def f_X4_numberAt (n : Nat) (th : Nat) (x2 : Int) (M : JMem) : Option (Int × JMem) := if jw (M 9 4) = jw 2 then (letv 0 fun y1 => f_X4_numberAt_L17 n th n x2 y1 M) else (bnd (f_X6_fail n 2 M) fun _ M3 => some ((-1), M3))
set_option maxRecDepth 4000 in
theorem t_X4_numberAt {g : JG} {ad : Nat → Nat} (hs : jStr g ad) (n : Nat) (th : Nat) (x2 : Int) (hth : jK jNN (0, 4) th) (M : JMem) : jB g D_X4_numberAt ad 0 [some (.ref th), some (.ref 9), some (ji x2), none] [] M (f_X4_numberAt n th x2 M) := by
  unfold f_X4_numberAt
  refine jo_aload 1 d_X4_numberAt_0 rfl rfl ?_
  refine jo_getI (k := 4) cl_6 (Nat.le_of_ble_eq_true rfl) lk_X4_68 (Or.inl rfl) kc_9 d_X4_numberAt_1 ?_
  refine jo_iconst 2 d_X4_numberAt_4 ?_
  refine jo_icmp_eq 15 d_X4_numberAt_5 (by decide) ?_ ?_
  · skip
    refine jo_iconst 0 d_X4_numberAt_15 ?_
    refine jo_istore 3 d_X4_numberAt_16 rfl (Nat.le_of_ble_eq_true rfl) (fun y1 => ?_)
    exact jO.sub (t_X4_numberAt_L17 hs n th hth n x2 y1 M) (And.intro rfl (And.intro rfl (And.intro rfl (And.intro rfl True.intro))))
  · skip
    refine jo_aload 1 d_X4_numberAt_8 rfl rfl ?_
    refine jo_iconst 2 d_X4_numberAt_9 ?_
    refine jo_callV (st := []) (m_X6_fail hs n 2 M) ok_X6_fail (And.intro (Nat.le_of_ble_eq_true rfl) (Nat.le_of_ble_eq_true rfl)) lm_X4_73 in_X6_fail se_X6_fail rfl kc_9 rfl rfl (And.intro (Nat.zero_le _) (Nat.zero_le _)) rfl (Nat.le_of_ble_eq_true rfl) d_X4_numberAt_10 (fun _ M3 => ?_)
    refine jo_iconst (-1) d_X4_numberAt_13 ?_
    exact jo_iret rfl d_X4_numberAt_14
theorem m_X4_numberAt {g : JG} {ad : Nat → Nat} (hs : jStr g ad) (n : Nat) (th : Nat) (x2 : Int) (hth : jK jNN (0, 4) th) (M : JMem) : jMet g jNN ad jR D_X4_numberAt yX4_numberAt [.ref th, .ref 9, ji x2] M (f_X4_numberAt n th x2 M) :=
  jMet.of (lo0 := [some (.ref th), some (.ref 9), some (ji x2), none]) (by decide) rfl rfl (Nat.le_of_ble_eq_true rfl) (And.intro rfl (And.intro rfl (And.intro rfl True.intro))) (t_X4_numberAt hs n th x2 hth M)
/-! CageLeave$ParkReader.takeHunts()V -/
def D_X2_takeHunts : JD := (RX2, cX2_takeHunts, 3, none, "takeHunts", { frames := 3, cells := 0, slots := 0, locals := 66 })
theorem ok_X2_takeHunts : jOk D_X2_takeHunts yX2_takeHunts 0 := ⟨jTW_mem (k := 860) (by decide +kernel) rfl, jTW_mem (k := 142) (by decide +kernel) rfl, ⟨by decide +kernel, by decide +kernel⟩, by decide +kernel, rfl, rfl⟩
theorem in_X2_takeHunts : Cond.instanceMethod yX2_takeHunts ∈ jTW := jTW_mem (k := 859) (by decide +kernel) rfl
theorem se_X2_takeHunts : Cond.selects yX2_takeHunts.cls yX2_takeHunts yX2_takeHunts ∈ jTW := jTW_mem (k := 11) (by decide +kernel) rfl
theorem lm_X2_111 : Cond.methodLink RX2 111 yX4_numberAt ∈ jTW := jTW_mem (k := 839) (by decide +kernel) rfl
theorem lm_X2_150 : Cond.methodLinkNest RX2 150 yX11_isIn "CageLeave" ∈ jNW := by decide +kernel
theorem d_X2_takeHunts_0 : decode (D_X2_takeHunts).2.1 0 = .ok (.aload_n 0, 1) := by decide +kernel
theorem d_X2_takeHunts_1 : decode (D_X2_takeHunts).2.1 1 = .ok (.getfield 29, 3) := by decide +kernel
theorem d_X2_takeHunts_4 : decode (D_X2_takeHunts).2.1 4 = .ok (.invokevirtual 84, 3) := by decide +kernel
theorem d_X2_takeHunts_7 : decode (D_X2_takeHunts).2.1 7 = .ok (.aload_n 0, 1) := by decide +kernel
theorem d_X2_takeHunts_8 : decode (D_X2_takeHunts).2.1 8 = .ok (.getfield 12, 3) := by decide +kernel
theorem d_X2_takeHunts_11 : decode (D_X2_takeHunts).2.1 11 = .ok (.aload_n 0, 1) := by decide +kernel
theorem d_X2_takeHunts_12 : decode (D_X2_takeHunts).2.1 12 = .ok (.getfield 29, 3) := by decide +kernel
theorem d_X2_takeHunts_15 : decode (D_X2_takeHunts).2.1 15 = .ok (.bipush 8, 2) := by decide +kernel
theorem d_X2_takeHunts_17 : decode (D_X2_takeHunts).2.1 17 = .ok (.invokevirtual 111, 3) := by decide +kernel
theorem d_X2_takeHunts_20 : decode (D_X2_takeHunts).2.1 20 = .ok (.istore_n 1, 1) := by decide +kernel
theorem d_X2_takeHunts_21 : decode (D_X2_takeHunts).2.1 21 = .ok (.aload_n 0, 1) := by decide +kernel
theorem d_X2_takeHunts_22 : decode (D_X2_takeHunts).2.1 22 = .ok (.getfield 29, 3) := by decide +kernel
theorem d_X2_takeHunts_25 : decode (D_X2_takeHunts).2.1 25 = .ok (.invokevirtual 84, 3) := by decide +kernel
theorem d_X2_takeHunts_28 : decode (D_X2_takeHunts).2.1 28 = .ok (.aload_n 0, 1) := by decide +kernel
theorem d_X2_takeHunts_29 : decode (D_X2_takeHunts).2.1 29 = .ok (.getfield 12, 3) := by decide +kernel
theorem d_X2_takeHunts_32 : decode (D_X2_takeHunts).2.1 32 = .ok (.aload_n 0, 1) := by decide +kernel
theorem d_X2_takeHunts_33 : decode (D_X2_takeHunts).2.1 33 = .ok (.getfield 29, 3) := by decide +kernel
theorem d_X2_takeHunts_36 : decode (D_X2_takeHunts).2.1 36 = .ok (.bipush 8, 2) := by decide +kernel
theorem d_X2_takeHunts_38 : decode (D_X2_takeHunts).2.1 38 = .ok (.invokevirtual 111, 3) := by decide +kernel
theorem d_X2_takeHunts_41 : decode (D_X2_takeHunts).2.1 41 = .ok (.istore_n 2, 1) := by decide +kernel
theorem d_X2_takeHunts_42 : decode (D_X2_takeHunts).2.1 42 = .ok (.iload_n 1, 1) := by decide +kernel
theorem d_X2_takeHunts_43 : decode (D_X2_takeHunts).2.1 43 = .ok (.iconst (-1), 1) := by decide +kernel
theorem d_X2_takeHunts_44 : decode (D_X2_takeHunts).2.1 44 = .ok (.if_icmp .eq 8, 3) := by decide +kernel
theorem d_X2_takeHunts_47 : decode (D_X2_takeHunts).2.1 47 = .ok (.iload_n 2, 1) := by decide +kernel
theorem d_X2_takeHunts_48 : decode (D_X2_takeHunts).2.1 48 = .ok (.iconst (-1), 1) := by decide +kernel
theorem d_X2_takeHunts_49 : decode (D_X2_takeHunts).2.1 49 = .ok (.if_icmp .ne 4, 3) := by decide +kernel
theorem d_X2_takeHunts_52 : decode (D_X2_takeHunts).2.1 52 = .ok (.return_, 1) := by decide +kernel
theorem d_X2_takeHunts_53 : decode (D_X2_takeHunts).2.1 53 = .ok (.iload_n 1, 1) := by decide +kernel
theorem d_X2_takeHunts_54 : decode (D_X2_takeHunts).2.1 54 = .ok (.iload_n 2, 1) := by decide +kernel
theorem d_X2_takeHunts_55 : decode (D_X2_takeHunts).2.1 55 = .ok (.if_icmp .eq 19, 3) := by decide +kernel
theorem d_X2_takeHunts_58 : decode (D_X2_takeHunts).2.1 58 = .ok (.aload_n 0, 1) := by decide +kernel
theorem d_X2_takeHunts_59 : decode (D_X2_takeHunts).2.1 59 = .ok (.getfield 12, 3) := by decide +kernel
theorem d_X2_takeHunts_62 : decode (D_X2_takeHunts).2.1 62 = .ok (.getfield 140, 3) := by decide +kernel
theorem d_X2_takeHunts_65 : decode (D_X2_takeHunts).2.1 65 = .ok (.iload_n 1, 1) := by decide +kernel
theorem d_X2_takeHunts_66 : decode (D_X2_takeHunts).2.1 66 = .ok (.iaload, 1) := by decide +kernel
theorem d_X2_takeHunts_67 : decode (D_X2_takeHunts).2.1 67 = .ok (.iload_n 2, 1) := by decide +kernel
theorem d_X2_takeHunts_68 : decode (D_X2_takeHunts).2.1 68 = .ok (.invokestatic 150, 3) := by decide +kernel
theorem d_X2_takeHunts_71 : decode (D_X2_takeHunts).2.1 71 = .ok (.ifCond .eq 11, 3) := by decide +kernel
theorem d_X2_takeHunts_74 : decode (D_X2_takeHunts).2.1 74 = .ok (.aload_n 0, 1) := by decide +kernel
theorem d_X2_takeHunts_75 : decode (D_X2_takeHunts).2.1 75 = .ok (.getfield 29, 3) := by decide +kernel
theorem d_X2_takeHunts_78 : decode (D_X2_takeHunts).2.1 78 = .ok (.iconst 5, 1) := by decide +kernel
theorem d_X2_takeHunts_79 : decode (D_X2_takeHunts).2.1 79 = .ok (.invokevirtual 74, 3) := by decide +kernel
theorem d_X2_takeHunts_82 : decode (D_X2_takeHunts).2.1 82 = .ok (.aload_n 0, 1) := by decide +kernel
theorem d_X2_takeHunts_83 : decode (D_X2_takeHunts).2.1 83 = .ok (.getfield 12, 3) := by decide +kernel
theorem d_X2_takeHunts_86 : decode (D_X2_takeHunts).2.1 86 = .ok (.getfield 140, 3) := by decide +kernel
theorem d_X2_takeHunts_89 : decode (D_X2_takeHunts).2.1 89 = .ok (.iload_n 1, 1) := by decide +kernel
theorem d_X2_takeHunts_90 : decode (D_X2_takeHunts).2.1 90 = .ok (.dup2, 1) := by decide +kernel
theorem d_X2_takeHunts_91 : decode (D_X2_takeHunts).2.1 91 = .ok (.iaload, 1) := by decide +kernel
theorem d_X2_takeHunts_92 : decode (D_X2_takeHunts).2.1 92 = .ok (.iconst 1, 1) := by decide +kernel
theorem d_X2_takeHunts_93 : decode (D_X2_takeHunts).2.1 93 = .ok (.iload_n 2, 1) := by decide +kernel
theorem d_X2_takeHunts_94 : decode (D_X2_takeHunts).2.1 94 = .ok (.ishl, 1) := by decide +kernel
theorem d_X2_takeHunts_95 : decode (D_X2_takeHunts).2.1 95 = .ok (.ior, 1) := by decide +kernel
theorem d_X2_takeHunts_96 : decode (D_X2_takeHunts).2.1 96 = .ok (.iastore, 1) := by decide +kernel
theorem d_X2_takeHunts_97 : decode (D_X2_takeHunts).2.1 97 = .ok (.aload_n 0, 1) := by decide +kernel
theorem d_X2_takeHunts_98 : decode (D_X2_takeHunts).2.1 98 = .ok (.getfield 29, 3) := by decide +kernel
theorem d_X2_takeHunts_101 : decode (D_X2_takeHunts).2.1 101 = .ok (.invokevirtual 84, 3) := by decide +kernel
theorem d_X2_takeHunts_104 : decode (D_X2_takeHunts).2.1 104 = .ok (.return_, 1) := by decide +kernel
def f_X2_takeHunts_L82 (n : Nat) (v1 v2 : Int) (M : JMem) : Option (Int × JMem) := chk (jin v1 8) <| chk (jin v1 8) <| letm (jup M (13 + 11) (jw v1).toNat (jor (M (13 + 11) (jw v1).toNat) (jshl 1 v2))) fun M1 => bnd (f_X6_advance n M1) fun _ M3 => some (0, M3)
set_option maxRecDepth 4000 in
theorem t_X2_takeHunts_L82 {g : JG} {ad : Nat → Nat} (hs : jStr g ad) (n : Nat) (v1 v2 : Int) (M : JMem) : jB g D_X2_takeHunts ad 82 [some (.ref 12), some (ji v1), some (ji v2)] [] M (f_X2_takeHunts_L82 n v1 v2 M) := by
  unfold f_X2_takeHunts_L82
  refine jo_aload 0 d_X2_takeHunts_82 rfl rfl ?_
  refine jo_getR (k := 1) cl_2 (Nat.le_of_ble_eq_true rfl) lk_X2_12 rfl kc_12 kr_12_1 d_X2_takeHunts_83 ?_
  refine jo_getR (k := 15) cl_4 (Nat.le_of_ble_eq_true rfl) lk_X2_140 rfl kc_13 (kr_Plan_15 kc_13) d_X2_takeHunts_86 ?_
  refine jo_iload 1 d_X2_takeHunts_89 rfl rfl ?_
  refine jo_dup2 d_X2_takeHunts_90 rfl rfl ?_
  refine jo_iald (N := 8) (ka_Plan_15 kc_13) d_X2_takeHunts_91 ?_
  refine jo_iconst 1 d_X2_takeHunts_92 ?_
  refine jo_iload 2 d_X2_takeHunts_93 rfl rfl ?_
  refine jo_ishl d_X2_takeHunts_94 ?_
  refine jo_ior d_X2_takeHunts_95 ?_
  refine jo_iast (N := 8) (ka_Plan_15 kc_13) d_X2_takeHunts_96 (fun M1 => ?_)
  refine jo_aload 0 d_X2_takeHunts_97 rfl rfl ?_
  refine jo_getR (k := 0) cl_2 (Nat.le_of_ble_eq_true rfl) lk_X2_29 rfl kc_12 kr_12_0 d_X2_takeHunts_98 ?_
  refine jo_callV (st := []) (m_X6_advance hs n M1) ok_X6_advance (And.intro (Nat.le_of_ble_eq_true rfl) (Nat.le_of_ble_eq_true rfl)) lm_X2_84 in_X6_advance se_X6_advance rfl kc_9 rfl rfl (And.intro (Nat.zero_le _) (Nat.zero_le _)) rfl (Nat.le_of_ble_eq_true rfl) d_X2_takeHunts_101 (fun _ M3 => ?_)
  exact jo_vret rfl d_X2_takeHunts_104
def f_X2_takeHunts_L74 (n : Nat) (v1 v2 : Int) (M : JMem) : Option (Int × JMem) := bnd (f_X6_fail n 5 M) fun _ M2 => f_X2_takeHunts_L82 n v1 v2 M2
set_option maxRecDepth 4000 in
theorem t_X2_takeHunts_L74 {g : JG} {ad : Nat → Nat} (hs : jStr g ad) (n : Nat) (v1 v2 : Int) (M : JMem) : jB g D_X2_takeHunts ad 74 [some (.ref 12), some (ji v1), some (ji v2)] [] M (f_X2_takeHunts_L74 n v1 v2 M) := by
  unfold f_X2_takeHunts_L74
  refine jo_aload 0 d_X2_takeHunts_74 rfl rfl ?_
  refine jo_getR (k := 0) cl_2 (Nat.le_of_ble_eq_true rfl) lk_X2_29 rfl kc_12 kr_12_0 d_X2_takeHunts_75 ?_
  refine jo_iconst 5 d_X2_takeHunts_78 ?_
  refine jo_callV (st := []) (m_X6_fail hs n 5 M) ok_X6_fail (And.intro (Nat.le_of_ble_eq_true rfl) (Nat.le_of_ble_eq_true rfl)) lm_X2_74 in_X6_fail se_X6_fail rfl kc_9 rfl rfl (And.intro (Nat.zero_le _) (Nat.zero_le _)) rfl (Nat.le_of_ble_eq_true rfl) d_X2_takeHunts_79 (fun _ M2 => ?_)
  exact jO.sub (t_X2_takeHunts_L82 hs n v1 v2 M2) (And.intro rfl (And.intro rfl (And.intro rfl True.intro)))
def f_X2_takeHunts (n : Nat) (M : JMem) : Option (Int × JMem) := bnd (f_X6_advance n M) fun _ M2 => bnd (f_X4_numberAt n 13 8 M2) fun r3 M4 => letv r3 fun y5 => bnd (f_X6_advance n M4) fun _ M7 => bnd (f_X4_numberAt n 13 8 M7) fun r8 M9 => letv r8 fun y10 => if jw y5 = jw (-1) then (some (0, M9)) else (if jw y10 = jw (-1) then (some (0, M9)) else (if jw y5 = jw y10 then (f_X2_takeHunts_L74 n y5 y10 M9) else (chk (jin y5 8) <| bnd (f_X11_isIn n (M9 (13 + 11) (jw y5).toNat) y10 M9) fun r11 M12 => if jw r11 = 0 then (f_X2_takeHunts_L82 n y5 y10 M12) else (f_X2_takeHunts_L74 n y5 y10 M12))))
set_option maxRecDepth 4000 in
theorem t_X2_takeHunts {g : JG} {ad : Nat → Nat} (hs : jStr g ad) (n : Nat) (M : JMem) : jB g D_X2_takeHunts ad 0 [some (.ref 12), none, none] [] M (f_X2_takeHunts n M) := by
  unfold f_X2_takeHunts
  refine jo_aload 0 d_X2_takeHunts_0 rfl rfl ?_
  refine jo_getR (k := 0) cl_2 (Nat.le_of_ble_eq_true rfl) lk_X2_29 rfl kc_12 kr_12_0 d_X2_takeHunts_1 ?_
  refine jo_callV (st := []) (m_X6_advance hs n M) ok_X6_advance (And.intro (Nat.le_of_ble_eq_true rfl) (Nat.le_of_ble_eq_true rfl)) lm_X2_84 in_X6_advance se_X6_advance rfl kc_9 rfl rfl (And.intro (Nat.zero_le _) (Nat.zero_le _)) rfl (Nat.le_of_ble_eq_true rfl) d_X2_takeHunts_4 (fun _ M2 => ?_)
  refine jo_aload 0 d_X2_takeHunts_7 rfl rfl ?_
  refine jo_getR (k := 1) cl_2 (Nat.le_of_ble_eq_true rfl) lk_X2_12 rfl kc_12 kr_12_1 d_X2_takeHunts_8 ?_
  refine jo_aload 0 d_X2_takeHunts_11 rfl rfl ?_
  refine jo_getR (k := 0) cl_2 (Nat.le_of_ble_eq_true rfl) lk_X2_29 rfl kc_12 kr_12_0 d_X2_takeHunts_12 ?_
  refine jo_bipush 8 d_X2_takeHunts_15 (by decide) ?_
  refine jo_callV (st := []) (m_X4_numberAt hs n 13 8 kc_13 M2) ok_X4_numberAt (And.intro (Nat.le_of_ble_eq_true rfl) (Nat.le_of_ble_eq_true rfl)) lm_X2_111 in_X4_numberAt se_X4_numberAt rfl kc_13 rfl rfl (And.intro (Nat.zero_le _) (Nat.zero_le _)) rfl (Nat.le_of_ble_eq_true rfl) d_X2_takeHunts_17 (fun r3 M4 => ?_)
  refine jo_istore 1 d_X2_takeHunts_20 rfl (Nat.le_of_ble_eq_true rfl) (fun y5 => ?_)
  refine jo_aload 0 d_X2_takeHunts_21 rfl rfl ?_
  refine jo_getR (k := 0) cl_2 (Nat.le_of_ble_eq_true rfl) lk_X2_29 rfl kc_12 kr_12_0 d_X2_takeHunts_22 ?_
  refine jo_callV (st := []) (m_X6_advance hs n M4) ok_X6_advance (And.intro (Nat.le_of_ble_eq_true rfl) (Nat.le_of_ble_eq_true rfl)) lm_X2_84 in_X6_advance se_X6_advance rfl kc_9 rfl rfl (And.intro (Nat.zero_le _) (Nat.zero_le _)) rfl (Nat.le_of_ble_eq_true rfl) d_X2_takeHunts_25 (fun _ M7 => ?_)
  refine jo_aload 0 d_X2_takeHunts_28 rfl rfl ?_
  refine jo_getR (k := 1) cl_2 (Nat.le_of_ble_eq_true rfl) lk_X2_12 rfl kc_12 kr_12_1 d_X2_takeHunts_29 ?_
  refine jo_aload 0 d_X2_takeHunts_32 rfl rfl ?_
  refine jo_getR (k := 0) cl_2 (Nat.le_of_ble_eq_true rfl) lk_X2_29 rfl kc_12 kr_12_0 d_X2_takeHunts_33 ?_
  refine jo_bipush 8 d_X2_takeHunts_36 (by decide) ?_
  refine jo_callV (st := []) (m_X4_numberAt hs n 13 8 kc_13 M7) ok_X4_numberAt (And.intro (Nat.le_of_ble_eq_true rfl) (Nat.le_of_ble_eq_true rfl)) lm_X2_111 in_X4_numberAt se_X4_numberAt rfl kc_13 rfl rfl (And.intro (Nat.zero_le _) (Nat.zero_le _)) rfl (Nat.le_of_ble_eq_true rfl) d_X2_takeHunts_38 (fun r8 M9 => ?_)
  refine jo_istore 2 d_X2_takeHunts_41 rfl (Nat.le_of_ble_eq_true rfl) (fun y10 => ?_)
  refine jo_iload 1 d_X2_takeHunts_42 rfl rfl ?_
  refine jo_iconst (-1) d_X2_takeHunts_43 ?_
  refine jo_icmp_eq 52 d_X2_takeHunts_44 (by decide) ?_ ?_
  · skip
    exact jo_vret rfl d_X2_takeHunts_52
  · skip
    refine jo_iload 2 d_X2_takeHunts_47 rfl rfl ?_
    refine jo_iconst (-1) d_X2_takeHunts_48 ?_
    refine jo_icmp_ne 53 d_X2_takeHunts_49 (by decide) ?_ ?_
    · skip
      refine jo_iload 1 d_X2_takeHunts_53 rfl rfl ?_
      refine jo_iload 2 d_X2_takeHunts_54 rfl rfl ?_
      refine jo_icmp_eq 74 d_X2_takeHunts_55 (by decide) ?_ ?_
      · skip
        exact jO.sub (t_X2_takeHunts_L74 hs n y5 y10 M9) (And.intro rfl (And.intro rfl (And.intro rfl True.intro)))
      · skip
        refine jo_aload 0 d_X2_takeHunts_58 rfl rfl ?_
        refine jo_getR (k := 1) cl_2 (Nat.le_of_ble_eq_true rfl) lk_X2_12 rfl kc_12 kr_12_1 d_X2_takeHunts_59 ?_
        refine jo_getR (k := 15) cl_4 (Nat.le_of_ble_eq_true rfl) lk_X2_140 rfl kc_13 (kr_Plan_15 kc_13) d_X2_takeHunts_62 ?_
        refine jo_iload 1 d_X2_takeHunts_65 rfl rfl ?_
        refine jo_iald (N := 8) (ka_Plan_15 kc_13) d_X2_takeHunts_66 ?_
        refine jo_iload 2 d_X2_takeHunts_67 rfl rfl ?_
        refine jo_callSN (st := []) (m_X11_isIn hs n (M9 (13 + 11) (jw y5).toNat) y10 M9) ok_X11_isIn (And.intro (Nat.le_of_ble_eq_true rfl) (Nat.le_of_ble_eq_true rfl)) lm_X2_150 st_X11_isIn rfl (And.intro (Nat.zero_le _) (Nat.zero_le _)) rfl (Nat.le_of_ble_eq_true rfl) d_X2_takeHunts_68 (fun r11 M12 => ?_)
        refine jo_if_eq 82 d_X2_takeHunts_71 (by decide) ?_ ?_
        · skip
          exact jO.sub (t_X2_takeHunts_L82 hs n y5 y10 M12) (And.intro rfl (And.intro rfl (And.intro rfl True.intro)))
        · skip
          exact jO.sub (t_X2_takeHunts_L74 hs n y5 y10 M12) (And.intro rfl (And.intro rfl (And.intro rfl True.intro)))
    · skip
      exact jo_vret rfl d_X2_takeHunts_52
theorem m_X2_takeHunts {g : JG} {ad : Nat → Nat} (hs : jStr g ad) (n : Nat) (M : JMem) : jMet g jNN ad jR D_X2_takeHunts yX2_takeHunts [.ref 12] M (f_X2_takeHunts n M) :=
  jMet.of (lo0 := [some (.ref 12), none, none]) (by decide) rfl rfl (Nat.le_of_ble_eq_true rfl) (And.intro rfl True.intro) (t_X2_takeHunts hs n M)
/-! CageLeave$ParkReader.takeOdds()V -/
def D_X2_takeOdds : JD := (RX2, cX2_takeOdds, 1, none, "takeOdds", { frames := 4, cells := 0, slots := 0, locals := 89 })
theorem ok_X2_takeOdds : jOk D_X2_takeOdds yX2_takeOdds 0 := ⟨jTW_mem (k := 804) (by decide +kernel) rfl, jTW_mem (k := 142) (by decide +kernel) rfl, ⟨by decide +kernel, by decide +kernel⟩, by decide +kernel, rfl, rfl⟩
theorem in_X2_takeOdds : Cond.instanceMethod yX2_takeOdds ∈ jTW := jTW_mem (k := 803) (by decide +kernel) rfl
theorem se_X2_takeOdds : Cond.selects yX2_takeOdds.cls yX2_takeOdds yX2_takeOdds ∈ jTW := jTW_mem (k := 5) (by decide +kernel) rfl
theorem lk_X2_91 : Cond.fieldLink RX2 91 (TX4 3).1 (TX4 3).2.1 (TX4 3).2.2.1 ∈ jTW := jTW_mem (k := 319) (by decide +kernel) rfl
theorem d_X2_takeOdds_0 : decode (D_X2_takeOdds).2.1 0 = .ok (.aload_n 0, 1) := by decide +kernel
theorem d_X2_takeOdds_1 : decode (D_X2_takeOdds).2.1 1 = .ok (.getfield 25, 3) := by decide +kernel
theorem d_X2_takeOdds_4 : decode (D_X2_takeOdds).2.1 4 = .ok (.ifCond .eq 11, 3) := by decide +kernel
theorem d_X2_takeOdds_7 : decode (D_X2_takeOdds).2.1 7 = .ok (.aload_n 0, 1) := by decide +kernel
theorem d_X2_takeOdds_8 : decode (D_X2_takeOdds).2.1 8 = .ok (.getfield 29, 3) := by decide +kernel
theorem d_X2_takeOdds_11 : decode (D_X2_takeOdds).2.1 11 = .ok (.iconst 5, 1) := by decide +kernel
theorem d_X2_takeOdds_12 : decode (D_X2_takeOdds).2.1 12 = .ok (.invokevirtual 74, 3) := by decide +kernel
theorem d_X2_takeOdds_15 : decode (D_X2_takeOdds).2.1 15 = .ok (.aload_n 0, 1) := by decide +kernel
theorem d_X2_takeOdds_16 : decode (D_X2_takeOdds).2.1 16 = .ok (.iconst 1, 1) := by decide +kernel
theorem d_X2_takeOdds_17 : decode (D_X2_takeOdds).2.1 17 = .ok (.putfield 25, 3) := by decide +kernel
theorem d_X2_takeOdds_20 : decode (D_X2_takeOdds).2.1 20 = .ok (.aload_n 0, 1) := by decide +kernel
theorem d_X2_takeOdds_21 : decode (D_X2_takeOdds).2.1 21 = .ok (.getfield 29, 3) := by decide +kernel
theorem d_X2_takeOdds_24 : decode (D_X2_takeOdds).2.1 24 = .ok (.invokevirtual 84, 3) := by decide +kernel
theorem d_X2_takeOdds_27 : decode (D_X2_takeOdds).2.1 27 = .ok (.aload_n 0, 1) := by decide +kernel
theorem d_X2_takeOdds_28 : decode (D_X2_takeOdds).2.1 28 = .ok (.getfield 12, 3) := by decide +kernel
theorem d_X2_takeOdds_31 : decode (D_X2_takeOdds).2.1 31 = .ok (.aload_n 0, 1) := by decide +kernel
theorem d_X2_takeOdds_32 : decode (D_X2_takeOdds).2.1 32 = .ok (.getfield 29, 3) := by decide +kernel
theorem d_X2_takeOdds_35 : decode (D_X2_takeOdds).2.1 35 = .ok (.iconst 0, 1) := by decide +kernel
theorem d_X2_takeOdds_36 : decode (D_X2_takeOdds).2.1 36 = .ok (.bipush 16, 2) := by decide +kernel
theorem d_X2_takeOdds_38 : decode (D_X2_takeOdds).2.1 38 = .ok (.invokevirtual 87, 3) := by decide +kernel
theorem d_X2_takeOdds_41 : decode (D_X2_takeOdds).2.1 41 = .ok (.putfield 91, 3) := by decide +kernel
theorem d_X2_takeOdds_44 : decode (D_X2_takeOdds).2.1 44 = .ok (.return_, 1) := by decide +kernel
def f_X2_takeOdds_L15 (n : Nat) (M : JMem) : Option (Int × JMem) := chk (jw 1 = 0 ∨ jw 1 = 1) <| letm (jup M 12 3 1) fun M1 => bnd (f_X6_advance n M1) fun _ M3 => bnd (f_X6_passNumber n 0 16 M3) fun r4 M5 => letm (jup M5 13 3 r4) fun M6 => some (0, M6)
set_option maxRecDepth 4000 in
theorem t_X2_takeOdds_L15 {g : JG} {ad : Nat → Nat} (hs : jStr g ad) (n : Nat) (M : JMem) : jB g D_X2_takeOdds ad 15 [some (.ref 12)] [] M (f_X2_takeOdds_L15 n M) := by
  unfold f_X2_takeOdds_L15
  refine jo_aload 0 d_X2_takeOdds_15 rfl rfl ?_
  refine jo_iconst 1 d_X2_takeOdds_16 ?_
  refine jo_putZ (k := 3) cl_2 (Nat.le_of_ble_eq_true rfl) lk_X2_25 rfl rfl kc_12 d_X2_takeOdds_17 (fun M1 => ?_)
  refine jo_aload 0 d_X2_takeOdds_20 rfl rfl ?_
  refine jo_getR (k := 0) cl_2 (Nat.le_of_ble_eq_true rfl) lk_X2_29 rfl kc_12 kr_12_0 d_X2_takeOdds_21 ?_
  refine jo_callV (st := []) (m_X6_advance hs n M1) ok_X6_advance (And.intro (Nat.le_of_ble_eq_true rfl) (Nat.le_of_ble_eq_true rfl)) lm_X2_84 in_X6_advance se_X6_advance rfl kc_9 rfl rfl (And.intro (Nat.zero_le _) (Nat.zero_le _)) rfl (Nat.le_of_ble_eq_true rfl) d_X2_takeOdds_24 (fun _ M3 => ?_)
  refine jo_aload 0 d_X2_takeOdds_27 rfl rfl ?_
  refine jo_getR (k := 1) cl_2 (Nat.le_of_ble_eq_true rfl) lk_X2_12 rfl kc_12 kr_12_1 d_X2_takeOdds_28 ?_
  refine jo_aload 0 d_X2_takeOdds_31 rfl rfl ?_
  refine jo_getR (k := 0) cl_2 (Nat.le_of_ble_eq_true rfl) lk_X2_29 rfl kc_12 kr_12_0 d_X2_takeOdds_32 ?_
  refine jo_iconst 0 d_X2_takeOdds_35 ?_
  refine jo_bipush 16 d_X2_takeOdds_36 (by decide) ?_
  refine jo_callV (st := [.ref 13]) (m_X6_passNumber hs n 0 16 M3) ok_X6_passNumber (And.intro (Nat.le_of_ble_eq_true rfl) (Nat.le_of_ble_eq_true rfl)) lm_X2_87 in_X6_passNumber se_X6_passNumber rfl kc_9 rfl rfl (And.intro (Nat.zero_le _) (Nat.zero_le _)) rfl (Nat.le_of_ble_eq_true rfl) d_X2_takeOdds_38 (fun r4 M5 => ?_)
  refine jo_putI (k := 3) cl_4 (Nat.le_of_ble_eq_true rfl) lk_X2_91 rfl rfl kc_13 d_X2_takeOdds_41 (fun M6 => ?_)
  exact jo_vret rfl d_X2_takeOdds_44
def f_X2_takeOdds (n : Nat) (M : JMem) : Option (Int × JMem) := if jw (M 12 3) = 0 then (f_X2_takeOdds_L15 n M) else (bnd (f_X6_fail n 5 M) fun _ M2 => f_X2_takeOdds_L15 n M2)
set_option maxRecDepth 4000 in
theorem t_X2_takeOdds {g : JG} {ad : Nat → Nat} (hs : jStr g ad) (n : Nat) (M : JMem) : jB g D_X2_takeOdds ad 0 [some (.ref 12)] [] M (f_X2_takeOdds n M) := by
  unfold f_X2_takeOdds
  refine jo_aload 0 d_X2_takeOdds_0 rfl rfl ?_
  refine jo_getI (k := 3) cl_2 (Nat.le_of_ble_eq_true rfl) lk_X2_25 (Or.inr rfl) kc_12 d_X2_takeOdds_1 ?_
  refine jo_if_eq 15 d_X2_takeOdds_4 (by decide) ?_ ?_
  · skip
    exact jO.sub (t_X2_takeOdds_L15 hs n M) (And.intro rfl True.intro)
  · skip
    refine jo_aload 0 d_X2_takeOdds_7 rfl rfl ?_
    refine jo_getR (k := 0) cl_2 (Nat.le_of_ble_eq_true rfl) lk_X2_29 rfl kc_12 kr_12_0 d_X2_takeOdds_8 ?_
    refine jo_iconst 5 d_X2_takeOdds_11 ?_
    refine jo_callV (st := []) (m_X6_fail hs n 5 M) ok_X6_fail (And.intro (Nat.le_of_ble_eq_true rfl) (Nat.le_of_ble_eq_true rfl)) lm_X2_74 in_X6_fail se_X6_fail rfl kc_9 rfl rfl (And.intro (Nat.zero_le _) (Nat.zero_le _)) rfl (Nat.le_of_ble_eq_true rfl) d_X2_takeOdds_12 (fun _ M2 => ?_)
    exact jO.sub (t_X2_takeOdds_L15 hs n M2) (And.intro rfl True.intro)
theorem m_X2_takeOdds {g : JG} {ad : Nat → Nat} (hs : jStr g ad) (n : Nat) (M : JMem) : jMet g jNN ad jR D_X2_takeOdds yX2_takeOdds [.ref 12] M (f_X2_takeOdds n M) :=
  jMet.of (lo0 := [some (.ref 12)]) (by decide) rfl rfl (Nat.le_of_ble_eq_true rfl) (And.intro rfl True.intro) (t_X2_takeOdds hs n M)
/-! CageLeave$ParkReader.takePlace()V -/
def D_X2_takePlace : JD := (RX2, cX2_takePlace, 1, none, "takePlace", { frames := 4, cells := 0, slots := 0, locals := 88 })
theorem ok_X2_takePlace : jOk D_X2_takePlace yX2_takePlace 0 := ⟨jTW_mem (k := 814) (by decide +kernel) rfl, jTW_mem (k := 142) (by decide +kernel) rfl, ⟨by decide +kernel, by decide +kernel⟩, by decide +kernel, rfl, rfl⟩
theorem in_X2_takePlace : Cond.instanceMethod yX2_takePlace ∈ jTW := jTW_mem (k := 813) (by decide +kernel) rfl
theorem se_X2_takePlace : Cond.selects yX2_takePlace.cls yX2_takePlace yX2_takePlace ∈ jTW := jTW_mem (k := 6) (by decide +kernel) rfl
theorem d_X2_takePlace_0 : decode (D_X2_takePlace).2.1 0 = .ok (.aload_n 0, 1) := by decide +kernel
theorem d_X2_takePlace_1 : decode (D_X2_takePlace).2.1 1 = .ok (.getfield 12, 3) := by decide +kernel
theorem d_X2_takePlace_4 : decode (D_X2_takePlace).2.1 4 = .ok (.getfield 94, 3) := by decide +kernel
theorem d_X2_takePlace_7 : decode (D_X2_takePlace).2.1 7 = .ok (.bipush 6, 2) := by decide +kernel
theorem d_X2_takePlace_9 : decode (D_X2_takePlace).2.1 9 = .ok (.if_icmp .lt 13, 3) := by decide +kernel
theorem d_X2_takePlace_12 : decode (D_X2_takePlace).2.1 12 = .ok (.aload_n 0, 1) := by decide +kernel
theorem d_X2_takePlace_13 : decode (D_X2_takePlace).2.1 13 = .ok (.getfield 29, 3) := by decide +kernel
theorem d_X2_takePlace_16 : decode (D_X2_takePlace).2.1 16 = .ok (.bipush 6, 2) := by decide +kernel
theorem d_X2_takePlace_18 : decode (D_X2_takePlace).2.1 18 = .ok (.invokevirtual 74, 3) := by decide +kernel
theorem d_X2_takePlace_21 : decode (D_X2_takePlace).2.1 21 = .ok (.return_, 1) := by decide +kernel
theorem d_X2_takePlace_22 : decode (D_X2_takePlace).2.1 22 = .ok (.aload_n 0, 1) := by decide +kernel
theorem d_X2_takePlace_23 : decode (D_X2_takePlace).2.1 23 = .ok (.getfield 29, 3) := by decide +kernel
theorem d_X2_takePlace_26 : decode (D_X2_takePlace).2.1 26 = .ok (.invokevirtual 84, 3) := by decide +kernel
theorem d_X2_takePlace_29 : decode (D_X2_takePlace).2.1 29 = .ok (.aload_n 0, 1) := by decide +kernel
theorem d_X2_takePlace_30 : decode (D_X2_takePlace).2.1 30 = .ok (.iconst 1, 1) := by decide +kernel
theorem d_X2_takePlace_31 : decode (D_X2_takePlace).2.1 31 = .ok (.aload_n 0, 1) := by decide +kernel
theorem d_X2_takePlace_32 : decode (D_X2_takePlace).2.1 32 = .ok (.getfield 12, 3) := by decide +kernel
theorem d_X2_takePlace_35 : decode (D_X2_takePlace).2.1 35 = .ok (.getfield 94, 3) := by decide +kernel
theorem d_X2_takePlace_38 : decode (D_X2_takePlace).2.1 38 = .ok (.invokevirtual 97, 3) := by decide +kernel
theorem d_X2_takePlace_41 : decode (D_X2_takePlace).2.1 41 = .ok (.aload_n 0, 1) := by decide +kernel
theorem d_X2_takePlace_42 : decode (D_X2_takePlace).2.1 42 = .ok (.getfield 12, 3) := by decide +kernel
theorem d_X2_takePlace_45 : decode (D_X2_takePlace).2.1 45 = .ok (.dup, 1) := by decide +kernel
theorem d_X2_takePlace_46 : decode (D_X2_takePlace).2.1 46 = .ok (.getfield 94, 3) := by decide +kernel
theorem d_X2_takePlace_49 : decode (D_X2_takePlace).2.1 49 = .ok (.iconst 1, 1) := by decide +kernel
theorem d_X2_takePlace_50 : decode (D_X2_takePlace).2.1 50 = .ok (.iadd, 1) := by decide +kernel
theorem d_X2_takePlace_51 : decode (D_X2_takePlace).2.1 51 = .ok (.putfield 94, 3) := by decide +kernel
theorem d_X2_takePlace_54 : decode (D_X2_takePlace).2.1 54 = .ok (.return_, 1) := by decide +kernel
def f_X2_takePlace (n : Nat) (M : JMem) : Option (Int × JMem) := if jw (M 13 0) < jw 6 then (bnd (f_X6_advance n M) fun _ M2 => bnd (f_X2_passNewName n 1 (M2 13 0) M2) fun _ M4 => letm (jup M4 13 0 ((M4 13 0) + 1)) fun M5 => some (0, M5)) else (bnd (f_X6_fail n 6 M) fun _ M7 => some (0, M7))
set_option maxRecDepth 4000 in
theorem t_X2_takePlace {g : JG} {ad : Nat → Nat} (hs : jStr g ad) (n : Nat) (M : JMem) : jB g D_X2_takePlace ad 0 [some (.ref 12)] [] M (f_X2_takePlace n M) := by
  unfold f_X2_takePlace
  refine jo_aload 0 d_X2_takePlace_0 rfl rfl ?_
  refine jo_getR (k := 1) cl_2 (Nat.le_of_ble_eq_true rfl) lk_X2_12 rfl kc_12 kr_12_1 d_X2_takePlace_1 ?_
  refine jo_getI (k := 0) cl_4 (Nat.le_of_ble_eq_true rfl) lk_X2_94 (Or.inl rfl) kc_13 d_X2_takePlace_4 ?_
  refine jo_bipush 6 d_X2_takePlace_7 (by decide) ?_
  refine jo_icmp_lt 22 d_X2_takePlace_9 (by decide) ?_ ?_
  · skip
    refine jo_aload 0 d_X2_takePlace_22 rfl rfl ?_
    refine jo_getR (k := 0) cl_2 (Nat.le_of_ble_eq_true rfl) lk_X2_29 rfl kc_12 kr_12_0 d_X2_takePlace_23 ?_
    refine jo_callV (st := []) (m_X6_advance hs n M) ok_X6_advance (And.intro (Nat.le_of_ble_eq_true rfl) (Nat.le_of_ble_eq_true rfl)) lm_X2_84 in_X6_advance se_X6_advance rfl kc_9 rfl rfl (And.intro (Nat.zero_le _) (Nat.zero_le _)) rfl (Nat.le_of_ble_eq_true rfl) d_X2_takePlace_26 (fun _ M2 => ?_)
    refine jo_aload 0 d_X2_takePlace_29 rfl rfl ?_
    refine jo_iconst 1 d_X2_takePlace_30 ?_
    refine jo_aload 0 d_X2_takePlace_31 rfl rfl ?_
    refine jo_getR (k := 1) cl_2 (Nat.le_of_ble_eq_true rfl) lk_X2_12 rfl kc_12 kr_12_1 d_X2_takePlace_32 ?_
    refine jo_getI (k := 0) cl_4 (Nat.le_of_ble_eq_true rfl) lk_X2_94 (Or.inl rfl) kc_13 d_X2_takePlace_35 ?_
    refine jo_callV (st := []) (m_X2_passNewName hs n 1 (M2 13 0) M2) ok_X2_passNewName (And.intro (Nat.le_of_ble_eq_true rfl) (Nat.le_of_ble_eq_true rfl)) lm_X2_97 in_X2_passNewName se_X2_passNewName rfl kc_12 rfl rfl (And.intro (Nat.zero_le _) (Nat.zero_le _)) rfl (Nat.le_of_ble_eq_true rfl) d_X2_takePlace_38 (fun _ M4 => ?_)
    refine jo_aload 0 d_X2_takePlace_41 rfl rfl ?_
    refine jo_getR (k := 1) cl_2 (Nat.le_of_ble_eq_true rfl) lk_X2_12 rfl kc_12 kr_12_1 d_X2_takePlace_42 ?_
    refine jo_dup d_X2_takePlace_45 rfl ?_
    refine jo_getI (k := 0) cl_4 (Nat.le_of_ble_eq_true rfl) lk_X2_94 (Or.inl rfl) kc_13 d_X2_takePlace_46 ?_
    refine jo_iconst 1 d_X2_takePlace_49 ?_
    refine jo_iadd d_X2_takePlace_50 ?_
    refine jo_putI (k := 0) cl_4 (Nat.le_of_ble_eq_true rfl) lk_X2_94 rfl rfl kc_13 d_X2_takePlace_51 (fun M5 => ?_)
    exact jo_vret rfl d_X2_takePlace_54
  · skip
    refine jo_aload 0 d_X2_takePlace_12 rfl rfl ?_
    refine jo_getR (k := 0) cl_2 (Nat.le_of_ble_eq_true rfl) lk_X2_29 rfl kc_12 kr_12_0 d_X2_takePlace_13 ?_
    refine jo_bipush 6 d_X2_takePlace_16 (by decide) ?_
    refine jo_callV (st := []) (m_X6_fail hs n 6 M) ok_X6_fail (And.intro (Nat.le_of_ble_eq_true rfl) (Nat.le_of_ble_eq_true rfl)) lm_X2_74 in_X6_fail se_X6_fail rfl kc_9 rfl rfl (And.intro (Nat.zero_le _) (Nat.zero_le _)) rfl (Nat.le_of_ble_eq_true rfl) d_X2_takePlace_18 (fun _ M7 => ?_)
    exact jo_vret rfl d_X2_takePlace_21
theorem m_X2_takePlace {g : JG} {ad : Nat → Nat} (hs : jStr g ad) (n : Nat) (M : JMem) : jMet g jNN ad jR D_X2_takePlace yX2_takePlace [.ref 12] M (f_X2_takePlace n M) :=
  jMet.of (lo0 := [some (.ref 12)]) (by decide) rfl rfl (Nat.le_of_ble_eq_true rfl) (And.intro rfl True.intro) (t_X2_takePlace hs n M)
/-! CageLeave$ParkReader.takeTicket()V -/
def D_X2_takeTicket : JD := (RX2, cX2_takeTicket, 4, none, "takeTicket", { frames := 3, cells := 0, slots := 0, locals := 66 })
theorem ok_X2_takeTicket : jOk D_X2_takeTicket yX2_takeTicket 0 := ⟨jTW_mem (k := 867) (by decide +kernel) rfl, jTW_mem (k := 142) (by decide +kernel) rfl, ⟨by decide +kernel, by decide +kernel⟩, by decide +kernel, rfl, rfl⟩
theorem in_X2_takeTicket : Cond.instanceMethod yX2_takeTicket ∈ jTW := jTW_mem (k := 866) (by decide +kernel) rfl
theorem se_X2_takeTicket : Cond.selects yX2_takeTicket.cls yX2_takeTicket yX2_takeTicket ∈ jTW := jTW_mem (k := 12) (by decide +kernel) rfl
theorem lk_X2_154 : Cond.fieldLink RX2 154 (TX1 5).1 (TX1 5).2.1 (TX1 5).2.2.1 ∈ jTW := jTW_mem (k := 414) (by decide +kernel) rfl
theorem d_X2_takeTicket_0 : decode (D_X2_takeTicket).2.1 0 = .ok (.aload_n 0, 1) := by decide +kernel
theorem d_X2_takeTicket_1 : decode (D_X2_takeTicket).2.1 1 = .ok (.getfield 29, 3) := by decide +kernel
theorem d_X2_takeTicket_4 : decode (D_X2_takeTicket).2.1 4 = .ok (.invokevirtual 84, 3) := by decide +kernel
theorem d_X2_takeTicket_7 : decode (D_X2_takeTicket).2.1 7 = .ok (.aload_n 0, 1) := by decide +kernel
theorem d_X2_takeTicket_8 : decode (D_X2_takeTicket).2.1 8 = .ok (.getfield 12, 3) := by decide +kernel
theorem d_X2_takeTicket_11 : decode (D_X2_takeTicket).2.1 11 = .ok (.aload_n 0, 1) := by decide +kernel
theorem d_X2_takeTicket_12 : decode (D_X2_takeTicket).2.1 12 = .ok (.getfield 29, 3) := by decide +kernel
theorem d_X2_takeTicket_15 : decode (D_X2_takeTicket).2.1 15 = .ok (.bipush 8, 2) := by decide +kernel
theorem d_X2_takeTicket_17 : decode (D_X2_takeTicket).2.1 17 = .ok (.invokevirtual 111, 3) := by decide +kernel
theorem d_X2_takeTicket_20 : decode (D_X2_takeTicket).2.1 20 = .ok (.istore_n 1, 1) := by decide +kernel
theorem d_X2_takeTicket_21 : decode (D_X2_takeTicket).2.1 21 = .ok (.iload_n 1, 1) := by decide +kernel
theorem d_X2_takeTicket_22 : decode (D_X2_takeTicket).2.1 22 = .ok (.iconst (-1), 1) := by decide +kernel
theorem d_X2_takeTicket_23 : decode (D_X2_takeTicket).2.1 23 = .ok (.if_icmp .ne 4, 3) := by decide +kernel
theorem d_X2_takeTicket_26 : decode (D_X2_takeTicket).2.1 26 = .ok (.return_, 1) := by decide +kernel
theorem d_X2_takeTicket_27 : decode (D_X2_takeTicket).2.1 27 = .ok (.aload_n 0, 1) := by decide +kernel
theorem d_X2_takeTicket_28 : decode (D_X2_takeTicket).2.1 28 = .ok (.getfield 21, 3) := by decide +kernel
theorem d_X2_takeTicket_31 : decode (D_X2_takeTicket).2.1 31 = .ok (.getfield 154, 3) := by decide +kernel
theorem d_X2_takeTicket_34 : decode (D_X2_takeTicket).2.1 34 = .ok (.iload_n 1, 1) := by decide +kernel
theorem d_X2_takeTicket_35 : decode (D_X2_takeTicket).2.1 35 = .ok (.iconst 0, 1) := by decide +kernel
theorem d_X2_takeTicket_36 : decode (D_X2_takeTicket).2.1 36 = .ok (.iastore, 1) := by decide +kernel
theorem d_X2_takeTicket_37 : decode (D_X2_takeTicket).2.1 37 = .ok (.aload_n 0, 1) := by decide +kernel
theorem d_X2_takeTicket_38 : decode (D_X2_takeTicket).2.1 38 = .ok (.getfield 29, 3) := by decide +kernel
theorem d_X2_takeTicket_41 : decode (D_X2_takeTicket).2.1 41 = .ok (.invokevirtual 84, 3) := by decide +kernel
theorem d_X2_takeTicket_44 : decode (D_X2_takeTicket).2.1 44 = .ok (.iconst 0, 1) := by decide +kernel
theorem d_X2_takeTicket_45 : decode (D_X2_takeTicket).2.1 45 = .ok (.istore_n 2, 1) := by decide +kernel
theorem d_X2_takeTicket_46 : decode (D_X2_takeTicket).2.1 46 = .ok (.iload_n 2, 1) := by decide +kernel
theorem d_X2_takeTicket_47 : decode (D_X2_takeTicket).2.1 47 = .ok (.bipush 8, 2) := by decide +kernel
theorem d_X2_takeTicket_49 : decode (D_X2_takeTicket).2.1 49 = .ok (.if_icmp .gt 85, 3) := by decide +kernel
theorem d_X2_takeTicket_52 : decode (D_X2_takeTicket).2.1 52 = .ok (.aload_n 0, 1) := by decide +kernel
theorem d_X2_takeTicket_53 : decode (D_X2_takeTicket).2.1 53 = .ok (.getfield 29, 3) := by decide +kernel
theorem d_X2_takeTicket_56 : decode (D_X2_takeTicket).2.1 56 = .ok (.getfield 49, 3) := by decide +kernel
theorem d_X2_takeTicket_59 : decode (D_X2_takeTicket).2.1 59 = .ok (.iconst 2, 1) := by decide +kernel
theorem d_X2_takeTicket_60 : decode (D_X2_takeTicket).2.1 60 = .ok (.if_icmp .ne 74, 3) := by decide +kernel
theorem d_X2_takeTicket_63 : decode (D_X2_takeTicket).2.1 63 = .ok (.aload_n 0, 1) := by decide +kernel
theorem d_X2_takeTicket_64 : decode (D_X2_takeTicket).2.1 64 = .ok (.getfield 12, 3) := by decide +kernel
theorem d_X2_takeTicket_67 : decode (D_X2_takeTicket).2.1 67 = .ok (.aload_n 0, 1) := by decide +kernel
theorem d_X2_takeTicket_68 : decode (D_X2_takeTicket).2.1 68 = .ok (.getfield 29, 3) := by decide +kernel
theorem d_X2_takeTicket_71 : decode (D_X2_takeTicket).2.1 71 = .ok (.iconst 2, 1) := by decide +kernel
theorem d_X2_takeTicket_72 : decode (D_X2_takeTicket).2.1 72 = .ok (.invokevirtual 111, 3) := by decide +kernel
theorem d_X2_takeTicket_75 : decode (D_X2_takeTicket).2.1 75 = .ok (.istore_n 3, 1) := by decide +kernel
theorem d_X2_takeTicket_76 : decode (D_X2_takeTicket).2.1 76 = .ok (.iload_n 3, 1) := by decide +kernel
theorem d_X2_takeTicket_77 : decode (D_X2_takeTicket).2.1 77 = .ok (.iconst (-1), 1) := by decide +kernel
theorem d_X2_takeTicket_78 : decode (D_X2_takeTicket).2.1 78 = .ok (.if_icmp .ne 4, 3) := by decide +kernel
theorem d_X2_takeTicket_81 : decode (D_X2_takeTicket).2.1 81 = .ok (.return_, 1) := by decide +kernel
theorem d_X2_takeTicket_82 : decode (D_X2_takeTicket).2.1 82 = .ok (.aload_n 0, 1) := by decide +kernel
theorem d_X2_takeTicket_83 : decode (D_X2_takeTicket).2.1 83 = .ok (.getfield 21, 3) := by decide +kernel
theorem d_X2_takeTicket_86 : decode (D_X2_takeTicket).2.1 86 = .ok (.getfield 154, 3) := by decide +kernel
theorem d_X2_takeTicket_89 : decode (D_X2_takeTicket).2.1 89 = .ok (.iload_n 1, 1) := by decide +kernel
theorem d_X2_takeTicket_90 : decode (D_X2_takeTicket).2.1 90 = .ok (.iaload, 1) := by decide +kernel
theorem d_X2_takeTicket_91 : decode (D_X2_takeTicket).2.1 91 = .ok (.iload_n 3, 1) := by decide +kernel
theorem d_X2_takeTicket_92 : decode (D_X2_takeTicket).2.1 92 = .ok (.invokestatic 150, 3) := by decide +kernel
theorem d_X2_takeTicket_95 : decode (D_X2_takeTicket).2.1 95 = .ok (.ifCond .eq 11, 3) := by decide +kernel
theorem d_X2_takeTicket_98 : decode (D_X2_takeTicket).2.1 98 = .ok (.aload_n 0, 1) := by decide +kernel
theorem d_X2_takeTicket_99 : decode (D_X2_takeTicket).2.1 99 = .ok (.getfield 29, 3) := by decide +kernel
theorem d_X2_takeTicket_102 : decode (D_X2_takeTicket).2.1 102 = .ok (.iconst 5, 1) := by decide +kernel
theorem d_X2_takeTicket_103 : decode (D_X2_takeTicket).2.1 103 = .ok (.invokevirtual 74, 3) := by decide +kernel
theorem d_X2_takeTicket_106 : decode (D_X2_takeTicket).2.1 106 = .ok (.aload_n 0, 1) := by decide +kernel
theorem d_X2_takeTicket_107 : decode (D_X2_takeTicket).2.1 107 = .ok (.getfield 21, 3) := by decide +kernel
theorem d_X2_takeTicket_110 : decode (D_X2_takeTicket).2.1 110 = .ok (.getfield 154, 3) := by decide +kernel
theorem d_X2_takeTicket_113 : decode (D_X2_takeTicket).2.1 113 = .ok (.iload_n 1, 1) := by decide +kernel
theorem d_X2_takeTicket_114 : decode (D_X2_takeTicket).2.1 114 = .ok (.dup2, 1) := by decide +kernel
theorem d_X2_takeTicket_115 : decode (D_X2_takeTicket).2.1 115 = .ok (.iaload, 1) := by decide +kernel
theorem d_X2_takeTicket_116 : decode (D_X2_takeTicket).2.1 116 = .ok (.iconst 1, 1) := by decide +kernel
theorem d_X2_takeTicket_117 : decode (D_X2_takeTicket).2.1 117 = .ok (.iload_n 3, 1) := by decide +kernel
theorem d_X2_takeTicket_118 : decode (D_X2_takeTicket).2.1 118 = .ok (.ishl, 1) := by decide +kernel
theorem d_X2_takeTicket_119 : decode (D_X2_takeTicket).2.1 119 = .ok (.ior, 1) := by decide +kernel
theorem d_X2_takeTicket_120 : decode (D_X2_takeTicket).2.1 120 = .ok (.iastore, 1) := by decide +kernel
theorem d_X2_takeTicket_121 : decode (D_X2_takeTicket).2.1 121 = .ok (.aload_n 0, 1) := by decide +kernel
theorem d_X2_takeTicket_122 : decode (D_X2_takeTicket).2.1 122 = .ok (.getfield 29, 3) := by decide +kernel
theorem d_X2_takeTicket_125 : decode (D_X2_takeTicket).2.1 125 = .ok (.invokevirtual 84, 3) := by decide +kernel
theorem d_X2_takeTicket_128 : decode (D_X2_takeTicket).2.1 128 = .ok (.iinc 2 1, 3) := by decide +kernel
theorem d_X2_takeTicket_131 : decode (D_X2_takeTicket).2.1 131 = .ok (.goto (-85), 3) := by decide +kernel
theorem d_X2_takeTicket_134 : decode (D_X2_takeTicket).2.1 134 = .ok (.return_, 1) := by decide +kernel
def f_X2_takeTicket_L106 (n : Nat) (r46 : Int → Int → JMem → Option (Int × JMem)) (v1 v2 v3 : Int) (M : JMem) : Option (Int × JMem) := chk (jin v1 8) <| chk (jin v1 8) <| letm (jup M (25 + 1) (jw v1).toNat (jor (M (25 + 1) (jw v1).toNat) (jshl 1 v3))) fun M1 => bnd (f_X6_advance n M1) fun _ M3 => letv (v2 + 1) fun y4 => r46 v1 y4 M3
set_option maxRecDepth 4000 in
theorem t_X2_takeTicket_L106 {g : JG} {ad : Nat → Nat} (hs : jStr g ad) (n : Nat) (r46 : Int → Int → JMem → Option (Int × JMem)) (hr46 : ∀ (v1 v2 : Int) (M : JMem), jB g D_X2_takeTicket ad 46 [some (.ref 12), some (ji v1), some (ji v2), none] [] M (r46 v1 v2 M)) (v1 v2 v3 : Int) (M : JMem) : jB g D_X2_takeTicket ad 106 [some (.ref 12), some (ji v1), some (ji v2), some (ji v3)] [] M (f_X2_takeTicket_L106 n r46 v1 v2 v3 M) := by
  unfold f_X2_takeTicket_L106
  refine jo_aload 0 d_X2_takeTicket_106 rfl rfl ?_
  refine jo_getR (k := 2) cl_2 (Nat.le_of_ble_eq_true rfl) lk_X2_21 rfl kc_12 kr_12_2 d_X2_takeTicket_107 ?_
  refine jo_getR (k := 5) cl_1 (Nat.le_of_ble_eq_true rfl) lk_X2_154 rfl kc_25 (kr_Now_5 kc_25) d_X2_takeTicket_110 ?_
  refine jo_iload 1 d_X2_takeTicket_113 rfl rfl ?_
  refine jo_dup2 d_X2_takeTicket_114 rfl rfl ?_
  refine jo_iald (N := 8) (ka_Now_5 kc_25) d_X2_takeTicket_115 ?_
  refine jo_iconst 1 d_X2_takeTicket_116 ?_
  refine jo_iload 3 d_X2_takeTicket_117 rfl rfl ?_
  refine jo_ishl d_X2_takeTicket_118 ?_
  refine jo_ior d_X2_takeTicket_119 ?_
  refine jo_iast (N := 8) (ka_Now_5 kc_25) d_X2_takeTicket_120 (fun M1 => ?_)
  refine jo_aload 0 d_X2_takeTicket_121 rfl rfl ?_
  refine jo_getR (k := 0) cl_2 (Nat.le_of_ble_eq_true rfl) lk_X2_29 rfl kc_12 kr_12_0 d_X2_takeTicket_122 ?_
  refine jo_callV (st := []) (m_X6_advance hs n M1) ok_X6_advance (And.intro (Nat.le_of_ble_eq_true rfl) (Nat.le_of_ble_eq_true rfl)) lm_X2_84 in_X6_advance se_X6_advance rfl kc_9 rfl rfl (And.intro (Nat.zero_le _) (Nat.zero_le _)) rfl (Nat.le_of_ble_eq_true rfl) d_X2_takeTicket_125 (fun _ M3 => ?_)
  refine jo_iinc 2 d_X2_takeTicket_128 rfl (Nat.le_of_ble_eq_true rfl) (fun y4 => ?_)
  refine jo_goto 46 d_X2_takeTicket_131 (by decide) ?_
  exact jO.sub (hr46 v1 y4 M3) (And.intro rfl (And.intro rfl (And.intro rfl True.intro)))
def f_X2_takeTicket_L46 (n : Nat) : Nat → Int → Int → JMem → Option (Int × JMem)
  | 0, _, _, _ => none
  | k + 1, v1, v2, M => if jw 8 < jw v2 then (some (0, M)) else (if jw (M 9 4) = jw 2 then (bnd (f_X4_numberAt n 13 2 M) fun r1 M2 => letv r1 fun y3 => if jw y3 = jw (-1) then (some (0, M2)) else (chk (jin v1 8) <| bnd (f_X11_isIn n (M2 (25 + 1) (jw v1).toNat) y3 M2) fun r4 M5 => if jw r4 = 0 then (f_X2_takeTicket_L106 n (f_X2_takeTicket_L46 n k) v1 v2 y3 M5) else (bnd (f_X6_fail n 5 M5) fun _ M7 => f_X2_takeTicket_L106 n (f_X2_takeTicket_L46 n k) v1 v2 y3 M7))) else (some (0, M)))
set_option maxRecDepth 4000 in
theorem t_X2_takeTicket_L46 {g : JG} {ad : Nat → Nat} (hs : jStr g ad) (n : Nat) : ∀ (k : Nat) (v1 v2 : Int) (M : JMem), jB g D_X2_takeTicket ad 46 [some (.ref 12), some (ji v1), some (ji v2), none] [] M (f_X2_takeTicket_L46 n k v1 v2 M) := by
  intro k
  induction k with
  | zero => intro v1 v2 M; exact jO.none
  | succ k ih =>
    intro v1 v2 M
    rw [f_X2_takeTicket_L46]
    refine jo_iload 2 d_X2_takeTicket_46 rfl rfl ?_
    refine jo_bipush 8 d_X2_takeTicket_47 (by decide) ?_
    refine jo_icmp_gt 134 d_X2_takeTicket_49 (by decide) ?_ ?_
    · skip
      exact jo_vret rfl d_X2_takeTicket_134
    · skip
      refine jo_aload 0 d_X2_takeTicket_52 rfl rfl ?_
      refine jo_getR (k := 0) cl_2 (Nat.le_of_ble_eq_true rfl) lk_X2_29 rfl kc_12 kr_12_0 d_X2_takeTicket_53 ?_
      refine jo_getI (k := 4) cl_6 (Nat.le_of_ble_eq_true rfl) lk_X2_49 (Or.inl rfl) kc_9 d_X2_takeTicket_56 ?_
      refine jo_iconst 2 d_X2_takeTicket_59 ?_
      refine jo_icmp_ne 134 d_X2_takeTicket_60 (by decide) ?_ ?_
      · skip
        exact jo_vret rfl d_X2_takeTicket_134
      · skip
        refine jo_aload 0 d_X2_takeTicket_63 rfl rfl ?_
        refine jo_getR (k := 1) cl_2 (Nat.le_of_ble_eq_true rfl) lk_X2_12 rfl kc_12 kr_12_1 d_X2_takeTicket_64 ?_
        refine jo_aload 0 d_X2_takeTicket_67 rfl rfl ?_
        refine jo_getR (k := 0) cl_2 (Nat.le_of_ble_eq_true rfl) lk_X2_29 rfl kc_12 kr_12_0 d_X2_takeTicket_68 ?_
        refine jo_iconst 2 d_X2_takeTicket_71 ?_
        refine jo_callV (st := []) (m_X4_numberAt hs n 13 2 kc_13 M) ok_X4_numberAt (And.intro (Nat.le_of_ble_eq_true rfl) (Nat.le_of_ble_eq_true rfl)) lm_X2_111 in_X4_numberAt se_X4_numberAt rfl kc_13 rfl rfl (And.intro (Nat.zero_le _) (Nat.zero_le _)) rfl (Nat.le_of_ble_eq_true rfl) d_X2_takeTicket_72 (fun r1 M2 => ?_)
        refine jo_istore 3 d_X2_takeTicket_75 rfl (Nat.le_of_ble_eq_true rfl) (fun y3 => ?_)
        refine jo_iload 3 d_X2_takeTicket_76 rfl rfl ?_
        refine jo_iconst (-1) d_X2_takeTicket_77 ?_
        refine jo_icmp_ne 82 d_X2_takeTicket_78 (by decide) ?_ ?_
        · skip
          refine jo_aload 0 d_X2_takeTicket_82 rfl rfl ?_
          refine jo_getR (k := 2) cl_2 (Nat.le_of_ble_eq_true rfl) lk_X2_21 rfl kc_12 kr_12_2 d_X2_takeTicket_83 ?_
          refine jo_getR (k := 5) cl_1 (Nat.le_of_ble_eq_true rfl) lk_X2_154 rfl kc_25 (kr_Now_5 kc_25) d_X2_takeTicket_86 ?_
          refine jo_iload 1 d_X2_takeTicket_89 rfl rfl ?_
          refine jo_iald (N := 8) (ka_Now_5 kc_25) d_X2_takeTicket_90 ?_
          refine jo_iload 3 d_X2_takeTicket_91 rfl rfl ?_
          refine jo_callSN (st := []) (m_X11_isIn hs n (M2 (25 + 1) (jw v1).toNat) y3 M2) ok_X11_isIn (And.intro (Nat.le_of_ble_eq_true rfl) (Nat.le_of_ble_eq_true rfl)) lm_X2_150 st_X11_isIn rfl (And.intro (Nat.zero_le _) (Nat.zero_le _)) rfl (Nat.le_of_ble_eq_true rfl) d_X2_takeTicket_92 (fun r4 M5 => ?_)
          refine jo_if_eq 106 d_X2_takeTicket_95 (by decide) ?_ ?_
          · skip
            exact jO.sub (t_X2_takeTicket_L106 hs n (f_X2_takeTicket_L46 n k) ih v1 v2 y3 M5) (And.intro rfl (And.intro rfl (And.intro rfl (And.intro rfl True.intro))))
          · skip
            refine jo_aload 0 d_X2_takeTicket_98 rfl rfl ?_
            refine jo_getR (k := 0) cl_2 (Nat.le_of_ble_eq_true rfl) lk_X2_29 rfl kc_12 kr_12_0 d_X2_takeTicket_99 ?_
            refine jo_iconst 5 d_X2_takeTicket_102 ?_
            refine jo_callV (st := []) (m_X6_fail hs n 5 M5) ok_X6_fail (And.intro (Nat.le_of_ble_eq_true rfl) (Nat.le_of_ble_eq_true rfl)) lm_X2_74 in_X6_fail se_X6_fail rfl kc_9 rfl rfl (And.intro (Nat.zero_le _) (Nat.zero_le _)) rfl (Nat.le_of_ble_eq_true rfl) d_X2_takeTicket_103 (fun _ M7 => ?_)
            exact jO.sub (t_X2_takeTicket_L106 hs n (f_X2_takeTicket_L46 n k) ih v1 v2 y3 M7) (And.intro rfl (And.intro rfl (And.intro rfl (And.intro rfl True.intro))))
        · skip
          exact jo_vret rfl d_X2_takeTicket_81
def f_X2_takeTicket (n : Nat) (M : JMem) : Option (Int × JMem) := bnd (f_X6_advance n M) fun _ M2 => bnd (f_X4_numberAt n 13 8 M2) fun r3 M4 => letv r3 fun y5 => if jw y5 = jw (-1) then (some (0, M4)) else (chk (jin y5 8) <| letm (jup M4 (25 + 1) (jw y5).toNat 0) fun M6 => bnd (f_X6_advance n M6) fun _ M8 => letv 0 fun y9 => f_X2_takeTicket_L46 n n y5 y9 M8)
set_option maxRecDepth 4000 in
theorem t_X2_takeTicket {g : JG} {ad : Nat → Nat} (hs : jStr g ad) (n : Nat) (M : JMem) : jB g D_X2_takeTicket ad 0 [some (.ref 12), none, none, none] [] M (f_X2_takeTicket n M) := by
  unfold f_X2_takeTicket
  refine jo_aload 0 d_X2_takeTicket_0 rfl rfl ?_
  refine jo_getR (k := 0) cl_2 (Nat.le_of_ble_eq_true rfl) lk_X2_29 rfl kc_12 kr_12_0 d_X2_takeTicket_1 ?_
  refine jo_callV (st := []) (m_X6_advance hs n M) ok_X6_advance (And.intro (Nat.le_of_ble_eq_true rfl) (Nat.le_of_ble_eq_true rfl)) lm_X2_84 in_X6_advance se_X6_advance rfl kc_9 rfl rfl (And.intro (Nat.zero_le _) (Nat.zero_le _)) rfl (Nat.le_of_ble_eq_true rfl) d_X2_takeTicket_4 (fun _ M2 => ?_)
  refine jo_aload 0 d_X2_takeTicket_7 rfl rfl ?_
  refine jo_getR (k := 1) cl_2 (Nat.le_of_ble_eq_true rfl) lk_X2_12 rfl kc_12 kr_12_1 d_X2_takeTicket_8 ?_
  refine jo_aload 0 d_X2_takeTicket_11 rfl rfl ?_
  refine jo_getR (k := 0) cl_2 (Nat.le_of_ble_eq_true rfl) lk_X2_29 rfl kc_12 kr_12_0 d_X2_takeTicket_12 ?_
  refine jo_bipush 8 d_X2_takeTicket_15 (by decide) ?_
  refine jo_callV (st := []) (m_X4_numberAt hs n 13 8 kc_13 M2) ok_X4_numberAt (And.intro (Nat.le_of_ble_eq_true rfl) (Nat.le_of_ble_eq_true rfl)) lm_X2_111 in_X4_numberAt se_X4_numberAt rfl kc_13 rfl rfl (And.intro (Nat.zero_le _) (Nat.zero_le _)) rfl (Nat.le_of_ble_eq_true rfl) d_X2_takeTicket_17 (fun r3 M4 => ?_)
  refine jo_istore 1 d_X2_takeTicket_20 rfl (Nat.le_of_ble_eq_true rfl) (fun y5 => ?_)
  refine jo_iload 1 d_X2_takeTicket_21 rfl rfl ?_
  refine jo_iconst (-1) d_X2_takeTicket_22 ?_
  refine jo_icmp_ne 27 d_X2_takeTicket_23 (by decide) ?_ ?_
  · skip
    refine jo_aload 0 d_X2_takeTicket_27 rfl rfl ?_
    refine jo_getR (k := 2) cl_2 (Nat.le_of_ble_eq_true rfl) lk_X2_21 rfl kc_12 kr_12_2 d_X2_takeTicket_28 ?_
    refine jo_getR (k := 5) cl_1 (Nat.le_of_ble_eq_true rfl) lk_X2_154 rfl kc_25 (kr_Now_5 kc_25) d_X2_takeTicket_31 ?_
    refine jo_iload 1 d_X2_takeTicket_34 rfl rfl ?_
    refine jo_iconst 0 d_X2_takeTicket_35 ?_
    refine jo_iast (N := 8) (ka_Now_5 kc_25) d_X2_takeTicket_36 (fun M6 => ?_)
    refine jo_aload 0 d_X2_takeTicket_37 rfl rfl ?_
    refine jo_getR (k := 0) cl_2 (Nat.le_of_ble_eq_true rfl) lk_X2_29 rfl kc_12 kr_12_0 d_X2_takeTicket_38 ?_
    refine jo_callV (st := []) (m_X6_advance hs n M6) ok_X6_advance (And.intro (Nat.le_of_ble_eq_true rfl) (Nat.le_of_ble_eq_true rfl)) lm_X2_84 in_X6_advance se_X6_advance rfl kc_9 rfl rfl (And.intro (Nat.zero_le _) (Nat.zero_le _)) rfl (Nat.le_of_ble_eq_true rfl) d_X2_takeTicket_41 (fun _ M8 => ?_)
    refine jo_iconst 0 d_X2_takeTicket_44 ?_
    refine jo_istore 2 d_X2_takeTicket_45 rfl (Nat.le_of_ble_eq_true rfl) (fun y9 => ?_)
    exact jO.sub (t_X2_takeTicket_L46 hs n n y5 y9 M8) (And.intro rfl (And.intro rfl (And.intro rfl True.intro)))
  · skip
    exact jo_vret rfl d_X2_takeTicket_26
theorem m_X2_takeTicket {g : JG} {ad : Nat → Nat} (hs : jStr g ad) (n : Nat) (M : JMem) : jMet g jNN ad jR D_X2_takeTicket yX2_takeTicket [.ref 12] M (f_X2_takeTicket n M) :=
  jMet.of (lo0 := [some (.ref 12), none, none, none]) (by decide) rfl rfl (Nat.le_of_ble_eq_true rfl) (And.intro rfl True.intro) (t_X2_takeTicket hs n M)
/-! CageLeave$Text.passWord(I)V -/
def D_X6_passWord : JD := (RX6, cX6_passWord, 2, none, "passWord", { frames := 3, cells := 0, slots := 0, locals := 66 })
theorem ok_X6_passWord : jOk D_X6_passWord yX6_passWord 1 := ⟨jTW_mem (k := 834) (by decide +kernel) rfl, jTW_mem (k := 137) (by decide +kernel) rfl, ⟨by decide +kernel, by decide +kernel⟩, by decide +kernel, rfl, rfl⟩
theorem in_X6_passWord : Cond.instanceMethod yX6_passWord ∈ jTW := jTW_mem (k := 832) (by decide +kernel) rfl
theorem se_X6_passWord : Cond.selects yX6_passWord.cls yX6_passWord yX6_passWord ∈ jTW := jTW_mem (k := 833) (by decide +kernel) rfl
theorem lm_X6_66 : Cond.methodLink RX6 66 yX6_isAt ∈ jTW := jTW_mem (k := 835) (by decide +kernel) rfl
theorem d_X6_passWord_0 : decode (D_X6_passWord).2.1 0 = .ok (.aload_n 0, 1) := by decide +kernel
theorem d_X6_passWord_1 : decode (D_X6_passWord).2.1 1 = .ok (.iload_n 1, 1) := by decide +kernel
theorem d_X6_passWord_2 : decode (D_X6_passWord).2.1 2 = .ok (.invokevirtual 66, 3) := by decide +kernel
theorem d_X6_passWord_5 : decode (D_X6_passWord).2.1 5 = .ok (.ifCond .eq 10, 3) := by decide +kernel
theorem d_X6_passWord_8 : decode (D_X6_passWord).2.1 8 = .ok (.aload_n 0, 1) := by decide +kernel
theorem d_X6_passWord_9 : decode (D_X6_passWord).2.1 9 = .ok (.invokevirtual 63, 3) := by decide +kernel
theorem d_X6_passWord_12 : decode (D_X6_passWord).2.1 12 = .ok (.goto 8, 3) := by decide +kernel
theorem d_X6_passWord_15 : decode (D_X6_passWord).2.1 15 = .ok (.aload_n 0, 1) := by decide +kernel
theorem d_X6_passWord_16 : decode (D_X6_passWord).2.1 16 = .ok (.iconst 2, 1) := by decide +kernel
theorem d_X6_passWord_17 : decode (D_X6_passWord).2.1 17 = .ok (.invokevirtual 70, 3) := by decide +kernel
theorem d_X6_passWord_20 : decode (D_X6_passWord).2.1 20 = .ok (.return_, 1) := by decide +kernel
def f_X6_passWord (n : Nat) (x1 : Int) (M : JMem) : Option (Int × JMem) := bnd (f_X6_isAt n x1 M) fun r1 M2 => if jw r1 = 0 then (bnd (f_X6_fail n 2 M2) fun _ M4 => some (0, M4)) else (bnd (f_X6_advance n M2) fun _ M6 => some (0, M6))
set_option maxRecDepth 4000 in
theorem t_X6_passWord {g : JG} {ad : Nat → Nat} (hs : jStr g ad) (n : Nat) (x1 : Int) (M : JMem) : jB g D_X6_passWord ad 0 [some (.ref 9), some (ji x1)] [] M (f_X6_passWord n x1 M) := by
  unfold f_X6_passWord
  refine jo_aload 0 d_X6_passWord_0 rfl rfl ?_
  refine jo_iload 1 d_X6_passWord_1 rfl rfl ?_
  refine jo_callV (st := []) (m_X6_isAt hs n x1 M) ok_X6_isAt (And.intro (Nat.le_of_ble_eq_true rfl) (Nat.le_of_ble_eq_true rfl)) lm_X6_66 in_X6_isAt se_X6_isAt rfl kc_9 rfl rfl (And.intro (Nat.zero_le _) (Nat.zero_le _)) rfl (Nat.le_of_ble_eq_true rfl) d_X6_passWord_2 (fun r1 M2 => ?_)
  refine jo_if_eq 15 d_X6_passWord_5 (by decide) ?_ ?_
  · skip
    refine jo_aload 0 d_X6_passWord_15 rfl rfl ?_
    refine jo_iconst 2 d_X6_passWord_16 ?_
    refine jo_callV (st := []) (m_X6_fail hs n 2 M2) ok_X6_fail (And.intro (Nat.le_of_ble_eq_true rfl) (Nat.le_of_ble_eq_true rfl)) lm_X6_70 in_X6_fail se_X6_fail rfl kc_9 rfl rfl (And.intro (Nat.zero_le _) (Nat.zero_le _)) rfl (Nat.le_of_ble_eq_true rfl) d_X6_passWord_17 (fun _ M4 => ?_)
    exact jo_vret rfl d_X6_passWord_20
  · skip
    refine jo_aload 0 d_X6_passWord_8 rfl rfl ?_
    refine jo_callV (st := []) (m_X6_advance hs n M2) ok_X6_advance (And.intro (Nat.le_of_ble_eq_true rfl) (Nat.le_of_ble_eq_true rfl)) lm_X6_63 in_X6_advance se_X6_advance rfl kc_9 rfl rfl (And.intro (Nat.zero_le _) (Nat.zero_le _)) rfl (Nat.le_of_ble_eq_true rfl) d_X6_passWord_9 (fun _ M6 => ?_)
    refine jo_goto 20 d_X6_passWord_12 (by decide) ?_
    exact jo_vret rfl d_X6_passWord_20
theorem m_X6_passWord {g : JG} {ad : Nat → Nat} (hs : jStr g ad) (n : Nat) (x1 : Int) (M : JMem) : jMet g jNN ad jR D_X6_passWord yX6_passWord [.ref 9, ji x1] M (f_X6_passWord n x1 M) :=
  jMet.of (lo0 := [some (.ref 9), some (ji x1)]) (by decide) rfl rfl (Nat.le_of_ble_eq_true rfl) (And.intro rfl (And.intro rfl True.intro)) (t_X6_passWord hs n x1 M)
/-! CageLeave$ParkReader.takeTrain()V -/
def D_X2_takeTrain : JD := (RX2, cX2_takeTrain, 2, none, "takeTrain", { frames := 5, cells := 0, slots := 0, locals := 113 })
theorem ok_X2_takeTrain : jOk D_X2_takeTrain yX2_takeTrain 0 := ⟨jTW_mem (k := 830) (by decide +kernel) rfl, jTW_mem (k := 142) (by decide +kernel) rfl, ⟨by decide +kernel, by decide +kernel⟩, by decide +kernel, rfl, rfl⟩
theorem in_X2_takeTrain : Cond.instanceMethod yX2_takeTrain ∈ jTW := jTW_mem (k := 829) (by decide +kernel) rfl
theorem se_X2_takeTrain : Cond.selects yX2_takeTrain.cls yX2_takeTrain yX2_takeTrain ∈ jTW := jTW_mem (k := 8) (by decide +kernel) rfl
theorem lm_X2_104 : Cond.methodLink RX2 104 yX6_passWord ∈ jTW := jTW_mem (k := 831) (by decide +kernel) rfl
theorem lk_X2_118 : Cond.fieldLink RX2 118 (TX4 10).1 (TX4 10).2.1 (TX4 10).2.2.1 ∈ jTW := jTW_mem (k := 338) (by decide +kernel) rfl
theorem lk_X2_121 : Cond.fieldLink RX2 121 (TX4 11).1 (TX4 11).2.1 (TX4 11).2.2.1 ∈ jTW := jTW_mem (k := 343) (by decide +kernel) rfl
theorem lk_X2_124 : Cond.fieldLink RX2 124 (TX4 12).1 (TX4 12).2.1 (TX4 12).2.2.1 ∈ jTW := jTW_mem (k := 347) (by decide +kernel) rfl
theorem lk_X2_101 : Cond.fieldLink RX2 101 (TX4 1).1 (TX4 1).2.1 (TX4 1).2.2.1 ∈ jTW := jTW_mem (k := 308) (by decide +kernel) rfl
theorem lk_X2_107 : Cond.fieldLink RX2 107 (TX4 8).1 (TX4 8).2.1 (TX4 8).2.2.1 ∈ jTW := jTW_mem (k := 328) (by decide +kernel) rfl
theorem lk_X2_115 : Cond.fieldLink RX2 115 (TX4 9).1 (TX4 9).2.1 (TX4 9).2.2.1 ∈ jTW := jTW_mem (k := 333) (by decide +kernel) rfl
theorem d_X2_takeTrain_0 : decode (D_X2_takeTrain).2.1 0 = .ok (.aload_n 0, 1) := by decide +kernel
theorem d_X2_takeTrain_1 : decode (D_X2_takeTrain).2.1 1 = .ok (.getfield 12, 3) := by decide +kernel
theorem d_X2_takeTrain_4 : decode (D_X2_takeTrain).2.1 4 = .ok (.getfield 101, 3) := by decide +kernel
theorem d_X2_takeTrain_7 : decode (D_X2_takeTrain).2.1 7 = .ok (.istore_n 1, 1) := by decide +kernel
theorem d_X2_takeTrain_8 : decode (D_X2_takeTrain).2.1 8 = .ok (.iload_n 1, 1) := by decide +kernel
theorem d_X2_takeTrain_9 : decode (D_X2_takeTrain).2.1 9 = .ok (.bipush 8, 2) := by decide +kernel
theorem d_X2_takeTrain_11 : decode (D_X2_takeTrain).2.1 11 = .ok (.if_icmp .lt 13, 3) := by decide +kernel
theorem d_X2_takeTrain_14 : decode (D_X2_takeTrain).2.1 14 = .ok (.aload_n 0, 1) := by decide +kernel
theorem d_X2_takeTrain_15 : decode (D_X2_takeTrain).2.1 15 = .ok (.getfield 29, 3) := by decide +kernel
theorem d_X2_takeTrain_18 : decode (D_X2_takeTrain).2.1 18 = .ok (.bipush 6, 2) := by decide +kernel
theorem d_X2_takeTrain_20 : decode (D_X2_takeTrain).2.1 20 = .ok (.invokevirtual 74, 3) := by decide +kernel
theorem d_X2_takeTrain_23 : decode (D_X2_takeTrain).2.1 23 = .ok (.return_, 1) := by decide +kernel
theorem d_X2_takeTrain_24 : decode (D_X2_takeTrain).2.1 24 = .ok (.aload_n 0, 1) := by decide +kernel
theorem d_X2_takeTrain_25 : decode (D_X2_takeTrain).2.1 25 = .ok (.getfield 29, 3) := by decide +kernel
theorem d_X2_takeTrain_28 : decode (D_X2_takeTrain).2.1 28 = .ok (.invokevirtual 84, 3) := by decide +kernel
theorem d_X2_takeTrain_31 : decode (D_X2_takeTrain).2.1 31 = .ok (.aload_n 0, 1) := by decide +kernel
theorem d_X2_takeTrain_32 : decode (D_X2_takeTrain).2.1 32 = .ok (.iconst 2, 1) := by decide +kernel
theorem d_X2_takeTrain_33 : decode (D_X2_takeTrain).2.1 33 = .ok (.iload_n 1, 1) := by decide +kernel
theorem d_X2_takeTrain_34 : decode (D_X2_takeTrain).2.1 34 = .ok (.invokevirtual 97, 3) := by decide +kernel
theorem d_X2_takeTrain_37 : decode (D_X2_takeTrain).2.1 37 = .ok (.aload_n 0, 1) := by decide +kernel
theorem d_X2_takeTrain_38 : decode (D_X2_takeTrain).2.1 38 = .ok (.getfield 29, 3) := by decide +kernel
theorem d_X2_takeTrain_41 : decode (D_X2_takeTrain).2.1 41 = .ok (.iconst 3, 1) := by decide +kernel
theorem d_X2_takeTrain_42 : decode (D_X2_takeTrain).2.1 42 = .ok (.invokevirtual 104, 3) := by decide +kernel
theorem d_X2_takeTrain_45 : decode (D_X2_takeTrain).2.1 45 = .ok (.aload_n 0, 1) := by decide +kernel
theorem d_X2_takeTrain_46 : decode (D_X2_takeTrain).2.1 46 = .ok (.getfield 12, 3) := by decide +kernel
theorem d_X2_takeTrain_49 : decode (D_X2_takeTrain).2.1 49 = .ok (.getfield 107, 3) := by decide +kernel
theorem d_X2_takeTrain_52 : decode (D_X2_takeTrain).2.1 52 = .ok (.iload_n 1, 1) := by decide +kernel
theorem d_X2_takeTrain_53 : decode (D_X2_takeTrain).2.1 53 = .ok (.aload_n 0, 1) := by decide +kernel
theorem d_X2_takeTrain_54 : decode (D_X2_takeTrain).2.1 54 = .ok (.getfield 12, 3) := by decide +kernel
theorem d_X2_takeTrain_57 : decode (D_X2_takeTrain).2.1 57 = .ok (.aload_n 0, 1) := by decide +kernel
theorem d_X2_takeTrain_58 : decode (D_X2_takeTrain).2.1 58 = .ok (.getfield 29, 3) := by decide +kernel
theorem d_X2_takeTrain_61 : decode (D_X2_takeTrain).2.1 61 = .ok (.iconst 1, 1) := by decide +kernel
theorem d_X2_takeTrain_62 : decode (D_X2_takeTrain).2.1 62 = .ok (.invokevirtual 111, 3) := by decide +kernel
theorem d_X2_takeTrain_65 : decode (D_X2_takeTrain).2.1 65 = .ok (.iastore, 1) := by decide +kernel
theorem d_X2_takeTrain_66 : decode (D_X2_takeTrain).2.1 66 = .ok (.aload_n 0, 1) := by decide +kernel
theorem d_X2_takeTrain_67 : decode (D_X2_takeTrain).2.1 67 = .ok (.getfield 29, 3) := by decide +kernel
theorem d_X2_takeTrain_70 : decode (D_X2_takeTrain).2.1 70 = .ok (.invokevirtual 84, 3) := by decide +kernel
theorem d_X2_takeTrain_73 : decode (D_X2_takeTrain).2.1 73 = .ok (.aload_n 0, 1) := by decide +kernel
theorem d_X2_takeTrain_74 : decode (D_X2_takeTrain).2.1 74 = .ok (.getfield 29, 3) := by decide +kernel
theorem d_X2_takeTrain_77 : decode (D_X2_takeTrain).2.1 77 = .ok (.iconst 4, 1) := by decide +kernel
theorem d_X2_takeTrain_78 : decode (D_X2_takeTrain).2.1 78 = .ok (.invokevirtual 104, 3) := by decide +kernel
theorem d_X2_takeTrain_81 : decode (D_X2_takeTrain).2.1 81 = .ok (.aload_n 0, 1) := by decide +kernel
theorem d_X2_takeTrain_82 : decode (D_X2_takeTrain).2.1 82 = .ok (.getfield 12, 3) := by decide +kernel
theorem d_X2_takeTrain_85 : decode (D_X2_takeTrain).2.1 85 = .ok (.getfield 115, 3) := by decide +kernel
theorem d_X2_takeTrain_88 : decode (D_X2_takeTrain).2.1 88 = .ok (.iload_n 1, 1) := by decide +kernel
theorem d_X2_takeTrain_89 : decode (D_X2_takeTrain).2.1 89 = .ok (.aload_n 0, 1) := by decide +kernel
theorem d_X2_takeTrain_90 : decode (D_X2_takeTrain).2.1 90 = .ok (.getfield 12, 3) := by decide +kernel
theorem d_X2_takeTrain_93 : decode (D_X2_takeTrain).2.1 93 = .ok (.aload_n 0, 1) := by decide +kernel
theorem d_X2_takeTrain_94 : decode (D_X2_takeTrain).2.1 94 = .ok (.getfield 29, 3) := by decide +kernel
theorem d_X2_takeTrain_97 : decode (D_X2_takeTrain).2.1 97 = .ok (.iconst 1, 1) := by decide +kernel
theorem d_X2_takeTrain_98 : decode (D_X2_takeTrain).2.1 98 = .ok (.invokevirtual 111, 3) := by decide +kernel
theorem d_X2_takeTrain_101 : decode (D_X2_takeTrain).2.1 101 = .ok (.iastore, 1) := by decide +kernel
theorem d_X2_takeTrain_102 : decode (D_X2_takeTrain).2.1 102 = .ok (.aload_n 0, 1) := by decide +kernel
theorem d_X2_takeTrain_103 : decode (D_X2_takeTrain).2.1 103 = .ok (.getfield 12, 3) := by decide +kernel
theorem d_X2_takeTrain_106 : decode (D_X2_takeTrain).2.1 106 = .ok (.getfield 115, 3) := by decide +kernel
theorem d_X2_takeTrain_109 : decode (D_X2_takeTrain).2.1 109 = .ok (.iload_n 1, 1) := by decide +kernel
theorem d_X2_takeTrain_110 : decode (D_X2_takeTrain).2.1 110 = .ok (.iaload, 1) := by decide +kernel
theorem d_X2_takeTrain_111 : decode (D_X2_takeTrain).2.1 111 = .ok (.aload_n 0, 1) := by decide +kernel
theorem d_X2_takeTrain_112 : decode (D_X2_takeTrain).2.1 112 = .ok (.getfield 12, 3) := by decide +kernel
theorem d_X2_takeTrain_115 : decode (D_X2_takeTrain).2.1 115 = .ok (.getfield 107, 3) := by decide +kernel
theorem d_X2_takeTrain_118 : decode (D_X2_takeTrain).2.1 118 = .ok (.iload_n 1, 1) := by decide +kernel
theorem d_X2_takeTrain_119 : decode (D_X2_takeTrain).2.1 119 = .ok (.iaload, 1) := by decide +kernel
theorem d_X2_takeTrain_120 : decode (D_X2_takeTrain).2.1 120 = .ok (.if_icmp .ne 11, 3) := by decide +kernel
theorem d_X2_takeTrain_123 : decode (D_X2_takeTrain).2.1 123 = .ok (.aload_n 0, 1) := by decide +kernel
theorem d_X2_takeTrain_124 : decode (D_X2_takeTrain).2.1 124 = .ok (.getfield 29, 3) := by decide +kernel
theorem d_X2_takeTrain_127 : decode (D_X2_takeTrain).2.1 127 = .ok (.iconst 5, 1) := by decide +kernel
theorem d_X2_takeTrain_128 : decode (D_X2_takeTrain).2.1 128 = .ok (.invokevirtual 74, 3) := by decide +kernel
theorem d_X2_takeTrain_131 : decode (D_X2_takeTrain).2.1 131 = .ok (.aload_n 0, 1) := by decide +kernel
theorem d_X2_takeTrain_132 : decode (D_X2_takeTrain).2.1 132 = .ok (.getfield 29, 3) := by decide +kernel
theorem d_X2_takeTrain_135 : decode (D_X2_takeTrain).2.1 135 = .ok (.invokevirtual 84, 3) := by decide +kernel
theorem d_X2_takeTrain_138 : decode (D_X2_takeTrain).2.1 138 = .ok (.aload_n 0, 1) := by decide +kernel
theorem d_X2_takeTrain_139 : decode (D_X2_takeTrain).2.1 139 = .ok (.getfield 29, 3) := by decide +kernel
theorem d_X2_takeTrain_142 : decode (D_X2_takeTrain).2.1 142 = .ok (.iconst 5, 1) := by decide +kernel
theorem d_X2_takeTrain_143 : decode (D_X2_takeTrain).2.1 143 = .ok (.invokevirtual 104, 3) := by decide +kernel
theorem d_X2_takeTrain_146 : decode (D_X2_takeTrain).2.1 146 = .ok (.aload_n 0, 1) := by decide +kernel
theorem d_X2_takeTrain_147 : decode (D_X2_takeTrain).2.1 147 = .ok (.getfield 12, 3) := by decide +kernel
theorem d_X2_takeTrain_150 : decode (D_X2_takeTrain).2.1 150 = .ok (.getfield 118, 3) := by decide +kernel
theorem d_X2_takeTrain_153 : decode (D_X2_takeTrain).2.1 153 = .ok (.iload_n 1, 1) := by decide +kernel
theorem d_X2_takeTrain_154 : decode (D_X2_takeTrain).2.1 154 = .ok (.aload_n 0, 1) := by decide +kernel
theorem d_X2_takeTrain_155 : decode (D_X2_takeTrain).2.1 155 = .ok (.getfield 29, 3) := by decide +kernel
theorem d_X2_takeTrain_158 : decode (D_X2_takeTrain).2.1 158 = .ok (.iconst 0, 1) := by decide +kernel
theorem d_X2_takeTrain_159 : decode (D_X2_takeTrain).2.1 159 = .ok (.bipush 63, 2) := by decide +kernel
theorem d_X2_takeTrain_161 : decode (D_X2_takeTrain).2.1 161 = .ok (.invokevirtual 87, 3) := by decide +kernel
theorem d_X2_takeTrain_164 : decode (D_X2_takeTrain).2.1 164 = .ok (.iastore, 1) := by decide +kernel
theorem d_X2_takeTrain_165 : decode (D_X2_takeTrain).2.1 165 = .ok (.aload_n 0, 1) := by decide +kernel
theorem d_X2_takeTrain_166 : decode (D_X2_takeTrain).2.1 166 = .ok (.getfield 29, 3) := by decide +kernel
theorem d_X2_takeTrain_169 : decode (D_X2_takeTrain).2.1 169 = .ok (.bipush 6, 2) := by decide +kernel
theorem d_X2_takeTrain_171 : decode (D_X2_takeTrain).2.1 171 = .ok (.invokevirtual 104, 3) := by decide +kernel
theorem d_X2_takeTrain_174 : decode (D_X2_takeTrain).2.1 174 = .ok (.aload_n 0, 1) := by decide +kernel
theorem d_X2_takeTrain_175 : decode (D_X2_takeTrain).2.1 175 = .ok (.getfield 12, 3) := by decide +kernel
theorem d_X2_takeTrain_178 : decode (D_X2_takeTrain).2.1 178 = .ok (.getfield 121, 3) := by decide +kernel
theorem d_X2_takeTrain_181 : decode (D_X2_takeTrain).2.1 181 = .ok (.iload_n 1, 1) := by decide +kernel
theorem d_X2_takeTrain_182 : decode (D_X2_takeTrain).2.1 182 = .ok (.aload_n 0, 1) := by decide +kernel
theorem d_X2_takeTrain_183 : decode (D_X2_takeTrain).2.1 183 = .ok (.getfield 29, 3) := by decide +kernel
theorem d_X2_takeTrain_186 : decode (D_X2_takeTrain).2.1 186 = .ok (.iconst 1, 1) := by decide +kernel
theorem d_X2_takeTrain_187 : decode (D_X2_takeTrain).2.1 187 = .ok (.bipush 24, 2) := by decide +kernel
theorem d_X2_takeTrain_189 : decode (D_X2_takeTrain).2.1 189 = .ok (.invokevirtual 87, 3) := by decide +kernel
theorem d_X2_takeTrain_192 : decode (D_X2_takeTrain).2.1 192 = .ok (.iastore, 1) := by decide +kernel
theorem d_X2_takeTrain_193 : decode (D_X2_takeTrain).2.1 193 = .ok (.aload_n 0, 1) := by decide +kernel
theorem d_X2_takeTrain_194 : decode (D_X2_takeTrain).2.1 194 = .ok (.getfield 12, 3) := by decide +kernel
theorem d_X2_takeTrain_197 : decode (D_X2_takeTrain).2.1 197 = .ok (.getfield 124, 3) := by decide +kernel
theorem d_X2_takeTrain_200 : decode (D_X2_takeTrain).2.1 200 = .ok (.iload_n 1, 1) := by decide +kernel
theorem d_X2_takeTrain_201 : decode (D_X2_takeTrain).2.1 201 = .ok (.aload_n 0, 1) := by decide +kernel
theorem d_X2_takeTrain_202 : decode (D_X2_takeTrain).2.1 202 = .ok (.bipush 7, 2) := by decide +kernel
theorem d_X2_takeTrain_204 : decode (D_X2_takeTrain).2.1 204 = .ok (.iconst 1, 1) := by decide +kernel
theorem d_X2_takeTrain_205 : decode (D_X2_takeTrain).2.1 205 = .ok (.bipush 9, 2) := by decide +kernel
theorem d_X2_takeTrain_207 : decode (D_X2_takeTrain).2.1 207 = .ok (.bipush 9, 2) := by decide +kernel
theorem d_X2_takeTrain_209 : decode (D_X2_takeTrain).2.1 209 = .ok (.invokevirtual 127, 3) := by decide +kernel
theorem d_X2_takeTrain_212 : decode (D_X2_takeTrain).2.1 212 = .ok (.iastore, 1) := by decide +kernel
theorem d_X2_takeTrain_213 : decode (D_X2_takeTrain).2.1 213 = .ok (.aload_n 0, 1) := by decide +kernel
theorem d_X2_takeTrain_214 : decode (D_X2_takeTrain).2.1 214 = .ok (.getfield 12, 3) := by decide +kernel
theorem d_X2_takeTrain_217 : decode (D_X2_takeTrain).2.1 217 = .ok (.dup, 1) := by decide +kernel
theorem d_X2_takeTrain_218 : decode (D_X2_takeTrain).2.1 218 = .ok (.getfield 101, 3) := by decide +kernel
theorem d_X2_takeTrain_221 : decode (D_X2_takeTrain).2.1 221 = .ok (.iconst 1, 1) := by decide +kernel
theorem d_X2_takeTrain_222 : decode (D_X2_takeTrain).2.1 222 = .ok (.iadd, 1) := by decide +kernel
theorem d_X2_takeTrain_223 : decode (D_X2_takeTrain).2.1 223 = .ok (.putfield 101, 3) := by decide +kernel
theorem d_X2_takeTrain_226 : decode (D_X2_takeTrain).2.1 226 = .ok (.return_, 1) := by decide +kernel
def f_X2_takeTrain_L131 (n : Nat) (v1 : Int) (M : JMem) : Option (Int × JMem) := bnd (f_X6_advance n M) fun _ M2 => bnd (f_X6_passWord n 5 M2) fun _ M4 => bnd (f_X6_passNumber n 0 63 M4) fun r5 M6 => chk (jin v1 8) <| letm (jup M6 (13 + 6) (jw v1).toNat r5) fun M7 => bnd (f_X6_passWord n 6 M7) fun _ M9 => bnd (f_X6_passNumber n 1 24 M9) fun r10 M11 => chk (jin v1 8) <| letm (jup M11 (13 + 7) (jw v1).toNat r10) fun M12 => bnd (f_X2_optional n 7 1 9 9 M12) fun r13 M14 => chk (jin v1 8) <| letm (jup M14 (13 + 8) (jw v1).toNat r13) fun M15 => letm (jup M15 13 1 ((M15 13 1) + 1)) fun M16 => some (0, M16)
set_option maxRecDepth 4000 in
theorem t_X2_takeTrain_L131 {g : JG} {ad : Nat → Nat} (hs : jStr g ad) (n : Nat) (v1 : Int) (M : JMem) : jB g D_X2_takeTrain ad 131 [some (.ref 12), some (ji v1)] [] M (f_X2_takeTrain_L131 n v1 M) := by
  unfold f_X2_takeTrain_L131
  refine jo_aload 0 d_X2_takeTrain_131 rfl rfl ?_
  refine jo_getR (k := 0) cl_2 (Nat.le_of_ble_eq_true rfl) lk_X2_29 rfl kc_12 kr_12_0 d_X2_takeTrain_132 ?_
  refine jo_callV (st := []) (m_X6_advance hs n M) ok_X6_advance (And.intro (Nat.le_of_ble_eq_true rfl) (Nat.le_of_ble_eq_true rfl)) lm_X2_84 in_X6_advance se_X6_advance rfl kc_9 rfl rfl (And.intro (Nat.zero_le _) (Nat.zero_le _)) rfl (Nat.le_of_ble_eq_true rfl) d_X2_takeTrain_135 (fun _ M2 => ?_)
  refine jo_aload 0 d_X2_takeTrain_138 rfl rfl ?_
  refine jo_getR (k := 0) cl_2 (Nat.le_of_ble_eq_true rfl) lk_X2_29 rfl kc_12 kr_12_0 d_X2_takeTrain_139 ?_
  refine jo_iconst 5 d_X2_takeTrain_142 ?_
  refine jo_callV (st := []) (m_X6_passWord hs n 5 M2) ok_X6_passWord (And.intro (Nat.le_of_ble_eq_true rfl) (Nat.le_of_ble_eq_true rfl)) lm_X2_104 in_X6_passWord se_X6_passWord rfl kc_9 rfl rfl (And.intro (Nat.zero_le _) (Nat.zero_le _)) rfl (Nat.le_of_ble_eq_true rfl) d_X2_takeTrain_143 (fun _ M4 => ?_)
  refine jo_aload 0 d_X2_takeTrain_146 rfl rfl ?_
  refine jo_getR (k := 1) cl_2 (Nat.le_of_ble_eq_true rfl) lk_X2_12 rfl kc_12 kr_12_1 d_X2_takeTrain_147 ?_
  refine jo_getR (k := 10) cl_4 (Nat.le_of_ble_eq_true rfl) lk_X2_118 rfl kc_13 (kr_Plan_10 kc_13) d_X2_takeTrain_150 ?_
  refine jo_iload 1 d_X2_takeTrain_153 rfl rfl ?_
  refine jo_aload 0 d_X2_takeTrain_154 rfl rfl ?_
  refine jo_getR (k := 0) cl_2 (Nat.le_of_ble_eq_true rfl) lk_X2_29 rfl kc_12 kr_12_0 d_X2_takeTrain_155 ?_
  refine jo_iconst 0 d_X2_takeTrain_158 ?_
  refine jo_bipush 63 d_X2_takeTrain_159 (by decide) ?_
  refine jo_callV (st := [ji v1, .ref (13 + 6)]) (m_X6_passNumber hs n 0 63 M4) ok_X6_passNumber (And.intro (Nat.le_of_ble_eq_true rfl) (Nat.le_of_ble_eq_true rfl)) lm_X2_87 in_X6_passNumber se_X6_passNumber rfl kc_9 rfl rfl (And.intro (Nat.zero_le _) (Nat.zero_le _)) rfl (Nat.le_of_ble_eq_true rfl) d_X2_takeTrain_161 (fun r5 M6 => ?_)
  refine jo_iast (N := 8) (ka_Plan_10 kc_13) d_X2_takeTrain_164 (fun M7 => ?_)
  refine jo_aload 0 d_X2_takeTrain_165 rfl rfl ?_
  refine jo_getR (k := 0) cl_2 (Nat.le_of_ble_eq_true rfl) lk_X2_29 rfl kc_12 kr_12_0 d_X2_takeTrain_166 ?_
  refine jo_bipush 6 d_X2_takeTrain_169 (by decide) ?_
  refine jo_callV (st := []) (m_X6_passWord hs n 6 M7) ok_X6_passWord (And.intro (Nat.le_of_ble_eq_true rfl) (Nat.le_of_ble_eq_true rfl)) lm_X2_104 in_X6_passWord se_X6_passWord rfl kc_9 rfl rfl (And.intro (Nat.zero_le _) (Nat.zero_le _)) rfl (Nat.le_of_ble_eq_true rfl) d_X2_takeTrain_171 (fun _ M9 => ?_)
  refine jo_aload 0 d_X2_takeTrain_174 rfl rfl ?_
  refine jo_getR (k := 1) cl_2 (Nat.le_of_ble_eq_true rfl) lk_X2_12 rfl kc_12 kr_12_1 d_X2_takeTrain_175 ?_
  refine jo_getR (k := 11) cl_4 (Nat.le_of_ble_eq_true rfl) lk_X2_121 rfl kc_13 (kr_Plan_11 kc_13) d_X2_takeTrain_178 ?_
  refine jo_iload 1 d_X2_takeTrain_181 rfl rfl ?_
  refine jo_aload 0 d_X2_takeTrain_182 rfl rfl ?_
  refine jo_getR (k := 0) cl_2 (Nat.le_of_ble_eq_true rfl) lk_X2_29 rfl kc_12 kr_12_0 d_X2_takeTrain_183 ?_
  refine jo_iconst 1 d_X2_takeTrain_186 ?_
  refine jo_bipush 24 d_X2_takeTrain_187 (by decide) ?_
  refine jo_callV (st := [ji v1, .ref (13 + 7)]) (m_X6_passNumber hs n 1 24 M9) ok_X6_passNumber (And.intro (Nat.le_of_ble_eq_true rfl) (Nat.le_of_ble_eq_true rfl)) lm_X2_87 in_X6_passNumber se_X6_passNumber rfl kc_9 rfl rfl (And.intro (Nat.zero_le _) (Nat.zero_le _)) rfl (Nat.le_of_ble_eq_true rfl) d_X2_takeTrain_189 (fun r10 M11 => ?_)
  refine jo_iast (N := 8) (ka_Plan_11 kc_13) d_X2_takeTrain_192 (fun M12 => ?_)
  refine jo_aload 0 d_X2_takeTrain_193 rfl rfl ?_
  refine jo_getR (k := 1) cl_2 (Nat.le_of_ble_eq_true rfl) lk_X2_12 rfl kc_12 kr_12_1 d_X2_takeTrain_194 ?_
  refine jo_getR (k := 12) cl_4 (Nat.le_of_ble_eq_true rfl) lk_X2_124 rfl kc_13 (kr_Plan_12 kc_13) d_X2_takeTrain_197 ?_
  refine jo_iload 1 d_X2_takeTrain_200 rfl rfl ?_
  refine jo_aload 0 d_X2_takeTrain_201 rfl rfl ?_
  refine jo_bipush 7 d_X2_takeTrain_202 (by decide) ?_
  refine jo_iconst 1 d_X2_takeTrain_204 ?_
  refine jo_bipush 9 d_X2_takeTrain_205 (by decide) ?_
  refine jo_bipush 9 d_X2_takeTrain_207 (by decide) ?_
  refine jo_callV (st := [ji v1, .ref (13 + 8)]) (m_X2_optional hs n 7 1 9 9 M12) ok_X2_optional (And.intro (Nat.le_of_ble_eq_true rfl) (Nat.le_of_ble_eq_true rfl)) lm_X2_127 in_X2_optional se_X2_optional rfl kc_12 rfl rfl (And.intro (Nat.zero_le _) (Nat.zero_le _)) rfl (Nat.le_of_ble_eq_true rfl) d_X2_takeTrain_209 (fun r13 M14 => ?_)
  refine jo_iast (N := 8) (ka_Plan_12 kc_13) d_X2_takeTrain_212 (fun M15 => ?_)
  refine jo_aload 0 d_X2_takeTrain_213 rfl rfl ?_
  refine jo_getR (k := 1) cl_2 (Nat.le_of_ble_eq_true rfl) lk_X2_12 rfl kc_12 kr_12_1 d_X2_takeTrain_214 ?_
  refine jo_dup d_X2_takeTrain_217 rfl ?_
  refine jo_getI (k := 1) cl_4 (Nat.le_of_ble_eq_true rfl) lk_X2_101 (Or.inl rfl) kc_13 d_X2_takeTrain_218 ?_
  refine jo_iconst 1 d_X2_takeTrain_221 ?_
  refine jo_iadd d_X2_takeTrain_222 ?_
  refine jo_putI (k := 1) cl_4 (Nat.le_of_ble_eq_true rfl) lk_X2_101 rfl rfl kc_13 d_X2_takeTrain_223 (fun M16 => ?_)
  exact jo_vret rfl d_X2_takeTrain_226
def f_X2_takeTrain (n : Nat) (M : JMem) : Option (Int × JMem) := letv (M 13 1) fun y1 => if jw y1 < jw 8 then (bnd (f_X6_advance n M) fun _ M3 => bnd (f_X2_passNewName n 2 y1 M3) fun _ M5 => bnd (f_X6_passWord n 3 M5) fun _ M7 => bnd (f_X4_numberAt n 13 1 M7) fun r8 M9 => chk (jin y1 8) <| letm (jup M9 (13 + 4) (jw y1).toNat r8) fun M10 => bnd (f_X6_advance n M10) fun _ M12 => bnd (f_X6_passWord n 4 M12) fun _ M14 => bnd (f_X4_numberAt n 13 1 M14) fun r15 M16 => chk (jin y1 8) <| letm (jup M16 (13 + 5) (jw y1).toNat r15) fun M17 => chk (jin y1 8) <| chk (jin y1 8) <| if jw (M17 (13 + 5) (jw y1).toNat) = jw (M17 (13 + 4) (jw y1).toNat) then (bnd (f_X6_fail n 5 M17) fun _ M19 => f_X2_takeTrain_L131 n y1 M19) else (f_X2_takeTrain_L131 n y1 M17)) else (bnd (f_X6_fail n 6 M) fun _ M21 => some (0, M21))
set_option maxRecDepth 4000 in
theorem t_X2_takeTrain {g : JG} {ad : Nat → Nat} (hs : jStr g ad) (n : Nat) (M : JMem) : jB g D_X2_takeTrain ad 0 [some (.ref 12), none] [] M (f_X2_takeTrain n M) := by
  unfold f_X2_takeTrain
  refine jo_aload 0 d_X2_takeTrain_0 rfl rfl ?_
  refine jo_getR (k := 1) cl_2 (Nat.le_of_ble_eq_true rfl) lk_X2_12 rfl kc_12 kr_12_1 d_X2_takeTrain_1 ?_
  refine jo_getI (k := 1) cl_4 (Nat.le_of_ble_eq_true rfl) lk_X2_101 (Or.inl rfl) kc_13 d_X2_takeTrain_4 ?_
  refine jo_istore 1 d_X2_takeTrain_7 rfl (Nat.le_of_ble_eq_true rfl) (fun y1 => ?_)
  refine jo_iload 1 d_X2_takeTrain_8 rfl rfl ?_
  refine jo_bipush 8 d_X2_takeTrain_9 (by decide) ?_
  refine jo_icmp_lt 24 d_X2_takeTrain_11 (by decide) ?_ ?_
  · skip
    refine jo_aload 0 d_X2_takeTrain_24 rfl rfl ?_
    refine jo_getR (k := 0) cl_2 (Nat.le_of_ble_eq_true rfl) lk_X2_29 rfl kc_12 kr_12_0 d_X2_takeTrain_25 ?_
    refine jo_callV (st := []) (m_X6_advance hs n M) ok_X6_advance (And.intro (Nat.le_of_ble_eq_true rfl) (Nat.le_of_ble_eq_true rfl)) lm_X2_84 in_X6_advance se_X6_advance rfl kc_9 rfl rfl (And.intro (Nat.zero_le _) (Nat.zero_le _)) rfl (Nat.le_of_ble_eq_true rfl) d_X2_takeTrain_28 (fun _ M3 => ?_)
    refine jo_aload 0 d_X2_takeTrain_31 rfl rfl ?_
    refine jo_iconst 2 d_X2_takeTrain_32 ?_
    refine jo_iload 1 d_X2_takeTrain_33 rfl rfl ?_
    refine jo_callV (st := []) (m_X2_passNewName hs n 2 y1 M3) ok_X2_passNewName (And.intro (Nat.le_of_ble_eq_true rfl) (Nat.le_of_ble_eq_true rfl)) lm_X2_97 in_X2_passNewName se_X2_passNewName rfl kc_12 rfl rfl (And.intro (Nat.zero_le _) (Nat.zero_le _)) rfl (Nat.le_of_ble_eq_true rfl) d_X2_takeTrain_34 (fun _ M5 => ?_)
    refine jo_aload 0 d_X2_takeTrain_37 rfl rfl ?_
    refine jo_getR (k := 0) cl_2 (Nat.le_of_ble_eq_true rfl) lk_X2_29 rfl kc_12 kr_12_0 d_X2_takeTrain_38 ?_
    refine jo_iconst 3 d_X2_takeTrain_41 ?_
    refine jo_callV (st := []) (m_X6_passWord hs n 3 M5) ok_X6_passWord (And.intro (Nat.le_of_ble_eq_true rfl) (Nat.le_of_ble_eq_true rfl)) lm_X2_104 in_X6_passWord se_X6_passWord rfl kc_9 rfl rfl (And.intro (Nat.zero_le _) (Nat.zero_le _)) rfl (Nat.le_of_ble_eq_true rfl) d_X2_takeTrain_42 (fun _ M7 => ?_)
    refine jo_aload 0 d_X2_takeTrain_45 rfl rfl ?_
    refine jo_getR (k := 1) cl_2 (Nat.le_of_ble_eq_true rfl) lk_X2_12 rfl kc_12 kr_12_1 d_X2_takeTrain_46 ?_
    refine jo_getR (k := 8) cl_4 (Nat.le_of_ble_eq_true rfl) lk_X2_107 rfl kc_13 (kr_Plan_8 kc_13) d_X2_takeTrain_49 ?_
    refine jo_iload 1 d_X2_takeTrain_52 rfl rfl ?_
    refine jo_aload 0 d_X2_takeTrain_53 rfl rfl ?_
    refine jo_getR (k := 1) cl_2 (Nat.le_of_ble_eq_true rfl) lk_X2_12 rfl kc_12 kr_12_1 d_X2_takeTrain_54 ?_
    refine jo_aload 0 d_X2_takeTrain_57 rfl rfl ?_
    refine jo_getR (k := 0) cl_2 (Nat.le_of_ble_eq_true rfl) lk_X2_29 rfl kc_12 kr_12_0 d_X2_takeTrain_58 ?_
    refine jo_iconst 1 d_X2_takeTrain_61 ?_
    refine jo_callV (st := [ji y1, .ref (13 + 4)]) (m_X4_numberAt hs n 13 1 kc_13 M7) ok_X4_numberAt (And.intro (Nat.le_of_ble_eq_true rfl) (Nat.le_of_ble_eq_true rfl)) lm_X2_111 in_X4_numberAt se_X4_numberAt rfl kc_13 rfl rfl (And.intro (Nat.zero_le _) (Nat.zero_le _)) rfl (Nat.le_of_ble_eq_true rfl) d_X2_takeTrain_62 (fun r8 M9 => ?_)
    refine jo_iast (N := 8) (ka_Plan_8 kc_13) d_X2_takeTrain_65 (fun M10 => ?_)
    refine jo_aload 0 d_X2_takeTrain_66 rfl rfl ?_
    refine jo_getR (k := 0) cl_2 (Nat.le_of_ble_eq_true rfl) lk_X2_29 rfl kc_12 kr_12_0 d_X2_takeTrain_67 ?_
    refine jo_callV (st := []) (m_X6_advance hs n M10) ok_X6_advance (And.intro (Nat.le_of_ble_eq_true rfl) (Nat.le_of_ble_eq_true rfl)) lm_X2_84 in_X6_advance se_X6_advance rfl kc_9 rfl rfl (And.intro (Nat.zero_le _) (Nat.zero_le _)) rfl (Nat.le_of_ble_eq_true rfl) d_X2_takeTrain_70 (fun _ M12 => ?_)
    refine jo_aload 0 d_X2_takeTrain_73 rfl rfl ?_
    refine jo_getR (k := 0) cl_2 (Nat.le_of_ble_eq_true rfl) lk_X2_29 rfl kc_12 kr_12_0 d_X2_takeTrain_74 ?_
    refine jo_iconst 4 d_X2_takeTrain_77 ?_
    refine jo_callV (st := []) (m_X6_passWord hs n 4 M12) ok_X6_passWord (And.intro (Nat.le_of_ble_eq_true rfl) (Nat.le_of_ble_eq_true rfl)) lm_X2_104 in_X6_passWord se_X6_passWord rfl kc_9 rfl rfl (And.intro (Nat.zero_le _) (Nat.zero_le _)) rfl (Nat.le_of_ble_eq_true rfl) d_X2_takeTrain_78 (fun _ M14 => ?_)
    refine jo_aload 0 d_X2_takeTrain_81 rfl rfl ?_
    refine jo_getR (k := 1) cl_2 (Nat.le_of_ble_eq_true rfl) lk_X2_12 rfl kc_12 kr_12_1 d_X2_takeTrain_82 ?_
    refine jo_getR (k := 9) cl_4 (Nat.le_of_ble_eq_true rfl) lk_X2_115 rfl kc_13 (kr_Plan_9 kc_13) d_X2_takeTrain_85 ?_
    refine jo_iload 1 d_X2_takeTrain_88 rfl rfl ?_
    refine jo_aload 0 d_X2_takeTrain_89 rfl rfl ?_
    refine jo_getR (k := 1) cl_2 (Nat.le_of_ble_eq_true rfl) lk_X2_12 rfl kc_12 kr_12_1 d_X2_takeTrain_90 ?_
    refine jo_aload 0 d_X2_takeTrain_93 rfl rfl ?_
    refine jo_getR (k := 0) cl_2 (Nat.le_of_ble_eq_true rfl) lk_X2_29 rfl kc_12 kr_12_0 d_X2_takeTrain_94 ?_
    refine jo_iconst 1 d_X2_takeTrain_97 ?_
    refine jo_callV (st := [ji y1, .ref (13 + 5)]) (m_X4_numberAt hs n 13 1 kc_13 M14) ok_X4_numberAt (And.intro (Nat.le_of_ble_eq_true rfl) (Nat.le_of_ble_eq_true rfl)) lm_X2_111 in_X4_numberAt se_X4_numberAt rfl kc_13 rfl rfl (And.intro (Nat.zero_le _) (Nat.zero_le _)) rfl (Nat.le_of_ble_eq_true rfl) d_X2_takeTrain_98 (fun r15 M16 => ?_)
    refine jo_iast (N := 8) (ka_Plan_9 kc_13) d_X2_takeTrain_101 (fun M17 => ?_)
    refine jo_aload 0 d_X2_takeTrain_102 rfl rfl ?_
    refine jo_getR (k := 1) cl_2 (Nat.le_of_ble_eq_true rfl) lk_X2_12 rfl kc_12 kr_12_1 d_X2_takeTrain_103 ?_
    refine jo_getR (k := 9) cl_4 (Nat.le_of_ble_eq_true rfl) lk_X2_115 rfl kc_13 (kr_Plan_9 kc_13) d_X2_takeTrain_106 ?_
    refine jo_iload 1 d_X2_takeTrain_109 rfl rfl ?_
    refine jo_iald (N := 8) (ka_Plan_9 kc_13) d_X2_takeTrain_110 ?_
    refine jo_aload 0 d_X2_takeTrain_111 rfl rfl ?_
    refine jo_getR (k := 1) cl_2 (Nat.le_of_ble_eq_true rfl) lk_X2_12 rfl kc_12 kr_12_1 d_X2_takeTrain_112 ?_
    refine jo_getR (k := 8) cl_4 (Nat.le_of_ble_eq_true rfl) lk_X2_107 rfl kc_13 (kr_Plan_8 kc_13) d_X2_takeTrain_115 ?_
    refine jo_iload 1 d_X2_takeTrain_118 rfl rfl ?_
    refine jo_iald (N := 8) (ka_Plan_8 kc_13) d_X2_takeTrain_119 ?_
    refine jo_icmp_ne 131 d_X2_takeTrain_120 (by decide) ?_ ?_
    · skip
      exact jO.sub (t_X2_takeTrain_L131 hs n y1 M17) (And.intro rfl (And.intro rfl True.intro))
    · skip
      refine jo_aload 0 d_X2_takeTrain_123 rfl rfl ?_
      refine jo_getR (k := 0) cl_2 (Nat.le_of_ble_eq_true rfl) lk_X2_29 rfl kc_12 kr_12_0 d_X2_takeTrain_124 ?_
      refine jo_iconst 5 d_X2_takeTrain_127 ?_
      refine jo_callV (st := []) (m_X6_fail hs n 5 M17) ok_X6_fail (And.intro (Nat.le_of_ble_eq_true rfl) (Nat.le_of_ble_eq_true rfl)) lm_X2_74 in_X6_fail se_X6_fail rfl kc_9 rfl rfl (And.intro (Nat.zero_le _) (Nat.zero_le _)) rfl (Nat.le_of_ble_eq_true rfl) d_X2_takeTrain_128 (fun _ M19 => ?_)
      exact jO.sub (t_X2_takeTrain_L131 hs n y1 M19) (And.intro rfl (And.intro rfl True.intro))
  · skip
    refine jo_aload 0 d_X2_takeTrain_14 rfl rfl ?_
    refine jo_getR (k := 0) cl_2 (Nat.le_of_ble_eq_true rfl) lk_X2_29 rfl kc_12 kr_12_0 d_X2_takeTrain_15 ?_
    refine jo_bipush 6 d_X2_takeTrain_18 (by decide) ?_
    refine jo_callV (st := []) (m_X6_fail hs n 6 M) ok_X6_fail (And.intro (Nat.le_of_ble_eq_true rfl) (Nat.le_of_ble_eq_true rfl)) lm_X2_74 in_X6_fail se_X6_fail rfl kc_9 rfl rfl (And.intro (Nat.zero_le _) (Nat.zero_le _)) rfl (Nat.le_of_ble_eq_true rfl) d_X2_takeTrain_20 (fun _ M21 => ?_)
    exact jo_vret rfl d_X2_takeTrain_23
theorem m_X2_takeTrain {g : JG} {ad : Nat → Nat} (hs : jStr g ad) (n : Nat) (M : JMem) : jMet g jNN ad jR D_X2_takeTrain yX2_takeTrain [.ref 12] M (f_X2_takeTrain n M) :=
  jMet.of (lo0 := [some (.ref 12), none]) (by decide) rfl rfl (Nat.le_of_ble_eq_true rfl) (And.intro rfl True.intro) (t_X2_takeTrain hs n M)
/-! CageLeave$Text.open(I)V -/
def D_X6_open : JD := (RX6, cX6_open, 2, none, "open", { frames := 3, cells := 0, slots := 0, locals := 66 })
theorem ok_X6_open : jOk D_X6_open yX6_open 1 := ⟨jTW_mem (k := 759) (by decide +kernel) rfl, jTW_mem (k := 137) (by decide +kernel) rfl, ⟨by decide +kernel, by decide +kernel⟩, by decide +kernel, rfl, rfl⟩
theorem in_X6_open : Cond.instanceMethod yX6_open ∈ jTW := jTW_mem (k := 757) (by decide +kernel) rfl
theorem se_X6_open : Cond.selects yX6_open.cls yX6_open yX6_open ∈ jTW := jTW_mem (k := 758) (by decide +kernel) rfl
theorem d_X6_open_0 : decode (D_X6_open).2.1 0 = .ok (.aload_n 0, 1) := by decide +kernel
theorem d_X6_open_1 : decode (D_X6_open).2.1 1 = .ok (.iload_n 1, 1) := by decide +kernel
theorem d_X6_open_2 : decode (D_X6_open).2.1 2 = .ok (.putfield 38, 3) := by decide +kernel
theorem d_X6_open_5 : decode (D_X6_open).2.1 5 = .ok (.aload_n 0, 1) := by decide +kernel
theorem d_X6_open_6 : decode (D_X6_open).2.1 6 = .ok (.iconst 0, 1) := by decide +kernel
theorem d_X6_open_7 : decode (D_X6_open).2.1 7 = .ok (.putfield 41, 3) := by decide +kernel
theorem d_X6_open_10 : decode (D_X6_open).2.1 10 = .ok (.aload_n 0, 1) := by decide +kernel
theorem d_X6_open_11 : decode (D_X6_open).2.1 11 = .ok (.iconst 0, 1) := by decide +kernel
theorem d_X6_open_12 : decode (D_X6_open).2.1 12 = .ok (.putfield 19, 3) := by decide +kernel
theorem d_X6_open_15 : decode (D_X6_open).2.1 15 = .ok (.aload_n 0, 1) := by decide +kernel
theorem d_X6_open_16 : decode (D_X6_open).2.1 16 = .ok (.iconst (-1), 1) := by decide +kernel
theorem d_X6_open_17 : decode (D_X6_open).2.1 17 = .ok (.putfield 22, 3) := by decide +kernel
theorem d_X6_open_20 : decode (D_X6_open).2.1 20 = .ok (.aload_n 0, 1) := by decide +kernel
theorem d_X6_open_21 : decode (D_X6_open).2.1 21 = .ok (.invokevirtual 63, 3) := by decide +kernel
theorem d_X6_open_24 : decode (D_X6_open).2.1 24 = .ok (.return_, 1) := by decide +kernel
def f_X6_open (n : Nat) (x1 : Int) (M : JMem) : Option (Int × JMem) := letm (jup M 9 8 x1) fun M1 => letm (jup M1 9 9 0) fun M2 => letm (jup M2 9 2 0) fun M3 => letm (jup M3 9 3 (-1)) fun M4 => bnd (f_X6_advance n M4) fun _ M6 => some (0, M6)
set_option maxRecDepth 4000 in
theorem t_X6_open {g : JG} {ad : Nat → Nat} (hs : jStr g ad) (n : Nat) (x1 : Int) (M : JMem) : jB g D_X6_open ad 0 [some (.ref 9), some (ji x1)] [] M (f_X6_open n x1 M) := by
  unfold f_X6_open
  refine jo_aload 0 d_X6_open_0 rfl rfl ?_
  refine jo_iload 1 d_X6_open_1 rfl rfl ?_
  refine jo_putI (k := 8) cl_6 (Nat.le_of_ble_eq_true rfl) lk_X6_38 rfl rfl kc_9 d_X6_open_2 (fun M1 => ?_)
  refine jo_aload 0 d_X6_open_5 rfl rfl ?_
  refine jo_iconst 0 d_X6_open_6 ?_
  refine jo_putI (k := 9) cl_6 (Nat.le_of_ble_eq_true rfl) lk_X6_41 rfl rfl kc_9 d_X6_open_7 (fun M2 => ?_)
  refine jo_aload 0 d_X6_open_10 rfl rfl ?_
  refine jo_iconst 0 d_X6_open_11 ?_
  refine jo_putI (k := 2) cl_6 (Nat.le_of_ble_eq_true rfl) lk_X6_19 rfl rfl kc_9 d_X6_open_12 (fun M3 => ?_)
  refine jo_aload 0 d_X6_open_15 rfl rfl ?_
  refine jo_iconst (-1) d_X6_open_16 ?_
  refine jo_putI (k := 3) cl_6 (Nat.le_of_ble_eq_true rfl) lk_X6_22 rfl rfl kc_9 d_X6_open_17 (fun M4 => ?_)
  refine jo_aload 0 d_X6_open_20 rfl rfl ?_
  refine jo_callV (st := []) (m_X6_advance hs n M4) ok_X6_advance (And.intro (Nat.le_of_ble_eq_true rfl) (Nat.le_of_ble_eq_true rfl)) lm_X6_63 in_X6_advance se_X6_advance rfl kc_9 rfl rfl (And.intro (Nat.zero_le _) (Nat.zero_le _)) rfl (Nat.le_of_ble_eq_true rfl) d_X6_open_21 (fun _ M6 => ?_)
  exact jo_vret rfl d_X6_open_24
theorem m_X6_open {g : JG} {ad : Nat → Nat} (hs : jStr g ad) (n : Nat) (x1 : Int) (M : JMem) : jMet g jNN ad jR D_X6_open yX6_open [.ref 9, ji x1] M (f_X6_open n x1 M) :=
  jMet.of (lo0 := [some (.ref 9), some (ji x1)]) (by decide) rfl rfl (Nat.le_of_ble_eq_true rfl) (And.intro rfl (And.intro rfl True.intro)) (t_X6_open hs n x1 M)
/-! CageLeave$Plan.clear()V -/
def D_X4_clear : JD := (RX4, cX4_clear, 1, none, "clear", { frames := 0, cells := 0, slots := 0, locals := 0 })
theorem ok_X4_clear : jOk D_X4_clear yX4_clear 0 := ⟨jTW_mem (k := 788) (by decide +kernel) rfl, jTW_mem (k := 143) (by decide +kernel) rfl, ⟨by decide +kernel, by decide +kernel⟩, by decide +kernel, rfl, rfl⟩
theorem in_X4_clear : Cond.instanceMethod yX4_clear ∈ jTW := jTW_mem (k := 786) (by decide +kernel) rfl
theorem se_X4_clear : Cond.selects yX4_clear.cls yX4_clear yX4_clear ∈ jTW := jTW_mem (k := 787) (by decide +kernel) rfl
theorem d_X4_clear_0 : decode (D_X4_clear).2.1 0 = .ok (.aload_n 0, 1) := by decide +kernel
theorem d_X4_clear_1 : decode (D_X4_clear).2.1 1 = .ok (.iconst 0, 1) := by decide +kernel
theorem d_X4_clear_2 : decode (D_X4_clear).2.1 2 = .ok (.putfield 9, 3) := by decide +kernel
theorem d_X4_clear_5 : decode (D_X4_clear).2.1 5 = .ok (.aload_n 0, 1) := by decide +kernel
theorem d_X4_clear_6 : decode (D_X4_clear).2.1 6 = .ok (.iconst 0, 1) := by decide +kernel
theorem d_X4_clear_7 : decode (D_X4_clear).2.1 7 = .ok (.putfield 15, 3) := by decide +kernel
theorem d_X4_clear_10 : decode (D_X4_clear).2.1 10 = .ok (.aload_n 0, 1) := by decide +kernel
theorem d_X4_clear_11 : decode (D_X4_clear).2.1 11 = .ok (.iconst 0, 1) := by decide +kernel
theorem d_X4_clear_12 : decode (D_X4_clear).2.1 12 = .ok (.putfield 18, 3) := by decide +kernel
theorem d_X4_clear_15 : decode (D_X4_clear).2.1 15 = .ok (.aload_n 0, 1) := by decide +kernel
theorem d_X4_clear_16 : decode (D_X4_clear).2.1 16 = .ok (.iconst 2, 1) := by decide +kernel
theorem d_X4_clear_17 : decode (D_X4_clear).2.1 17 = .ok (.putfield 21, 3) := by decide +kernel
theorem d_X4_clear_20 : decode (D_X4_clear).2.1 20 = .ok (.aload_n 0, 1) := by decide +kernel
theorem d_X4_clear_21 : decode (D_X4_clear).2.1 21 = .ok (.iconst 0, 1) := by decide +kernel
theorem d_X4_clear_22 : decode (D_X4_clear).2.1 22 = .ok (.putfield 24, 3) := by decide +kernel
theorem d_X4_clear_25 : decode (D_X4_clear).2.1 25 = .ok (.return_, 1) := by decide +kernel
def f_X4_clear (n : Nat) (th : Nat) (M : JMem) : Option (Int × JMem) := letm (jup M th 0 0) fun M1 => letm (jup M1 th 1 0) fun M2 => letm (jup M2 th 2 0) fun M3 => letm (jup M3 th 3 2) fun M4 => letm (jup M4 th 4 0) fun M5 => some (0, M5)
set_option maxRecDepth 4000 in
theorem t_X4_clear {g : JG} {ad : Nat → Nat} (hs : jStr g ad) (n : Nat) (th : Nat) (hth : jK jNN (0, 4) th) (M : JMem) : jB g D_X4_clear ad 0 [some (.ref th)] [] M (f_X4_clear n th M) := by
  unfold f_X4_clear
  refine jo_aload 0 d_X4_clear_0 rfl rfl ?_
  refine jo_iconst 0 d_X4_clear_1 ?_
  refine jo_putI (k := 0) cl_4 (Nat.le_of_ble_eq_true rfl) lk_X4_9 rfl rfl hth d_X4_clear_2 (fun M1 => ?_)
  refine jo_aload 0 d_X4_clear_5 rfl rfl ?_
  refine jo_iconst 0 d_X4_clear_6 ?_
  refine jo_putI (k := 1) cl_4 (Nat.le_of_ble_eq_true rfl) lk_X4_15 rfl rfl hth d_X4_clear_7 (fun M2 => ?_)
  refine jo_aload 0 d_X4_clear_10 rfl rfl ?_
  refine jo_iconst 0 d_X4_clear_11 ?_
  refine jo_putI (k := 2) cl_4 (Nat.le_of_ble_eq_true rfl) lk_X4_18 rfl rfl hth d_X4_clear_12 (fun M3 => ?_)
  refine jo_aload 0 d_X4_clear_15 rfl rfl ?_
  refine jo_iconst 2 d_X4_clear_16 ?_
  refine jo_putI (k := 3) cl_4 (Nat.le_of_ble_eq_true rfl) lk_X4_21 rfl rfl hth d_X4_clear_17 (fun M4 => ?_)
  refine jo_aload 0 d_X4_clear_20 rfl rfl ?_
  refine jo_iconst 0 d_X4_clear_21 ?_
  refine jo_putI (k := 4) cl_4 (Nat.le_of_ble_eq_true rfl) lk_X4_24 rfl rfl hth d_X4_clear_22 (fun M5 => ?_)
  exact jo_vret rfl d_X4_clear_25
theorem m_X4_clear {g : JG} {ad : Nat → Nat} (hs : jStr g ad) (n : Nat) (th : Nat) (hth : jK jNN (0, 4) th) (M : JMem) : jMet g jNN ad jR D_X4_clear yX4_clear [.ref th] M (f_X4_clear n th M) :=
  jMet.of (lo0 := [some (.ref th)]) (by decide) rfl rfl (Nat.le_of_ble_eq_true rfl) (And.intro rfl True.intro) (t_X4_clear hs n th hth M)
/-! CageLeave$Text.wordAt()I -/
def D_X6_wordAt : JD := (RX6, cX6_wordAt, 1, some .int, "wordAt", { frames := 0, cells := 0, slots := 0, locals := 0 })
theorem ok_X6_wordAt : jOk D_X6_wordAt yX6_wordAt 0 := ⟨jTW_mem (k := 800) (by decide +kernel) rfl, jTW_mem (k := 137) (by decide +kernel) rfl, ⟨by decide +kernel, by decide +kernel⟩, by decide +kernel, rfl, rfl⟩
theorem in_X6_wordAt : Cond.instanceMethod yX6_wordAt ∈ jTW := jTW_mem (k := 798) (by decide +kernel) rfl
theorem se_X6_wordAt : Cond.selects yX6_wordAt.cls yX6_wordAt yX6_wordAt ∈ jTW := jTW_mem (k := 799) (by decide +kernel) rfl
theorem d_X6_wordAt_0 : decode (D_X6_wordAt).2.1 0 = .ok (.aload_n 0, 1) := by decide +kernel
theorem d_X6_wordAt_1 : decode (D_X6_wordAt).2.1 1 = .ok (.getfield 25, 3) := by decide +kernel
theorem d_X6_wordAt_4 : decode (D_X6_wordAt).2.1 4 = .ok (.iconst 1, 1) := by decide +kernel
theorem d_X6_wordAt_5 : decode (D_X6_wordAt).2.1 5 = .ok (.if_icmp .ne 10, 3) := by decide +kernel
theorem d_X6_wordAt_8 : decode (D_X6_wordAt).2.1 8 = .ok (.aload_n 0, 1) := by decide +kernel
theorem d_X6_wordAt_9 : decode (D_X6_wordAt).2.1 9 = .ok (.getfield 31, 3) := by decide +kernel
theorem d_X6_wordAt_12 : decode (D_X6_wordAt).2.1 12 = .ok (.goto 4, 3) := by decide +kernel
theorem d_X6_wordAt_15 : decode (D_X6_wordAt).2.1 15 = .ok (.iconst (-1), 1) := by decide +kernel
theorem d_X6_wordAt_16 : decode (D_X6_wordAt).2.1 16 = .ok (.ireturn, 1) := by decide +kernel
def f_X6_wordAt (n : Nat) (M : JMem) : Option (Int × JMem) := if jw (M 9 4) = jw 1 then (some ((M 9 6), M)) else (some ((-1), M))
set_option maxRecDepth 4000 in
theorem t_X6_wordAt {g : JG} {ad : Nat → Nat} (hs : jStr g ad) (n : Nat) (M : JMem) : jB g D_X6_wordAt ad 0 [some (.ref 9)] [] M (f_X6_wordAt n M) := by
  unfold f_X6_wordAt
  refine jo_aload 0 d_X6_wordAt_0 rfl rfl ?_
  refine jo_getI (k := 4) cl_6 (Nat.le_of_ble_eq_true rfl) lk_X6_25 (Or.inl rfl) kc_9 d_X6_wordAt_1 ?_
  refine jo_iconst 1 d_X6_wordAt_4 ?_
  refine jo_icmp_ne 15 d_X6_wordAt_5 (by decide) ?_ ?_
  · skip
    refine jo_iconst (-1) d_X6_wordAt_15 ?_
    exact jo_iret rfl d_X6_wordAt_16
  · skip
    refine jo_aload 0 d_X6_wordAt_8 rfl rfl ?_
    refine jo_getI (k := 6) cl_6 (Nat.le_of_ble_eq_true rfl) lk_X6_31 (Or.inl rfl) kc_9 d_X6_wordAt_9 ?_
    refine jo_goto 16 d_X6_wordAt_12 (by decide) ?_
    exact jo_iret rfl d_X6_wordAt_16
theorem m_X6_wordAt {g : JG} {ad : Nat → Nat} (hs : jStr g ad) (n : Nat) (M : JMem) : jMet g jNN ad jR D_X6_wordAt yX6_wordAt [.ref 9] M (f_X6_wordAt n M) :=
  jMet.of (lo0 := [some (.ref 9)]) (by decide) rfl rfl (Nat.le_of_ble_eq_true rfl) (And.intro rfl True.intro) (t_X6_wordAt hs n M)
/-! CageLeave$Text.passSign(C)V -/
def D_X6_passSign : JD := (RX6, cX6_passSign, 2, none, "passSign", { frames := 3, cells := 0, slots := 0, locals := 66 })
theorem ok_X6_passSign : jOk D_X6_passSign yX6_passSign 1 := ⟨jTW_mem (k := 871) (by decide +kernel) rfl, jTW_mem (k := 137) (by decide +kernel) rfl, ⟨by decide +kernel, by decide +kernel⟩, by decide +kernel, rfl, rfl⟩
theorem in_X6_passSign : Cond.instanceMethod yX6_passSign ∈ jTW := jTW_mem (k := 869) (by decide +kernel) rfl
theorem se_X6_passSign : Cond.selects yX6_passSign.cls yX6_passSign yX6_passSign ∈ jTW := jTW_mem (k := 870) (by decide +kernel) rfl
theorem d_X6_passSign_0 : decode (D_X6_passSign).2.1 0 = .ok (.aload_n 0, 1) := by decide +kernel
theorem d_X6_passSign_1 : decode (D_X6_passSign).2.1 1 = .ok (.getfield 25, 3) := by decide +kernel
theorem d_X6_passSign_4 : decode (D_X6_passSign).2.1 4 = .ok (.iconst 5, 1) := by decide +kernel
theorem d_X6_passSign_5 : decode (D_X6_passSign).2.1 5 = .ok (.if_icmp .ne 18, 3) := by decide +kernel
theorem d_X6_passSign_8 : decode (D_X6_passSign).2.1 8 = .ok (.aload_n 0, 1) := by decide +kernel
theorem d_X6_passSign_9 : decode (D_X6_passSign).2.1 9 = .ok (.getfield 31, 3) := by decide +kernel
theorem d_X6_passSign_12 : decode (D_X6_passSign).2.1 12 = .ok (.iload_n 1, 1) := by decide +kernel
theorem d_X6_passSign_13 : decode (D_X6_passSign).2.1 13 = .ok (.if_icmp .ne 10, 3) := by decide +kernel
theorem d_X6_passSign_16 : decode (D_X6_passSign).2.1 16 = .ok (.aload_n 0, 1) := by decide +kernel
theorem d_X6_passSign_17 : decode (D_X6_passSign).2.1 17 = .ok (.invokevirtual 63, 3) := by decide +kernel
theorem d_X6_passSign_20 : decode (D_X6_passSign).2.1 20 = .ok (.goto 8, 3) := by decide +kernel
theorem d_X6_passSign_23 : decode (D_X6_passSign).2.1 23 = .ok (.aload_n 0, 1) := by decide +kernel
theorem d_X6_passSign_24 : decode (D_X6_passSign).2.1 24 = .ok (.iconst 2, 1) := by decide +kernel
theorem d_X6_passSign_25 : decode (D_X6_passSign).2.1 25 = .ok (.invokevirtual 70, 3) := by decide +kernel
theorem d_X6_passSign_28 : decode (D_X6_passSign).2.1 28 = .ok (.return_, 1) := by decide +kernel
def f_X6_passSign_L23 (n : Nat) (M : JMem) : Option (Int × JMem) := bnd (f_X6_fail n 2 M) fun _ M2 => some (0, M2)
set_option maxRecDepth 4000 in
theorem t_X6_passSign_L23 {g : JG} {ad : Nat → Nat} (hs : jStr g ad) (n : Nat) (M : JMem) : jB g D_X6_passSign ad 23 [some (.ref 9), none] [] M (f_X6_passSign_L23 n M) := by
  unfold f_X6_passSign_L23
  refine jo_aload 0 d_X6_passSign_23 rfl rfl ?_
  refine jo_iconst 2 d_X6_passSign_24 ?_
  refine jo_callV (st := []) (m_X6_fail hs n 2 M) ok_X6_fail (And.intro (Nat.le_of_ble_eq_true rfl) (Nat.le_of_ble_eq_true rfl)) lm_X6_70 in_X6_fail se_X6_fail rfl kc_9 rfl rfl (And.intro (Nat.zero_le _) (Nat.zero_le _)) rfl (Nat.le_of_ble_eq_true rfl) d_X6_passSign_25 (fun _ M2 => ?_)
  exact jo_vret rfl d_X6_passSign_28
def f_X6_passSign (n : Nat) (x1 : Int) (M : JMem) : Option (Int × JMem) := if jw (M 9 4) = jw 5 then (if jw (M 9 6) = jw x1 then (bnd (f_X6_advance n M) fun _ M2 => some (0, M2)) else (f_X6_passSign_L23 n M)) else (f_X6_passSign_L23 n M)
set_option maxRecDepth 4000 in
theorem t_X6_passSign {g : JG} {ad : Nat → Nat} (hs : jStr g ad) (n : Nat) (x1 : Int) (M : JMem) : jB g D_X6_passSign ad 0 [some (.ref 9), some (ji x1)] [] M (f_X6_passSign n x1 M) := by
  unfold f_X6_passSign
  refine jo_aload 0 d_X6_passSign_0 rfl rfl ?_
  refine jo_getI (k := 4) cl_6 (Nat.le_of_ble_eq_true rfl) lk_X6_25 (Or.inl rfl) kc_9 d_X6_passSign_1 ?_
  refine jo_iconst 5 d_X6_passSign_4 ?_
  refine jo_icmp_ne 23 d_X6_passSign_5 (by decide) ?_ ?_
  · skip
    exact jO.sub (t_X6_passSign_L23 hs n M) (And.intro rfl True.intro)
  · skip
    refine jo_aload 0 d_X6_passSign_8 rfl rfl ?_
    refine jo_getI (k := 6) cl_6 (Nat.le_of_ble_eq_true rfl) lk_X6_31 (Or.inl rfl) kc_9 d_X6_passSign_9 ?_
    refine jo_iload 1 d_X6_passSign_12 rfl rfl ?_
    refine jo_icmp_ne 23 d_X6_passSign_13 (by decide) ?_ ?_
    · skip
      exact jO.sub (t_X6_passSign_L23 hs n M) (And.intro rfl True.intro)
    · skip
      refine jo_aload 0 d_X6_passSign_16 rfl rfl ?_
      refine jo_callV (st := []) (m_X6_advance hs n M) ok_X6_advance (And.intro (Nat.le_of_ble_eq_true rfl) (Nat.le_of_ble_eq_true rfl)) lm_X6_63 in_X6_advance se_X6_advance rfl kc_9 rfl rfl (And.intro (Nat.zero_le _) (Nat.zero_le _)) rfl (Nat.le_of_ble_eq_true rfl) d_X6_passSign_17 (fun _ M2 => ?_)
      refine jo_goto 28 d_X6_passSign_20 (by decide) ?_
      exact jo_vret rfl d_X6_passSign_28
theorem m_X6_passSign {g : JG} {ad : Nat → Nat} (hs : jStr g ad) (n : Nat) (x1 : Int) (M : JMem) : jMet g jNN ad jR D_X6_passSign yX6_passSign [.ref 9, ji x1] M (f_X6_passSign n x1 M) :=
  jMet.of (lo0 := [some (.ref 9), some (ji x1)]) (by decide) rfl rfl (Nat.le_of_ble_eq_true rfl) (And.intro rfl (And.intro rfl True.intro)) (t_X6_passSign hs n x1 M)
/-! CageLeave$ParkReader.takesAll(I)Z -/
def D_X2_takesAll : JD := (RX2, cX2_takesAll, 3, some .boolean, "takesAll", { frames := 6, cells := 0, slots := 0, locals := 134 })
theorem ok_X2_takesAll : jOk D_X2_takesAll yX2_takesAll 1 := ⟨jTW_mem (k := 755) (by decide +kernel) rfl, jTW_mem (k := 142) (by decide +kernel) rfl, ⟨by decide +kernel, by decide +kernel⟩, by decide +kernel, rfl, rfl⟩
theorem in_X2_takesAll : Cond.instanceMethod yX2_takesAll ∈ jTW := jTW_mem (k := 753) (by decide +kernel) rfl
theorem se_X2_takesAll : Cond.selects yX2_takesAll.cls yX2_takesAll yX2_takesAll ∈ jTW := jTW_mem (k := 754) (by decide +kernel) rfl
theorem lm_X2_77 : Cond.methodLink RX2 77 yX6_passSign ∈ jTW := jTW_mem (k := 868) (by decide +kernel) rfl
theorem lk_X2_45 : Cond.fieldLink RX2 45 (TX6 2).1 (TX6 2).2.1 (TX6 2).2.2.1 ∈ jTW := jTW_mem (k := 248) (by decide +kernel) rfl
theorem lm_X2_52 : Cond.methodLink RX2 52 yX6_wordAt ∈ jTW := jTW_mem (k := 797) (by decide +kernel) rfl
theorem lm_X2_56 : Cond.methodLink RX2 56 yX2_takeOdds ∈ jTW := jTW_mem (k := 801) (by decide +kernel) rfl
theorem lm_X2_59 : Cond.methodLink RX2 59 yX2_takePlace ∈ jTW := jTW_mem (k := 811) (by decide +kernel) rfl
theorem lm_X2_62 : Cond.methodLink RX2 62 yX2_takeTrain ∈ jTW := jTW_mem (k := 827) (by decide +kernel) rfl
theorem lm_X2_65 : Cond.methodLink RX2 65 yX2_takeBeast ∈ jTW := jTW_mem (k := 849) (by decide +kernel) rfl
theorem lm_X2_68 : Cond.methodLink RX2 68 yX2_takeHunts ∈ jTW := jTW_mem (k := 857) (by decide +kernel) rfl
theorem lm_X2_71 : Cond.methodLink RX2 71 yX2_takeTicket ∈ jTW := jTW_mem (k := 864) (by decide +kernel) rfl
theorem lm_X2_81 : Cond.methodLink RX2 81 yX1_cageAll ∈ jTW := jTW_mem (k := 872) (by decide +kernel) rfl
theorem lm_X2_33 : Cond.methodLink RX2 33 yX6_open ∈ jTW := jTW_mem (k := 756) (by decide +kernel) rfl
theorem lm_X2_39 : Cond.methodLink RX2 39 yX4_clear ∈ jTW := jTW_mem (k := 785) (by decide +kernel) rfl
theorem lm_X2_42 : Cond.methodLink RX2 42 yX1_clear ∈ jTW := jTW_mem (k := 789) (by decide +kernel) rfl
theorem d_X2_takesAll_0 : decode (D_X2_takesAll).2.1 0 = .ok (.aload_n 0, 1) := by decide +kernel
theorem d_X2_takesAll_1 : decode (D_X2_takesAll).2.1 1 = .ok (.getfield 29, 3) := by decide +kernel
theorem d_X2_takesAll_4 : decode (D_X2_takesAll).2.1 4 = .ok (.iload_n 1, 1) := by decide +kernel
theorem d_X2_takesAll_5 : decode (D_X2_takesAll).2.1 5 = .ok (.invokevirtual 33, 3) := by decide +kernel
theorem d_X2_takesAll_8 : decode (D_X2_takesAll).2.1 8 = .ok (.aload_n 0, 1) := by decide +kernel
theorem d_X2_takesAll_9 : decode (D_X2_takesAll).2.1 9 = .ok (.getfield 12, 3) := by decide +kernel
theorem d_X2_takesAll_12 : decode (D_X2_takesAll).2.1 12 = .ok (.invokevirtual 39, 3) := by decide +kernel
theorem d_X2_takesAll_15 : decode (D_X2_takesAll).2.1 15 = .ok (.aload_n 0, 1) := by decide +kernel
theorem d_X2_takesAll_16 : decode (D_X2_takesAll).2.1 16 = .ok (.getfield 21, 3) := by decide +kernel
theorem d_X2_takesAll_19 : decode (D_X2_takesAll).2.1 19 = .ok (.aload_n 0, 1) := by decide +kernel
theorem d_X2_takesAll_20 : decode (D_X2_takesAll).2.1 20 = .ok (.getfield 12, 3) := by decide +kernel
theorem d_X2_takesAll_23 : decode (D_X2_takesAll).2.1 23 = .ok (.invokevirtual 42, 3) := by decide +kernel
theorem d_X2_takesAll_26 : decode (D_X2_takesAll).2.1 26 = .ok (.aload_n 0, 1) := by decide +kernel
theorem d_X2_takesAll_27 : decode (D_X2_takesAll).2.1 27 = .ok (.iconst 0, 1) := by decide +kernel
theorem d_X2_takesAll_28 : decode (D_X2_takesAll).2.1 28 = .ok (.putfield 25, 3) := by decide +kernel
theorem d_X2_takesAll_31 : decode (D_X2_takesAll).2.1 31 = .ok (.iconst 0, 1) := by decide +kernel
theorem d_X2_takesAll_32 : decode (D_X2_takesAll).2.1 32 = .ok (.istore_n 2, 1) := by decide +kernel
theorem d_X2_takesAll_33 : decode (D_X2_takesAll).2.1 33 = .ok (.iload_n 2, 1) := by decide +kernel
theorem d_X2_takesAll_34 : decode (D_X2_takesAll).2.1 34 = .ok (.iload_n 1, 1) := by decide +kernel
theorem d_X2_takesAll_35 : decode (D_X2_takesAll).2.1 35 = .ok (.if_icmp .gt 166, 3) := by decide +kernel
theorem d_X2_takesAll_38 : decode (D_X2_takesAll).2.1 38 = .ok (.aload_n 0, 1) := by decide +kernel
theorem d_X2_takesAll_39 : decode (D_X2_takesAll).2.1 39 = .ok (.getfield 29, 3) := by decide +kernel
theorem d_X2_takesAll_42 : decode (D_X2_takesAll).2.1 42 = .ok (.getfield 45, 3) := by decide +kernel
theorem d_X2_takesAll_45 : decode (D_X2_takesAll).2.1 45 = .ok (.ifCond .ne 156, 3) := by decide +kernel
theorem d_X2_takesAll_48 : decode (D_X2_takesAll).2.1 48 = .ok (.aload_n 0, 1) := by decide +kernel
theorem d_X2_takesAll_49 : decode (D_X2_takesAll).2.1 49 = .ok (.getfield 29, 3) := by decide +kernel
theorem d_X2_takesAll_52 : decode (D_X2_takesAll).2.1 52 = .ok (.getfield 49, 3) := by decide +kernel
theorem d_X2_takesAll_55 : decode (D_X2_takesAll).2.1 55 = .ok (.ifCond .eq 146, 3) := by decide +kernel
theorem d_X2_takesAll_58 : decode (D_X2_takesAll).2.1 58 = .ok (.aload_n 0, 1) := by decide +kernel
theorem d_X2_takesAll_59 : decode (D_X2_takesAll).2.1 59 = .ok (.getfield 29, 3) := by decide +kernel
theorem d_X2_takesAll_62 : decode (D_X2_takesAll).2.1 62 = .ok (.invokevirtual 52, 3) := by decide +kernel
theorem d_X2_takesAll_65 : decode (D_X2_takesAll).2.1 65 = .ok (.tableswitch 113 0 13 #[71, 78, 85, 113, 113, 113, 113, 113, 92, 113, 113, 113, 99, 106], 71) := by decide +kernel
theorem d_X2_takesAll_136 : decode (D_X2_takesAll).2.1 136 = .ok (.aload_n 0, 1) := by decide +kernel
theorem d_X2_takesAll_137 : decode (D_X2_takesAll).2.1 137 = .ok (.invokevirtual 56, 3) := by decide +kernel
theorem d_X2_takesAll_140 : decode (D_X2_takesAll).2.1 140 = .ok (.goto 46, 3) := by decide +kernel
theorem d_X2_takesAll_143 : decode (D_X2_takesAll).2.1 143 = .ok (.aload_n 0, 1) := by decide +kernel
theorem d_X2_takesAll_144 : decode (D_X2_takesAll).2.1 144 = .ok (.invokevirtual 59, 3) := by decide +kernel
theorem d_X2_takesAll_147 : decode (D_X2_takesAll).2.1 147 = .ok (.goto 39, 3) := by decide +kernel
theorem d_X2_takesAll_150 : decode (D_X2_takesAll).2.1 150 = .ok (.aload_n 0, 1) := by decide +kernel
theorem d_X2_takesAll_151 : decode (D_X2_takesAll).2.1 151 = .ok (.invokevirtual 62, 3) := by decide +kernel
theorem d_X2_takesAll_154 : decode (D_X2_takesAll).2.1 154 = .ok (.goto 32, 3) := by decide +kernel
theorem d_X2_takesAll_157 : decode (D_X2_takesAll).2.1 157 = .ok (.aload_n 0, 1) := by decide +kernel
theorem d_X2_takesAll_158 : decode (D_X2_takesAll).2.1 158 = .ok (.invokevirtual 65, 3) := by decide +kernel
theorem d_X2_takesAll_161 : decode (D_X2_takesAll).2.1 161 = .ok (.goto 25, 3) := by decide +kernel
theorem d_X2_takesAll_164 : decode (D_X2_takesAll).2.1 164 = .ok (.aload_n 0, 1) := by decide +kernel
theorem d_X2_takesAll_165 : decode (D_X2_takesAll).2.1 165 = .ok (.invokevirtual 68, 3) := by decide +kernel
theorem d_X2_takesAll_168 : decode (D_X2_takesAll).2.1 168 = .ok (.goto 18, 3) := by decide +kernel
theorem d_X2_takesAll_171 : decode (D_X2_takesAll).2.1 171 = .ok (.aload_n 0, 1) := by decide +kernel
theorem d_X2_takesAll_172 : decode (D_X2_takesAll).2.1 172 = .ok (.invokevirtual 71, 3) := by decide +kernel
theorem d_X2_takesAll_175 : decode (D_X2_takesAll).2.1 175 = .ok (.goto 11, 3) := by decide +kernel
theorem d_X2_takesAll_178 : decode (D_X2_takesAll).2.1 178 = .ok (.aload_n 0, 1) := by decide +kernel
theorem d_X2_takesAll_179 : decode (D_X2_takesAll).2.1 179 = .ok (.getfield 29, 3) := by decide +kernel
theorem d_X2_takesAll_182 : decode (D_X2_takesAll).2.1 182 = .ok (.iconst 2, 1) := by decide +kernel
theorem d_X2_takesAll_183 : decode (D_X2_takesAll).2.1 183 = .ok (.invokevirtual 74, 3) := by decide +kernel
theorem d_X2_takesAll_186 : decode (D_X2_takesAll).2.1 186 = .ok (.aload_n 0, 1) := by decide +kernel
theorem d_X2_takesAll_187 : decode (D_X2_takesAll).2.1 187 = .ok (.getfield 29, 3) := by decide +kernel
theorem d_X2_takesAll_190 : decode (D_X2_takesAll).2.1 190 = .ok (.bipush 59, 2) := by decide +kernel
theorem d_X2_takesAll_192 : decode (D_X2_takesAll).2.1 192 = .ok (.invokevirtual 77, 3) := by decide +kernel
theorem d_X2_takesAll_195 : decode (D_X2_takesAll).2.1 195 = .ok (.iinc 2 1, 3) := by decide +kernel
theorem d_X2_takesAll_198 : decode (D_X2_takesAll).2.1 198 = .ok (.goto (-165), 3) := by decide +kernel
theorem d_X2_takesAll_201 : decode (D_X2_takesAll).2.1 201 = .ok (.aload_n 0, 1) := by decide +kernel
theorem d_X2_takesAll_202 : decode (D_X2_takesAll).2.1 202 = .ok (.getfield 21, 3) := by decide +kernel
theorem d_X2_takesAll_205 : decode (D_X2_takesAll).2.1 205 = .ok (.aload_n 0, 1) := by decide +kernel
theorem d_X2_takesAll_206 : decode (D_X2_takesAll).2.1 206 = .ok (.getfield 12, 3) := by decide +kernel
theorem d_X2_takesAll_209 : decode (D_X2_takesAll).2.1 209 = .ok (.invokevirtual 81, 3) := by decide +kernel
theorem d_X2_takesAll_212 : decode (D_X2_takesAll).2.1 212 = .ok (.aload_n 0, 1) := by decide +kernel
theorem d_X2_takesAll_213 : decode (D_X2_takesAll).2.1 213 = .ok (.getfield 29, 3) := by decide +kernel
theorem d_X2_takesAll_216 : decode (D_X2_takesAll).2.1 216 = .ok (.getfield 45, 3) := by decide +kernel
theorem d_X2_takesAll_219 : decode (D_X2_takesAll).2.1 219 = .ok (.ifCond .ne 7, 3) := by decide +kernel
theorem d_X2_takesAll_222 : decode (D_X2_takesAll).2.1 222 = .ok (.iconst 1, 1) := by decide +kernel
theorem d_X2_takesAll_223 : decode (D_X2_takesAll).2.1 223 = .ok (.goto 4, 3) := by decide +kernel
theorem d_X2_takesAll_226 : decode (D_X2_takesAll).2.1 226 = .ok (.iconst 0, 1) := by decide +kernel
theorem d_X2_takesAll_227 : decode (D_X2_takesAll).2.1 227 = .ok (.ireturn, 1) := by decide +kernel
def f_X2_takesAll_L186 (n : Nat) (r33 : Int → Int → JMem → Option (Int × JMem)) (v1 v2 : Int) (M : JMem) : Option (Int × JMem) := bnd (f_X6_passSign n 59 M) fun _ M2 => letv (v2 + 1) fun y3 => r33 v1 y3 M2
set_option maxRecDepth 4000 in
theorem t_X2_takesAll_L186 {g : JG} {ad : Nat → Nat} (hs : jStr g ad) (n : Nat) (r33 : Int → Int → JMem → Option (Int × JMem)) (hr33 : ∀ (v1 v2 : Int) (M : JMem), jB g D_X2_takesAll ad 33 [some (.ref 12), some (ji v1), some (ji v2)] [] M (r33 v1 v2 M)) (v1 v2 : Int) (M : JMem) : jB g D_X2_takesAll ad 186 [some (.ref 12), some (ji v1), some (ji v2)] [] M (f_X2_takesAll_L186 n r33 v1 v2 M) := by
  unfold f_X2_takesAll_L186
  refine jo_aload 0 d_X2_takesAll_186 rfl rfl ?_
  refine jo_getR (k := 0) cl_2 (Nat.le_of_ble_eq_true rfl) lk_X2_29 rfl kc_12 kr_12_0 d_X2_takesAll_187 ?_
  refine jo_bipush 59 d_X2_takesAll_190 (by decide) ?_
  refine jo_callV (st := []) (m_X6_passSign hs n 59 M) ok_X6_passSign (And.intro (Nat.le_of_ble_eq_true rfl) (Nat.le_of_ble_eq_true rfl)) lm_X2_77 in_X6_passSign se_X6_passSign rfl kc_9 rfl rfl (And.intro (Nat.zero_le _) (Nat.zero_le _)) rfl (Nat.le_of_ble_eq_true rfl) d_X2_takesAll_192 (fun _ M2 => ?_)
  refine jo_iinc 2 d_X2_takesAll_195 rfl (Nat.le_of_ble_eq_true rfl) (fun y3 => ?_)
  refine jo_goto 33 d_X2_takesAll_198 (by decide) ?_
  exact jO.sub (hr33 v1 y3 M2) (And.intro rfl (And.intro rfl (And.intro rfl True.intro)))
def f_X2_takesAll_L178 (n : Nat) (r33 : Int → Int → JMem → Option (Int × JMem)) (v1 v2 : Int) (M : JMem) : Option (Int × JMem) := bnd (f_X6_fail n 2 M) fun _ M2 => f_X2_takesAll_L186 n r33 v1 v2 M2
set_option maxRecDepth 4000 in
theorem t_X2_takesAll_L178 {g : JG} {ad : Nat → Nat} (hs : jStr g ad) (n : Nat) (r33 : Int → Int → JMem → Option (Int × JMem)) (hr33 : ∀ (v1 v2 : Int) (M : JMem), jB g D_X2_takesAll ad 33 [some (.ref 12), some (ji v1), some (ji v2)] [] M (r33 v1 v2 M)) (v1 v2 : Int) (M : JMem) : jB g D_X2_takesAll ad 178 [some (.ref 12), some (ji v1), some (ji v2)] [] M (f_X2_takesAll_L178 n r33 v1 v2 M) := by
  unfold f_X2_takesAll_L178
  refine jo_aload 0 d_X2_takesAll_178 rfl rfl ?_
  refine jo_getR (k := 0) cl_2 (Nat.le_of_ble_eq_true rfl) lk_X2_29 rfl kc_12 kr_12_0 d_X2_takesAll_179 ?_
  refine jo_iconst 2 d_X2_takesAll_182 ?_
  refine jo_callV (st := []) (m_X6_fail hs n 2 M) ok_X6_fail (And.intro (Nat.le_of_ble_eq_true rfl) (Nat.le_of_ble_eq_true rfl)) lm_X2_74 in_X6_fail se_X6_fail rfl kc_9 rfl rfl (And.intro (Nat.zero_le _) (Nat.zero_le _)) rfl (Nat.le_of_ble_eq_true rfl) d_X2_takesAll_183 (fun _ M2 => ?_)
  exact jO.sub (t_X2_takesAll_L186 hs n r33 hr33 v1 v2 M2) (And.intro rfl (And.intro rfl (And.intro rfl True.intro)))
def f_X2_takesAll_L201 (n : Nat) (M : JMem) : Option (Int × JMem) := bnd (f_X1_cageAll n 25 13 M) fun _ M2 => if jw (M2 9 2) = 0 then (some (1, M2)) else (some (0, M2))
set_option maxRecDepth 4000 in
theorem t_X2_takesAll_L201 {g : JG} {ad : Nat → Nat} (hs : jStr g ad) (n : Nat) (M : JMem) : jB g D_X2_takesAll ad 201 [some (.ref 12), none, none] [] M (f_X2_takesAll_L201 n M) := by
  unfold f_X2_takesAll_L201
  refine jo_aload 0 d_X2_takesAll_201 rfl rfl ?_
  refine jo_getR (k := 2) cl_2 (Nat.le_of_ble_eq_true rfl) lk_X2_21 rfl kc_12 kr_12_2 d_X2_takesAll_202 ?_
  refine jo_aload 0 d_X2_takesAll_205 rfl rfl ?_
  refine jo_getR (k := 1) cl_2 (Nat.le_of_ble_eq_true rfl) lk_X2_12 rfl kc_12 kr_12_1 d_X2_takesAll_206 ?_
  refine jo_callV (st := []) (m_X1_cageAll hs n 25 13 kc_25 kc_13 M) ok_X1_cageAll (And.intro (Nat.le_of_ble_eq_true rfl) (Nat.le_of_ble_eq_true rfl)) lm_X2_81 in_X1_cageAll se_X1_cageAll rfl kc_25 rfl rfl (And.intro (Nat.zero_le _) (Nat.zero_le _)) rfl (Nat.le_of_ble_eq_true rfl) d_X2_takesAll_209 (fun _ M2 => ?_)
  refine jo_aload 0 d_X2_takesAll_212 rfl rfl ?_
  refine jo_getR (k := 0) cl_2 (Nat.le_of_ble_eq_true rfl) lk_X2_29 rfl kc_12 kr_12_0 d_X2_takesAll_213 ?_
  refine jo_getI (k := 2) cl_6 (Nat.le_of_ble_eq_true rfl) lk_X2_45 (Or.inl rfl) kc_9 d_X2_takesAll_216 ?_
  refine jo_if_ne 226 d_X2_takesAll_219 (by decide) ?_ ?_
  · skip
    refine jo_iconst 0 d_X2_takesAll_226 ?_
    exact jo_zret rfl (by decide) d_X2_takesAll_227
  · skip
    refine jo_iconst 1 d_X2_takesAll_222 ?_
    refine jo_goto 227 d_X2_takesAll_223 (by decide) ?_
    exact jo_zret rfl (by decide) d_X2_takesAll_227
def f_X2_takesAll_L33 (n : Nat) : Nat → Int → Int → JMem → Option (Int × JMem)
  | 0, _, _, _ => none
  | k + 1, v1, v2, M => if jw v1 < jw v2 then (f_X2_takesAll_L201 n M) else (if jw (M 9 2) = 0 then (if jw (M 9 4) = 0 then (f_X2_takesAll_L201 n M) else (bnd (f_X6_wordAt n M) fun r1 M2 => if jw r1 = 0 then (bnd (f_X2_takeOdds n M2) fun _ M5 => f_X2_takesAll_L186 n (f_X2_takesAll_L33 n k) v1 v2 M5) else (if jw r1 = 1 then (bnd (f_X2_takePlace n M2) fun _ M7 => f_X2_takesAll_L186 n (f_X2_takesAll_L33 n k) v1 v2 M7) else (if jw r1 = 2 then (bnd (f_X2_takeTrain n M2) fun _ M9 => f_X2_takesAll_L186 n (f_X2_takesAll_L33 n k) v1 v2 M9) else (if jw r1 = 8 then (bnd (f_X2_takeBeast n M2) fun _ M11 => f_X2_takesAll_L186 n (f_X2_takesAll_L33 n k) v1 v2 M11) else (if jw r1 = 12 then (bnd (f_X2_takeHunts n M2) fun _ M13 => f_X2_takesAll_L186 n (f_X2_takesAll_L33 n k) v1 v2 M13) else (if jw r1 = 13 then (bnd (f_X2_takeTicket n M2) fun _ M15 => f_X2_takesAll_L186 n (f_X2_takesAll_L33 n k) v1 v2 M15) else (f_X2_takesAll_L178 n (f_X2_takesAll_L33 n k) v1 v2 M2)))))))) else (f_X2_takesAll_L201 n M))
set_option maxRecDepth 4000 in
theorem t_X2_takesAll_L33 {g : JG} {ad : Nat → Nat} (hs : jStr g ad) (n : Nat) : ∀ (k : Nat) (v1 v2 : Int) (M : JMem), jB g D_X2_takesAll ad 33 [some (.ref 12), some (ji v1), some (ji v2)] [] M (f_X2_takesAll_L33 n k v1 v2 M) := by
  intro k
  induction k with
  | zero => intro v1 v2 M; exact jO.none
  | succ k ih =>
    intro v1 v2 M
    rw [f_X2_takesAll_L33]
    refine jo_iload 2 d_X2_takesAll_33 rfl rfl ?_
    refine jo_iload 1 d_X2_takesAll_34 rfl rfl ?_
    refine jo_icmp_gt 201 d_X2_takesAll_35 (by decide) ?_ ?_
    · skip
      exact jO.sub (t_X2_takesAll_L201 hs n M) (And.intro rfl True.intro)
    · skip
      refine jo_aload 0 d_X2_takesAll_38 rfl rfl ?_
      refine jo_getR (k := 0) cl_2 (Nat.le_of_ble_eq_true rfl) lk_X2_29 rfl kc_12 kr_12_0 d_X2_takesAll_39 ?_
      refine jo_getI (k := 2) cl_6 (Nat.le_of_ble_eq_true rfl) lk_X2_45 (Or.inl rfl) kc_9 d_X2_takesAll_42 ?_
      refine jo_if_ne 201 d_X2_takesAll_45 (by decide) ?_ ?_
      · skip
        exact jO.sub (t_X2_takesAll_L201 hs n M) (And.intro rfl True.intro)
      · skip
        refine jo_aload 0 d_X2_takesAll_48 rfl rfl ?_
        refine jo_getR (k := 0) cl_2 (Nat.le_of_ble_eq_true rfl) lk_X2_29 rfl kc_12 kr_12_0 d_X2_takesAll_49 ?_
        refine jo_getI (k := 4) cl_6 (Nat.le_of_ble_eq_true rfl) lk_X2_49 (Or.inl rfl) kc_9 d_X2_takesAll_52 ?_
        refine jo_if_eq 201 d_X2_takesAll_55 (by decide) ?_ ?_
        · skip
          exact jO.sub (t_X2_takesAll_L201 hs n M) (And.intro rfl True.intro)
        · skip
          refine jo_aload 0 d_X2_takesAll_58 rfl rfl ?_
          refine jo_getR (k := 0) cl_2 (Nat.le_of_ble_eq_true rfl) lk_X2_29 rfl kc_12 kr_12_0 d_X2_takesAll_59 ?_
          refine jo_callV (st := []) (m_X6_wordAt hs n M) ok_X6_wordAt (And.intro (Nat.le_of_ble_eq_true rfl) (Nat.le_of_ble_eq_true rfl)) lm_X2_52 in_X6_wordAt se_X6_wordAt rfl kc_9 rfl rfl (And.intro (Nat.zero_le _) (Nat.zero_le _)) rfl (Nat.le_of_ble_eq_true rfl) d_X2_takesAll_62 (fun r1 M2 => ?_)
          refine jo_if (fun c3_0 => ?_) (fun c3_0 => ?_)
          · skip
            refine jo_tabIn 136 d_X2_takesAll_65 0 c3_0 (by decide) (by decide) rfl (by decide) ?_
            refine jo_aload 0 d_X2_takesAll_136 rfl rfl ?_
            refine jo_callV (st := []) (m_X2_takeOdds hs n M2) ok_X2_takeOdds (And.intro (Nat.le_of_ble_eq_true rfl) (Nat.le_of_ble_eq_true rfl)) lm_X2_56 in_X2_takeOdds se_X2_takeOdds rfl kc_12 rfl rfl (And.intro (Nat.zero_le _) (Nat.zero_le _)) rfl (Nat.le_of_ble_eq_true rfl) d_X2_takesAll_137 (fun _ M5 => ?_)
            refine jo_goto 186 d_X2_takesAll_140 (by decide) ?_
            exact jO.sub (t_X2_takesAll_L186 hs n (f_X2_takesAll_L33 n k) ih v1 v2 M5) (And.intro rfl (And.intro rfl (And.intro rfl True.intro)))
          refine jo_if (fun c3_1 => ?_) (fun c3_1 => ?_)
          · skip
            refine jo_tabIn 143 d_X2_takesAll_65 1 c3_1 (by decide) (by decide) rfl (by decide) ?_
            refine jo_aload 0 d_X2_takesAll_143 rfl rfl ?_
            refine jo_callV (st := []) (m_X2_takePlace hs n M2) ok_X2_takePlace (And.intro (Nat.le_of_ble_eq_true rfl) (Nat.le_of_ble_eq_true rfl)) lm_X2_59 in_X2_takePlace se_X2_takePlace rfl kc_12 rfl rfl (And.intro (Nat.zero_le _) (Nat.zero_le _)) rfl (Nat.le_of_ble_eq_true rfl) d_X2_takesAll_144 (fun _ M7 => ?_)
            refine jo_goto 186 d_X2_takesAll_147 (by decide) ?_
            exact jO.sub (t_X2_takesAll_L186 hs n (f_X2_takesAll_L33 n k) ih v1 v2 M7) (And.intro rfl (And.intro rfl (And.intro rfl True.intro)))
          refine jo_if (fun c3_2 => ?_) (fun c3_2 => ?_)
          · skip
            refine jo_tabIn 150 d_X2_takesAll_65 2 c3_2 (by decide) (by decide) rfl (by decide) ?_
            refine jo_aload 0 d_X2_takesAll_150 rfl rfl ?_
            refine jo_callV (st := []) (m_X2_takeTrain hs n M2) ok_X2_takeTrain (And.intro (Nat.le_of_ble_eq_true rfl) (Nat.le_of_ble_eq_true rfl)) lm_X2_62 in_X2_takeTrain se_X2_takeTrain rfl kc_12 rfl rfl (And.intro (Nat.zero_le _) (Nat.zero_le _)) rfl (Nat.le_of_ble_eq_true rfl) d_X2_takesAll_151 (fun _ M9 => ?_)
            refine jo_goto 186 d_X2_takesAll_154 (by decide) ?_
            exact jO.sub (t_X2_takesAll_L186 hs n (f_X2_takesAll_L33 n k) ih v1 v2 M9) (And.intro rfl (And.intro rfl (And.intro rfl True.intro)))
          refine jo_if (fun c3_8 => ?_) (fun c3_8 => ?_)
          · skip
            refine jo_tabIn 157 d_X2_takesAll_65 8 c3_8 (by decide) (by decide) rfl (by decide) ?_
            refine jo_aload 0 d_X2_takesAll_157 rfl rfl ?_
            refine jo_callV (st := []) (m_X2_takeBeast hs n M2) ok_X2_takeBeast (And.intro (Nat.le_of_ble_eq_true rfl) (Nat.le_of_ble_eq_true rfl)) lm_X2_65 in_X2_takeBeast se_X2_takeBeast rfl kc_12 rfl rfl (And.intro (Nat.zero_le _) (Nat.zero_le _)) rfl (Nat.le_of_ble_eq_true rfl) d_X2_takesAll_158 (fun _ M11 => ?_)
            refine jo_goto 186 d_X2_takesAll_161 (by decide) ?_
            exact jO.sub (t_X2_takesAll_L186 hs n (f_X2_takesAll_L33 n k) ih v1 v2 M11) (And.intro rfl (And.intro rfl (And.intro rfl True.intro)))
          refine jo_if (fun c3_12 => ?_) (fun c3_12 => ?_)
          · skip
            refine jo_tabIn 164 d_X2_takesAll_65 12 c3_12 (by decide) (by decide) rfl (by decide) ?_
            refine jo_aload 0 d_X2_takesAll_164 rfl rfl ?_
            refine jo_callV (st := []) (m_X2_takeHunts hs n M2) ok_X2_takeHunts (And.intro (Nat.le_of_ble_eq_true rfl) (Nat.le_of_ble_eq_true rfl)) lm_X2_68 in_X2_takeHunts se_X2_takeHunts rfl kc_12 rfl rfl (And.intro (Nat.zero_le _) (Nat.zero_le _)) rfl (Nat.le_of_ble_eq_true rfl) d_X2_takesAll_165 (fun _ M13 => ?_)
            refine jo_goto 186 d_X2_takesAll_168 (by decide) ?_
            exact jO.sub (t_X2_takesAll_L186 hs n (f_X2_takesAll_L33 n k) ih v1 v2 M13) (And.intro rfl (And.intro rfl (And.intro rfl True.intro)))
          refine jo_if (fun c3_13 => ?_) (fun c3_13 => ?_)
          · skip
            refine jo_tabIn 171 d_X2_takesAll_65 13 c3_13 (by decide) (by decide) rfl (by decide) ?_
            refine jo_aload 0 d_X2_takesAll_171 rfl rfl ?_
            refine jo_callV (st := []) (m_X2_takeTicket hs n M2) ok_X2_takeTicket (And.intro (Nat.le_of_ble_eq_true rfl) (Nat.le_of_ble_eq_true rfl)) lm_X2_71 in_X2_takeTicket se_X2_takeTicket rfl kc_12 rfl rfl (And.intro (Nat.zero_le _) (Nat.zero_le _)) rfl (Nat.le_of_ble_eq_true rfl) d_X2_takesAll_172 (fun _ M15 => ?_)
            refine jo_goto 186 d_X2_takesAll_175 (by decide) ?_
            exact jO.sub (t_X2_takesAll_L186 hs n (f_X2_takesAll_L33 n k) ih v1 v2 M15) (And.intro rfl (And.intro rfl (And.intro rfl True.intro)))
          refine jo_tabAny 178 d_X2_takesAll_65 (by rcases (show (jw r1 < 0 ∨ 13 < jw r1) ∨ jw r1 = 3 ∨ jw r1 = 4 ∨ jw r1 = 5 ∨ jw r1 = 6 ∨ jw r1 = 7 ∨ jw r1 = 9 ∨ jw r1 = 10 ∨ jw r1 = 11 by omega) with h | h | h | h | h | h | h | h | h; exact Or.inl h; exact Or.inr ⟨3, h, by decide, by decide, rfl⟩; exact Or.inr ⟨4, h, by decide, by decide, rfl⟩; exact Or.inr ⟨5, h, by decide, by decide, rfl⟩; exact Or.inr ⟨6, h, by decide, by decide, rfl⟩; exact Or.inr ⟨7, h, by decide, by decide, rfl⟩; exact Or.inr ⟨9, h, by decide, by decide, rfl⟩; exact Or.inr ⟨10, h, by decide, by decide, rfl⟩; exact Or.inr ⟨11, h, by decide, by decide, rfl⟩) (by decide) ?_
          exact jO.sub (t_X2_takesAll_L178 hs n (f_X2_takesAll_L33 n k) ih v1 v2 M2) (And.intro rfl (And.intro rfl (And.intro rfl True.intro)))
def f_X2_takesAll (n : Nat) (x1 : Int) (M : JMem) : Option (Int × JMem) := bnd (f_X6_open n x1 M) fun _ M2 => bnd (f_X4_clear n 13 M2) fun _ M4 => bnd (f_X1_clear n 25 13 M4) fun _ M6 => chk (jw 0 = 0 ∨ jw 0 = 1) <| letm (jup M6 12 3 0) fun M7 => letv 0 fun y8 => f_X2_takesAll_L33 n n x1 y8 M7
set_option maxRecDepth 4000 in
theorem t_X2_takesAll {g : JG} {ad : Nat → Nat} (hs : jStr g ad) (n : Nat) (x1 : Int) (M : JMem) : jB g D_X2_takesAll ad 0 [some (.ref 12), some (ji x1), none] [] M (f_X2_takesAll n x1 M) := by
  unfold f_X2_takesAll
  refine jo_aload 0 d_X2_takesAll_0 rfl rfl ?_
  refine jo_getR (k := 0) cl_2 (Nat.le_of_ble_eq_true rfl) lk_X2_29 rfl kc_12 kr_12_0 d_X2_takesAll_1 ?_
  refine jo_iload 1 d_X2_takesAll_4 rfl rfl ?_
  refine jo_callV (st := []) (m_X6_open hs n x1 M) ok_X6_open (And.intro (Nat.le_of_ble_eq_true rfl) (Nat.le_of_ble_eq_true rfl)) lm_X2_33 in_X6_open se_X6_open rfl kc_9 rfl rfl (And.intro (Nat.zero_le _) (Nat.zero_le _)) rfl (Nat.le_of_ble_eq_true rfl) d_X2_takesAll_5 (fun _ M2 => ?_)
  refine jo_aload 0 d_X2_takesAll_8 rfl rfl ?_
  refine jo_getR (k := 1) cl_2 (Nat.le_of_ble_eq_true rfl) lk_X2_12 rfl kc_12 kr_12_1 d_X2_takesAll_9 ?_
  refine jo_callV (st := []) (m_X4_clear hs n 13 kc_13 M2) ok_X4_clear (And.intro (Nat.le_of_ble_eq_true rfl) (Nat.le_of_ble_eq_true rfl)) lm_X2_39 in_X4_clear se_X4_clear rfl kc_13 rfl rfl (And.intro (Nat.zero_le _) (Nat.zero_le _)) rfl (Nat.le_of_ble_eq_true rfl) d_X2_takesAll_12 (fun _ M4 => ?_)
  refine jo_aload 0 d_X2_takesAll_15 rfl rfl ?_
  refine jo_getR (k := 2) cl_2 (Nat.le_of_ble_eq_true rfl) lk_X2_21 rfl kc_12 kr_12_2 d_X2_takesAll_16 ?_
  refine jo_aload 0 d_X2_takesAll_19 rfl rfl ?_
  refine jo_getR (k := 1) cl_2 (Nat.le_of_ble_eq_true rfl) lk_X2_12 rfl kc_12 kr_12_1 d_X2_takesAll_20 ?_
  refine jo_callV (st := []) (m_X1_clear hs n 25 13 kc_25 kc_13 M4) ok_X1_clear (And.intro (Nat.le_of_ble_eq_true rfl) (Nat.le_of_ble_eq_true rfl)) lm_X2_42 in_X1_clear se_X1_clear rfl kc_25 rfl rfl (And.intro (Nat.zero_le _) (Nat.zero_le _)) rfl (Nat.le_of_ble_eq_true rfl) d_X2_takesAll_23 (fun _ M6 => ?_)
  refine jo_aload 0 d_X2_takesAll_26 rfl rfl ?_
  refine jo_iconst 0 d_X2_takesAll_27 ?_
  refine jo_putZ (k := 3) cl_2 (Nat.le_of_ble_eq_true rfl) lk_X2_25 rfl rfl kc_12 d_X2_takesAll_28 (fun M7 => ?_)
  refine jo_iconst 0 d_X2_takesAll_31 ?_
  refine jo_istore 2 d_X2_takesAll_32 rfl (Nat.le_of_ble_eq_true rfl) (fun y8 => ?_)
  exact jO.sub (t_X2_takesAll_L33 hs n n x1 y8 M7) (And.intro rfl (And.intro rfl (And.intro rfl True.intro)))
theorem m_X2_takesAll {g : JG} {ad : Nat → Nat} (hs : jStr g ad) (n : Nat) (x1 : Int) (M : JMem) : jMet g jNN ad jR D_X2_takesAll yX2_takesAll [.ref 12, ji x1] M (f_X2_takesAll n x1 M) :=
  jMet.of (lo0 := [some (.ref 12), some (ji x1), none]) (by decide) rfl rfl (Nat.le_of_ble_eq_true rfl) (And.intro rfl (And.intro rfl True.intro)) (t_X2_takesAll hs n x1 M)
/-! CageLeave$Parrot.insert(III)V -/
def D_X3_insert : JD := (RX3, cX3_insert, 5, none, "insert", { frames := 0, cells := 0, slots := 0, locals := 0 })
theorem ok_X3_insert : jOk D_X3_insert yX3_insert 3 := ⟨jTW_mem (k := 1283) (by decide +kernel) rfl, jTW_mem (k := 149) (by decide +kernel) rfl, ⟨by decide +kernel, by decide +kernel⟩, by decide +kernel, rfl, rfl⟩
theorem in_X3_insert : Cond.instanceMethod yX3_insert ∈ jTW := jTW_mem (k := 1282) (by decide +kernel) rfl
theorem se_X3_insert : Cond.selects yX3_insert.cls yX3_insert yX3_insert ∈ jTW := jTW_mem (k := 40) (by decide +kernel) rfl
theorem d_X3_insert_0 : decode (D_X3_insert).2.1 0 = .ok (.aload_n 0, 1) := by decide +kernel
theorem d_X3_insert_1 : decode (D_X3_insert).2.1 1 = .ok (.getfield 9, 3) := by decide +kernel
theorem d_X3_insert_4 : decode (D_X3_insert).2.1 4 = .ok (.bipush 20, 2) := by decide +kernel
theorem d_X3_insert_6 : decode (D_X3_insert).2.1 6 = .ok (.if_icmp .lt 4, 3) := by decide +kernel
theorem d_X3_insert_9 : decode (D_X3_insert).2.1 9 = .ok (.return_, 1) := by decide +kernel
theorem d_X3_insert_10 : decode (D_X3_insert).2.1 10 = .ok (.aload_n 0, 1) := by decide +kernel
theorem d_X3_insert_11 : decode (D_X3_insert).2.1 11 = .ok (.getfield 9, 3) := by decide +kernel
theorem d_X3_insert_14 : decode (D_X3_insert).2.1 14 = .ok (.istore 4, 2) := by decide +kernel
theorem d_X3_insert_16 : decode (D_X3_insert).2.1 16 = .ok (.iload 4, 2) := by decide +kernel
theorem d_X3_insert_18 : decode (D_X3_insert).2.1 18 = .ok (.ifCond .le 70, 3) := by decide +kernel
theorem d_X3_insert_21 : decode (D_X3_insert).2.1 21 = .ok (.aload_n 0, 1) := by decide +kernel
theorem d_X3_insert_22 : decode (D_X3_insert).2.1 22 = .ok (.getfield 15, 3) := by decide +kernel
theorem d_X3_insert_25 : decode (D_X3_insert).2.1 25 = .ok (.iload 4, 2) := by decide +kernel
theorem d_X3_insert_27 : decode (D_X3_insert).2.1 27 = .ok (.iconst 1, 1) := by decide +kernel
theorem d_X3_insert_28 : decode (D_X3_insert).2.1 28 = .ok (.isub, 1) := by decide +kernel
theorem d_X3_insert_29 : decode (D_X3_insert).2.1 29 = .ok (.iaload, 1) := by decide +kernel
theorem d_X3_insert_30 : decode (D_X3_insert).2.1 30 = .ok (.iload_n 1, 1) := by decide +kernel
theorem d_X3_insert_31 : decode (D_X3_insert).2.1 31 = .ok (.if_icmp .le 57, 3) := by decide +kernel
theorem d_X3_insert_34 : decode (D_X3_insert).2.1 34 = .ok (.aload_n 0, 1) := by decide +kernel
theorem d_X3_insert_35 : decode (D_X3_insert).2.1 35 = .ok (.getfield 15, 3) := by decide +kernel
theorem d_X3_insert_38 : decode (D_X3_insert).2.1 38 = .ok (.iload 4, 2) := by decide +kernel
theorem d_X3_insert_40 : decode (D_X3_insert).2.1 40 = .ok (.aload_n 0, 1) := by decide +kernel
theorem d_X3_insert_41 : decode (D_X3_insert).2.1 41 = .ok (.getfield 15, 3) := by decide +kernel
theorem d_X3_insert_44 : decode (D_X3_insert).2.1 44 = .ok (.iload 4, 2) := by decide +kernel
theorem d_X3_insert_46 : decode (D_X3_insert).2.1 46 = .ok (.iconst 1, 1) := by decide +kernel
theorem d_X3_insert_47 : decode (D_X3_insert).2.1 47 = .ok (.isub, 1) := by decide +kernel
theorem d_X3_insert_48 : decode (D_X3_insert).2.1 48 = .ok (.iaload, 1) := by decide +kernel
theorem d_X3_insert_49 : decode (D_X3_insert).2.1 49 = .ok (.iastore, 1) := by decide +kernel
theorem d_X3_insert_50 : decode (D_X3_insert).2.1 50 = .ok (.aload_n 0, 1) := by decide +kernel
theorem d_X3_insert_51 : decode (D_X3_insert).2.1 51 = .ok (.getfield 19, 3) := by decide +kernel
theorem d_X3_insert_54 : decode (D_X3_insert).2.1 54 = .ok (.iload 4, 2) := by decide +kernel
theorem d_X3_insert_56 : decode (D_X3_insert).2.1 56 = .ok (.aload_n 0, 1) := by decide +kernel
theorem d_X3_insert_57 : decode (D_X3_insert).2.1 57 = .ok (.getfield 19, 3) := by decide +kernel
theorem d_X3_insert_60 : decode (D_X3_insert).2.1 60 = .ok (.iload 4, 2) := by decide +kernel
theorem d_X3_insert_62 : decode (D_X3_insert).2.1 62 = .ok (.iconst 1, 1) := by decide +kernel
theorem d_X3_insert_63 : decode (D_X3_insert).2.1 63 = .ok (.isub, 1) := by decide +kernel
theorem d_X3_insert_64 : decode (D_X3_insert).2.1 64 = .ok (.iaload, 1) := by decide +kernel
theorem d_X3_insert_65 : decode (D_X3_insert).2.1 65 = .ok (.iastore, 1) := by decide +kernel
theorem d_X3_insert_66 : decode (D_X3_insert).2.1 66 = .ok (.aload_n 0, 1) := by decide +kernel
theorem d_X3_insert_67 : decode (D_X3_insert).2.1 67 = .ok (.getfield 22, 3) := by decide +kernel
theorem d_X3_insert_70 : decode (D_X3_insert).2.1 70 = .ok (.iload 4, 2) := by decide +kernel
theorem d_X3_insert_72 : decode (D_X3_insert).2.1 72 = .ok (.aload_n 0, 1) := by decide +kernel
theorem d_X3_insert_73 : decode (D_X3_insert).2.1 73 = .ok (.getfield 22, 3) := by decide +kernel
theorem d_X3_insert_76 : decode (D_X3_insert).2.1 76 = .ok (.iload 4, 2) := by decide +kernel
theorem d_X3_insert_78 : decode (D_X3_insert).2.1 78 = .ok (.iconst 1, 1) := by decide +kernel
theorem d_X3_insert_79 : decode (D_X3_insert).2.1 79 = .ok (.isub, 1) := by decide +kernel
theorem d_X3_insert_80 : decode (D_X3_insert).2.1 80 = .ok (.iaload, 1) := by decide +kernel
theorem d_X3_insert_81 : decode (D_X3_insert).2.1 81 = .ok (.iastore, 1) := by decide +kernel
theorem d_X3_insert_82 : decode (D_X3_insert).2.1 82 = .ok (.iinc 4 (-1), 3) := by decide +kernel
theorem d_X3_insert_85 : decode (D_X3_insert).2.1 85 = .ok (.goto (-69), 3) := by decide +kernel
theorem d_X3_insert_88 : decode (D_X3_insert).2.1 88 = .ok (.aload_n 0, 1) := by decide +kernel
theorem d_X3_insert_89 : decode (D_X3_insert).2.1 89 = .ok (.getfield 15, 3) := by decide +kernel
theorem d_X3_insert_92 : decode (D_X3_insert).2.1 92 = .ok (.iload 4, 2) := by decide +kernel
theorem d_X3_insert_94 : decode (D_X3_insert).2.1 94 = .ok (.iload_n 1, 1) := by decide +kernel
theorem d_X3_insert_95 : decode (D_X3_insert).2.1 95 = .ok (.iastore, 1) := by decide +kernel
theorem d_X3_insert_96 : decode (D_X3_insert).2.1 96 = .ok (.aload_n 0, 1) := by decide +kernel
theorem d_X3_insert_97 : decode (D_X3_insert).2.1 97 = .ok (.getfield 19, 3) := by decide +kernel
theorem d_X3_insert_100 : decode (D_X3_insert).2.1 100 = .ok (.iload 4, 2) := by decide +kernel
theorem d_X3_insert_102 : decode (D_X3_insert).2.1 102 = .ok (.iload_n 2, 1) := by decide +kernel
theorem d_X3_insert_103 : decode (D_X3_insert).2.1 103 = .ok (.iastore, 1) := by decide +kernel
theorem d_X3_insert_104 : decode (D_X3_insert).2.1 104 = .ok (.aload_n 0, 1) := by decide +kernel
theorem d_X3_insert_105 : decode (D_X3_insert).2.1 105 = .ok (.getfield 22, 3) := by decide +kernel
theorem d_X3_insert_108 : decode (D_X3_insert).2.1 108 = .ok (.iload 4, 2) := by decide +kernel
theorem d_X3_insert_110 : decode (D_X3_insert).2.1 110 = .ok (.iload_n 3, 1) := by decide +kernel
theorem d_X3_insert_111 : decode (D_X3_insert).2.1 111 = .ok (.iastore, 1) := by decide +kernel
theorem d_X3_insert_112 : decode (D_X3_insert).2.1 112 = .ok (.aload_n 0, 1) := by decide +kernel
theorem d_X3_insert_113 : decode (D_X3_insert).2.1 113 = .ok (.dup, 1) := by decide +kernel
theorem d_X3_insert_114 : decode (D_X3_insert).2.1 114 = .ok (.getfield 9, 3) := by decide +kernel
theorem d_X3_insert_117 : decode (D_X3_insert).2.1 117 = .ok (.iconst 1, 1) := by decide +kernel
theorem d_X3_insert_118 : decode (D_X3_insert).2.1 118 = .ok (.iadd, 1) := by decide +kernel
theorem d_X3_insert_119 : decode (D_X3_insert).2.1 119 = .ok (.putfield 9, 3) := by decide +kernel
theorem d_X3_insert_122 : decode (D_X3_insert).2.1 122 = .ok (.return_, 1) := by decide +kernel
def f_X3_insert_L88 (n : Nat) (v1 v2 v3 v4 : Int) (M : JMem) : Option (Int × JMem) := chk (jin v4 20) <| letm (jup M 83 (jw v4).toNat v1) fun M1 => chk (jin v4 20) <| letm (jup M1 84 (jw v4).toNat v2) fun M2 => chk (jin v4 20) <| letm (jup M2 85 (jw v4).toNat v3) fun M3 => letm (jup M3 82 0 ((M3 82 0) + 1)) fun M4 => some (0, M4)
set_option maxRecDepth 4000 in
theorem t_X3_insert_L88 {g : JG} {ad : Nat → Nat} (hs : jStr g ad) (n : Nat) (v1 v2 v3 v4 : Int) (M : JMem) : jB g D_X3_insert ad 88 [some (.ref 82), some (ji v1), some (ji v2), some (ji v3), some (ji v4)] [] M (f_X3_insert_L88 n v1 v2 v3 v4 M) := by
  unfold f_X3_insert_L88
  refine jo_aload 0 d_X3_insert_88 rfl rfl ?_
  refine jo_getR (k := 1) cl_3 (Nat.le_of_ble_eq_true rfl) lk_X3_15 rfl kc_82 kr_82_1 d_X3_insert_89 ?_
  refine jo_iloadW 4 d_X3_insert_92 rfl ?_
  refine jo_iload 1 d_X3_insert_94 rfl rfl ?_
  refine jo_iast (N := 20) kc_83 d_X3_insert_95 (fun M1 => ?_)
  refine jo_aload 0 d_X3_insert_96 rfl rfl ?_
  refine jo_getR (k := 2) cl_3 (Nat.le_of_ble_eq_true rfl) lk_X3_19 rfl kc_82 kr_82_2 d_X3_insert_97 ?_
  refine jo_iloadW 4 d_X3_insert_100 rfl ?_
  refine jo_iload 2 d_X3_insert_102 rfl rfl ?_
  refine jo_iast (N := 20) kc_84 d_X3_insert_103 (fun M2 => ?_)
  refine jo_aload 0 d_X3_insert_104 rfl rfl ?_
  refine jo_getR (k := 3) cl_3 (Nat.le_of_ble_eq_true rfl) lk_X3_22 rfl kc_82 kr_82_3 d_X3_insert_105 ?_
  refine jo_iloadW 4 d_X3_insert_108 rfl ?_
  refine jo_iload 3 d_X3_insert_110 rfl rfl ?_
  refine jo_iast (N := 20) kc_85 d_X3_insert_111 (fun M3 => ?_)
  refine jo_aload 0 d_X3_insert_112 rfl rfl ?_
  refine jo_dup d_X3_insert_113 rfl ?_
  refine jo_getI (k := 0) cl_3 (Nat.le_of_ble_eq_true rfl) lk_X3_9 (Or.inl rfl) kc_82 d_X3_insert_114 ?_
  refine jo_iconst 1 d_X3_insert_117 ?_
  refine jo_iadd d_X3_insert_118 ?_
  refine jo_putI (k := 0) cl_3 (Nat.le_of_ble_eq_true rfl) lk_X3_9 rfl rfl kc_82 d_X3_insert_119 (fun M4 => ?_)
  exact jo_vret rfl d_X3_insert_122
def f_X3_insert_L16 (n : Nat) : Nat → Int → Int → Int → Int → JMem → Option (Int × JMem)
  | 0, _, _, _, _, _ => none
  | k + 1, v1, v2, v3, v4, M => if jw v4 ≤ 0 then (f_X3_insert_L88 n v1 v2 v3 v4 M) else (chk (jin (v4 - 1) 20) <| if jw (M 83 (jw (v4 - 1)).toNat) ≤ jw v1 then (f_X3_insert_L88 n v1 v2 v3 v4 M) else (chk (jin (v4 - 1) 20) <| chk (jin v4 20) <| letm (jup M 83 (jw v4).toNat (M 83 (jw (v4 - 1)).toNat)) fun M1 => chk (jin (v4 - 1) 20) <| chk (jin v4 20) <| letm (jup M1 84 (jw v4).toNat (M1 84 (jw (v4 - 1)).toNat)) fun M2 => chk (jin (v4 - 1) 20) <| chk (jin v4 20) <| letm (jup M2 85 (jw v4).toNat (M2 85 (jw (v4 - 1)).toNat)) fun M3 => letv (v4 + (-1)) fun y4 => (f_X3_insert_L16 n k) v1 v2 v3 y4 M3))
set_option maxRecDepth 4000 in
theorem t_X3_insert_L16 {g : JG} {ad : Nat → Nat} (hs : jStr g ad) (n : Nat) : ∀ (k : Nat) (v1 v2 v3 v4 : Int) (M : JMem), jB g D_X3_insert ad 16 [some (.ref 82), some (ji v1), some (ji v2), some (ji v3), some (ji v4)] [] M (f_X3_insert_L16 n k v1 v2 v3 v4 M) := by
  intro k
  induction k with
  | zero => intro v1 v2 v3 v4 M; exact jO.none
  | succ k ih =>
    intro v1 v2 v3 v4 M
    rw [f_X3_insert_L16]
    refine jo_iloadW 4 d_X3_insert_16 rfl ?_
    refine jo_if_le 88 d_X3_insert_18 (by decide) ?_ ?_
    · skip
      exact jO.sub (t_X3_insert_L88 hs n v1 v2 v3 v4 M) (And.intro rfl (And.intro rfl (And.intro rfl (And.intro rfl (And.intro rfl True.intro)))))
    · skip
      refine jo_aload 0 d_X3_insert_21 rfl rfl ?_
      refine jo_getR (k := 1) cl_3 (Nat.le_of_ble_eq_true rfl) lk_X3_15 rfl kc_82 kr_82_1 d_X3_insert_22 ?_
      refine jo_iloadW 4 d_X3_insert_25 rfl ?_
      refine jo_iconst 1 d_X3_insert_27 ?_
      refine jo_isub d_X3_insert_28 ?_
      refine jo_iald (N := 20) kc_83 d_X3_insert_29 ?_
      refine jo_iload 1 d_X3_insert_30 rfl rfl ?_
      refine jo_icmp_le 88 d_X3_insert_31 (by decide) ?_ ?_
      · skip
        exact jO.sub (t_X3_insert_L88 hs n v1 v2 v3 v4 M) (And.intro rfl (And.intro rfl (And.intro rfl (And.intro rfl (And.intro rfl True.intro)))))
      · skip
        refine jo_aload 0 d_X3_insert_34 rfl rfl ?_
        refine jo_getR (k := 1) cl_3 (Nat.le_of_ble_eq_true rfl) lk_X3_15 rfl kc_82 kr_82_1 d_X3_insert_35 ?_
        refine jo_iloadW 4 d_X3_insert_38 rfl ?_
        refine jo_aload 0 d_X3_insert_40 rfl rfl ?_
        refine jo_getR (k := 1) cl_3 (Nat.le_of_ble_eq_true rfl) lk_X3_15 rfl kc_82 kr_82_1 d_X3_insert_41 ?_
        refine jo_iloadW 4 d_X3_insert_44 rfl ?_
        refine jo_iconst 1 d_X3_insert_46 ?_
        refine jo_isub d_X3_insert_47 ?_
        refine jo_iald (N := 20) kc_83 d_X3_insert_48 ?_
        refine jo_iast (N := 20) kc_83 d_X3_insert_49 (fun M1 => ?_)
        refine jo_aload 0 d_X3_insert_50 rfl rfl ?_
        refine jo_getR (k := 2) cl_3 (Nat.le_of_ble_eq_true rfl) lk_X3_19 rfl kc_82 kr_82_2 d_X3_insert_51 ?_
        refine jo_iloadW 4 d_X3_insert_54 rfl ?_
        refine jo_aload 0 d_X3_insert_56 rfl rfl ?_
        refine jo_getR (k := 2) cl_3 (Nat.le_of_ble_eq_true rfl) lk_X3_19 rfl kc_82 kr_82_2 d_X3_insert_57 ?_
        refine jo_iloadW 4 d_X3_insert_60 rfl ?_
        refine jo_iconst 1 d_X3_insert_62 ?_
        refine jo_isub d_X3_insert_63 ?_
        refine jo_iald (N := 20) kc_84 d_X3_insert_64 ?_
        refine jo_iast (N := 20) kc_84 d_X3_insert_65 (fun M2 => ?_)
        refine jo_aload 0 d_X3_insert_66 rfl rfl ?_
        refine jo_getR (k := 3) cl_3 (Nat.le_of_ble_eq_true rfl) lk_X3_22 rfl kc_82 kr_82_3 d_X3_insert_67 ?_
        refine jo_iloadW 4 d_X3_insert_70 rfl ?_
        refine jo_aload 0 d_X3_insert_72 rfl rfl ?_
        refine jo_getR (k := 3) cl_3 (Nat.le_of_ble_eq_true rfl) lk_X3_22 rfl kc_82 kr_82_3 d_X3_insert_73 ?_
        refine jo_iloadW 4 d_X3_insert_76 rfl ?_
        refine jo_iconst 1 d_X3_insert_78 ?_
        refine jo_isub d_X3_insert_79 ?_
        refine jo_iald (N := 20) kc_85 d_X3_insert_80 ?_
        refine jo_iast (N := 20) kc_85 d_X3_insert_81 (fun M3 => ?_)
        refine jo_iinc 4 d_X3_insert_82 rfl (Nat.le_of_ble_eq_true rfl) (fun y4 => ?_)
        refine jo_goto 16 d_X3_insert_85 (by decide) ?_
        exact jO.sub (ih v1 v2 v3 y4 M3) (And.intro rfl (And.intro rfl (And.intro rfl (And.intro rfl (And.intro rfl True.intro)))))
def f_X3_insert (n : Nat) (x1 : Int) (x2 : Int) (x3 : Int) (M : JMem) : Option (Int × JMem) := if jw (M 82 0) < jw 20 then (letv (M 82 0) fun y1 => f_X3_insert_L16 n n x1 x2 x3 y1 M) else (some (0, M))
set_option maxRecDepth 4000 in
theorem t_X3_insert {g : JG} {ad : Nat → Nat} (hs : jStr g ad) (n : Nat) (x1 : Int) (x2 : Int) (x3 : Int) (M : JMem) : jB g D_X3_insert ad 0 [some (.ref 82), some (ji x1), some (ji x2), some (ji x3), none] [] M (f_X3_insert n x1 x2 x3 M) := by
  unfold f_X3_insert
  refine jo_aload 0 d_X3_insert_0 rfl rfl ?_
  refine jo_getI (k := 0) cl_3 (Nat.le_of_ble_eq_true rfl) lk_X3_9 (Or.inl rfl) kc_82 d_X3_insert_1 ?_
  refine jo_bipush 20 d_X3_insert_4 (by decide) ?_
  refine jo_icmp_lt 10 d_X3_insert_6 (by decide) ?_ ?_
  · skip
    refine jo_aload 0 d_X3_insert_10 rfl rfl ?_
    refine jo_getI (k := 0) cl_3 (Nat.le_of_ble_eq_true rfl) lk_X3_9 (Or.inl rfl) kc_82 d_X3_insert_11 ?_
    refine jo_istoreW 4 d_X3_insert_14 (Nat.le_of_ble_eq_true rfl) (fun y1 => ?_)
    exact jO.sub (t_X3_insert_L16 hs n n x1 x2 x3 y1 M) (And.intro rfl (And.intro rfl (And.intro rfl (And.intro rfl (And.intro rfl True.intro)))))
  · skip
    exact jo_vret rfl d_X3_insert_9
theorem m_X3_insert {g : JG} {ad : Nat → Nat} (hs : jStr g ad) (n : Nat) (x1 : Int) (x2 : Int) (x3 : Int) (M : JMem) : jMet g jNN ad jR D_X3_insert yX3_insert [.ref 82, ji x1, ji x2, ji x3] M (f_X3_insert n x1 x2 x3 M) :=
  jMet.of (lo0 := [some (.ref 82), some (ji x1), some (ji x2), some (ji x3), none]) (by decide) rfl rfl (Nat.le_of_ble_eq_true rfl) (And.intro rfl (And.intro rfl (And.intro rfl (And.intro rfl True.intro)))) (t_X3_insert hs n x1 x2 x3 M)
/-! CageLeave$Parrot.hears(LCageLeave$Plan;[JI)Z -/
def D_X3_hears : JD := (RX3, cX3_hears, 11, some .boolean, "hears", { frames := 1, cells := 0, slots := 0, locals := 24 })
theorem ok_X3_hears : jOk D_X3_hears yX3_hears 3 := ⟨jTW_mem (k := 1278) (by decide +kernel) rfl, jTW_mem (k := 149) (by decide +kernel) rfl, ⟨by decide +kernel, by decide +kernel⟩, by decide +kernel, rfl, rfl⟩
theorem in_X3_hears : Cond.instanceMethod yX3_hears ∈ jTW := jTW_mem (k := 1276) (by decide +kernel) rfl
theorem se_X3_hears : Cond.selects yX3_hears.cls yX3_hears yX3_hears ∈ jTW := jTW_mem (k := 1277) (by decide +kernel) rfl
theorem lc_X3_25 : Cond.constantLong RX3 25 (Int64.ofInt 64) ∈ jTW := jTW_mem (k := 1279) (by decide +kernel) rfl
theorem lk_X3_27 : Cond.fieldLink RX3 27 (TX4 0).1 (TX4 0).2.1 (TX4 0).2.2.1 ∈ jTW := jTW_mem (k := 302) (by decide +kernel) rfl
theorem lk_X3_32 : Cond.fieldLink RX3 32 (TX4 2).1 (TX4 2).2.1 (TX4 2).2.2.1 ∈ jTW := jTW_mem (k := 314) (by decide +kernel) rfl
theorem lm_X3_35 : Cond.methodLink RX3 35 yX3_insert ∈ jTW := jTW_mem (k := 1280) (by decide +kernel) rfl
theorem d_X3_hears_0 : decode (D_X3_hears).2.1 0 = .ok (.aload_n 0, 1) := by decide +kernel
theorem d_X3_hears_1 : decode (D_X3_hears).2.1 1 = .ok (.iconst 0, 1) := by decide +kernel
theorem d_X3_hears_2 : decode (D_X3_hears).2.1 2 = .ok (.putfield 9, 3) := by decide +kernel
theorem d_X3_hears_5 : decode (D_X3_hears).2.1 5 = .ok (.iconst 0, 1) := by decide +kernel
theorem d_X3_hears_6 : decode (D_X3_hears).2.1 6 = .ok (.istore 4, 2) := by decide +kernel
theorem d_X3_hears_8 : decode (D_X3_hears).2.1 8 = .ok (.iload 4, 2) := by decide +kernel
theorem d_X3_hears_10 : decode (D_X3_hears).2.1 10 = .ok (.iload_n 3, 1) := by decide +kernel
theorem d_X3_hears_11 : decode (D_X3_hears).2.1 11 = .ok (.if_icmp .ge 115, 3) := by decide +kernel
theorem d_X3_hears_14 : decode (D_X3_hears).2.1 14 = .ok (.iconst 3, 1) := by decide +kernel
theorem d_X3_hears_15 : decode (D_X3_hears).2.1 15 = .ok (.iload 4, 2) := by decide +kernel
theorem d_X3_hears_17 : decode (D_X3_hears).2.1 17 = .ok (.imul, 1) := by decide +kernel
theorem d_X3_hears_18 : decode (D_X3_hears).2.1 18 = .ok (.iconst 2, 1) := by decide +kernel
theorem d_X3_hears_19 : decode (D_X3_hears).2.1 19 = .ok (.iadd, 1) := by decide +kernel
theorem d_X3_hears_20 : decode (D_X3_hears).2.1 20 = .ok (.aload_n 2, 1) := by decide +kernel
theorem d_X3_hears_21 : decode (D_X3_hears).2.1 21 = .ok (.arraylength, 1) := by decide +kernel
theorem d_X3_hears_22 : decode (D_X3_hears).2.1 22 = .ok (.if_icmp .ge 104, 3) := by decide +kernel
theorem d_X3_hears_25 : decode (D_X3_hears).2.1 25 = .ok (.aload_n 2, 1) := by decide +kernel
theorem d_X3_hears_26 : decode (D_X3_hears).2.1 26 = .ok (.iconst 3, 1) := by decide +kernel
theorem d_X3_hears_27 : decode (D_X3_hears).2.1 27 = .ok (.iload 4, 2) := by decide +kernel
theorem d_X3_hears_29 : decode (D_X3_hears).2.1 29 = .ok (.imul, 1) := by decide +kernel
theorem d_X3_hears_30 : decode (D_X3_hears).2.1 30 = .ok (.laload, 1) := by decide +kernel
theorem d_X3_hears_31 : decode (D_X3_hears).2.1 31 = .ok (.lstore 5, 2) := by decide +kernel
theorem d_X3_hears_33 : decode (D_X3_hears).2.1 33 = .ok (.aload_n 2, 1) := by decide +kernel
theorem d_X3_hears_34 : decode (D_X3_hears).2.1 34 = .ok (.iconst 3, 1) := by decide +kernel
theorem d_X3_hears_35 : decode (D_X3_hears).2.1 35 = .ok (.iload 4, 2) := by decide +kernel
theorem d_X3_hears_37 : decode (D_X3_hears).2.1 37 = .ok (.imul, 1) := by decide +kernel
theorem d_X3_hears_38 : decode (D_X3_hears).2.1 38 = .ok (.iconst 1, 1) := by decide +kernel
theorem d_X3_hears_39 : decode (D_X3_hears).2.1 39 = .ok (.iadd, 1) := by decide +kernel
theorem d_X3_hears_40 : decode (D_X3_hears).2.1 40 = .ok (.laload, 1) := by decide +kernel
theorem d_X3_hears_41 : decode (D_X3_hears).2.1 41 = .ok (.lstore 7, 2) := by decide +kernel
theorem d_X3_hears_43 : decode (D_X3_hears).2.1 43 = .ok (.aload_n 2, 1) := by decide +kernel
theorem d_X3_hears_44 : decode (D_X3_hears).2.1 44 = .ok (.iconst 3, 1) := by decide +kernel
theorem d_X3_hears_45 : decode (D_X3_hears).2.1 45 = .ok (.iload 4, 2) := by decide +kernel
theorem d_X3_hears_47 : decode (D_X3_hears).2.1 47 = .ok (.imul, 1) := by decide +kernel
theorem d_X3_hears_48 : decode (D_X3_hears).2.1 48 = .ok (.iconst 2, 1) := by decide +kernel
theorem d_X3_hears_49 : decode (D_X3_hears).2.1 49 = .ok (.iadd, 1) := by decide +kernel
theorem d_X3_hears_50 : decode (D_X3_hears).2.1 50 = .ok (.laload, 1) := by decide +kernel
theorem d_X3_hears_51 : decode (D_X3_hears).2.1 51 = .ok (.lstore 9, 2) := by decide +kernel
theorem d_X3_hears_53 : decode (D_X3_hears).2.1 53 = .ok (.lload 5, 2) := by decide +kernel
theorem d_X3_hears_55 : decode (D_X3_hears).2.1 55 = .ok (.lconst 0, 1) := by decide +kernel
theorem d_X3_hears_56 : decode (D_X3_hears).2.1 56 = .ok (.lcmp, 1) := by decide +kernel
theorem d_X3_hears_57 : decode (D_X3_hears).2.1 57 = .ok (.ifCond .lt 48, 3) := by decide +kernel
theorem d_X3_hears_60 : decode (D_X3_hears).2.1 60 = .ok (.lload 5, 2) := by decide +kernel
theorem d_X3_hears_62 : decode (D_X3_hears).2.1 62 = .ok (.ldc2_w 25, 3) := by decide +kernel
theorem d_X3_hears_65 : decode (D_X3_hears).2.1 65 = .ok (.lcmp, 1) := by decide +kernel
theorem d_X3_hears_66 : decode (D_X3_hears).2.1 66 = .ok (.ifCond .gt 39, 3) := by decide +kernel
theorem d_X3_hears_69 : decode (D_X3_hears).2.1 69 = .ok (.lload 7, 2) := by decide +kernel
theorem d_X3_hears_71 : decode (D_X3_hears).2.1 71 = .ok (.lconst 1, 1) := by decide +kernel
theorem d_X3_hears_72 : decode (D_X3_hears).2.1 72 = .ok (.lcmp, 1) := by decide +kernel
theorem d_X3_hears_73 : decode (D_X3_hears).2.1 73 = .ok (.ifCond .lt 32, 3) := by decide +kernel
theorem d_X3_hears_76 : decode (D_X3_hears).2.1 76 = .ok (.lload 7, 2) := by decide +kernel
theorem d_X3_hears_78 : decode (D_X3_hears).2.1 78 = .ok (.aload_n 1, 1) := by decide +kernel
theorem d_X3_hears_79 : decode (D_X3_hears).2.1 79 = .ok (.getfield 27, 3) := by decide +kernel
theorem d_X3_hears_82 : decode (D_X3_hears).2.1 82 = .ok (.i2l, 1) := by decide +kernel
theorem d_X3_hears_83 : decode (D_X3_hears).2.1 83 = .ok (.lcmp, 1) := by decide +kernel
theorem d_X3_hears_84 : decode (D_X3_hears).2.1 84 = .ok (.ifCond .ge 21, 3) := by decide +kernel
theorem d_X3_hears_87 : decode (D_X3_hears).2.1 87 = .ok (.lload 9, 2) := by decide +kernel
theorem d_X3_hears_89 : decode (D_X3_hears).2.1 89 = .ok (.lconst 0, 1) := by decide +kernel
theorem d_X3_hears_90 : decode (D_X3_hears).2.1 90 = .ok (.lcmp, 1) := by decide +kernel
theorem d_X3_hears_91 : decode (D_X3_hears).2.1 91 = .ok (.ifCond .lt 14, 3) := by decide +kernel
theorem d_X3_hears_94 : decode (D_X3_hears).2.1 94 = .ok (.lload 9, 2) := by decide +kernel
theorem d_X3_hears_96 : decode (D_X3_hears).2.1 96 = .ok (.aload_n 1, 1) := by decide +kernel
theorem d_X3_hears_97 : decode (D_X3_hears).2.1 97 = .ok (.getfield 32, 3) := by decide +kernel
theorem d_X3_hears_100 : decode (D_X3_hears).2.1 100 = .ok (.i2l, 1) := by decide +kernel
theorem d_X3_hears_101 : decode (D_X3_hears).2.1 101 = .ok (.lcmp, 1) := by decide +kernel
theorem d_X3_hears_102 : decode (D_X3_hears).2.1 102 = .ok (.ifCond .lt 5, 3) := by decide +kernel
theorem d_X3_hears_105 : decode (D_X3_hears).2.1 105 = .ok (.iconst 0, 1) := by decide +kernel
theorem d_X3_hears_106 : decode (D_X3_hears).2.1 106 = .ok (.ireturn, 1) := by decide +kernel
theorem d_X3_hears_107 : decode (D_X3_hears).2.1 107 = .ok (.aload_n 0, 1) := by decide +kernel
theorem d_X3_hears_108 : decode (D_X3_hears).2.1 108 = .ok (.lload 5, 2) := by decide +kernel
theorem d_X3_hears_110 : decode (D_X3_hears).2.1 110 = .ok (.l2i, 1) := by decide +kernel
theorem d_X3_hears_111 : decode (D_X3_hears).2.1 111 = .ok (.lload 7, 2) := by decide +kernel
theorem d_X3_hears_113 : decode (D_X3_hears).2.1 113 = .ok (.l2i, 1) := by decide +kernel
theorem d_X3_hears_114 : decode (D_X3_hears).2.1 114 = .ok (.lload 9, 2) := by decide +kernel
theorem d_X3_hears_116 : decode (D_X3_hears).2.1 116 = .ok (.l2i, 1) := by decide +kernel
theorem d_X3_hears_117 : decode (D_X3_hears).2.1 117 = .ok (.invokevirtual 35, 3) := by decide +kernel
theorem d_X3_hears_120 : decode (D_X3_hears).2.1 120 = .ok (.iinc 4 1, 3) := by decide +kernel
theorem d_X3_hears_123 : decode (D_X3_hears).2.1 123 = .ok (.goto (-115), 3) := by decide +kernel
theorem d_X3_hears_126 : decode (D_X3_hears).2.1 126 = .ok (.iconst 1, 1) := by decide +kernel
theorem d_X3_hears_127 : decode (D_X3_hears).2.1 127 = .ok (.ireturn, 1) := by decide +kernel
def f_X3_hears_L8 (n : Nat) (p1 : Nat) (p2 : Nat) : Nat → Int → Int → JMem → Option (Int × JMem)
  | 0, _, _, _ => none
  | k + 1, v3, v4, M => if jw v3 ≤ jw v4 then (some (1, M)) else (if jw 60 ≤ jw ((3 * v4) + 2) then (some (1, M)) else (chk (jin (3 * v4) 60) <| letv (M p2 (jw (3 * v4)).toNat) fun y1 => chk (jin ((3 * v4) + 1) 60) <| letv (M p2 (jw ((3 * v4) + 1)).toNat) fun y2 => chk (jin ((3 * v4) + 2) 60) <| letv (M p2 (jw ((3 * v4) + 2)).toNat) fun y3 => if jw (jcmp y1 0) < 0 then (some (0, M)) else (if 0 < jw (jcmp y1 64) then (some (0, M)) else (if jw (jcmp y2 1) < 0 then (some (0, M)) else (if 0 ≤ jw (jcmp y2 (jw (M p1 0))) then (some (0, M)) else (if jw (jcmp y3 0) < 0 then (some (0, M)) else (if jw (jcmp y3 (jw (M p1 2))) < 0 then (bnd (f_X3_insert n y1 y2 y3 M) fun _ M5 => letv (v4 + 1) fun y6 => (f_X3_hears_L8 n p1 p2 k) v3 y6 M5) else (some (0, M)))))))))
set_option maxRecDepth 4000 in
theorem t_X3_hears_L8 {g : JG} {ad : Nat → Nat} (hs : jStr g ad) (n : Nat) (p1 : Nat) (p2 : Nat) (hp1 : jK jNN (0, 4) p1) (hp2 : jK jNN (2, 60) p2) : ∀ (k : Nat) (v3 v4 : Int) (M : JMem), jB g D_X3_hears ad 8 [some (.ref 82), some (.ref p1), some (.ref p2), some (ji v3), some (ji v4), none, none, none, none, none, none] [] M (f_X3_hears_L8 n p1 p2 k v3 v4 M) := by
  intro k
  induction k with
  | zero => intro v3 v4 M; exact jO.none
  | succ k ih =>
    intro v3 v4 M
    rw [f_X3_hears_L8]
    refine jo_iloadW 4 d_X3_hears_8 rfl ?_
    refine jo_iload 3 d_X3_hears_10 rfl rfl ?_
    refine jo_icmp_ge 126 d_X3_hears_11 (by decide) ?_ ?_
    · skip
      refine jo_iconst 1 d_X3_hears_126 ?_
      exact jo_zret rfl (by decide) d_X3_hears_127
    · skip
      refine jo_iconst 3 d_X3_hears_14 ?_
      refine jo_iloadW 4 d_X3_hears_15 rfl ?_
      refine jo_imul d_X3_hears_17 ?_
      refine jo_iconst 2 d_X3_hears_18 ?_
      refine jo_iadd d_X3_hears_19 ?_
      refine jo_aload 2 d_X3_hears_20 rfl rfl ?_
      refine jo_alenL (N := 60) hp2 d_X3_hears_21 ?_
      refine jo_icmp_ge 126 d_X3_hears_22 (by decide) ?_ ?_
      · skip
        refine jo_iconst 1 d_X3_hears_126 ?_
        exact jo_zret rfl (by decide) d_X3_hears_127
      · skip
        refine jo_aload 2 d_X3_hears_25 rfl rfl ?_
        refine jo_iconst 3 d_X3_hears_26 ?_
        refine jo_iloadW 4 d_X3_hears_27 rfl ?_
        refine jo_imul d_X3_hears_29 ?_
        refine jo_lald (N := 60) hp2 d_X3_hears_30 ?_
        refine jo_lstoreW 5 d_X3_hears_31 (Nat.le_of_ble_eq_true rfl) (fun y1 => ?_)
        refine jo_aload 2 d_X3_hears_33 rfl rfl ?_
        refine jo_iconst 3 d_X3_hears_34 ?_
        refine jo_iloadW 4 d_X3_hears_35 rfl ?_
        refine jo_imul d_X3_hears_37 ?_
        refine jo_iconst 1 d_X3_hears_38 ?_
        refine jo_iadd d_X3_hears_39 ?_
        refine jo_lald (N := 60) hp2 d_X3_hears_40 ?_
        refine jo_lstoreW 7 d_X3_hears_41 (Nat.le_of_ble_eq_true rfl) (fun y2 => ?_)
        refine jo_aload 2 d_X3_hears_43 rfl rfl ?_
        refine jo_iconst 3 d_X3_hears_44 ?_
        refine jo_iloadW 4 d_X3_hears_45 rfl ?_
        refine jo_imul d_X3_hears_47 ?_
        refine jo_iconst 2 d_X3_hears_48 ?_
        refine jo_iadd d_X3_hears_49 ?_
        refine jo_lald (N := 60) hp2 d_X3_hears_50 ?_
        refine jo_lstoreW 9 d_X3_hears_51 (Nat.le_of_ble_eq_true rfl) (fun y3 => ?_)
        refine jo_lloadW 5 d_X3_hears_53 rfl ?_
        refine jo_lconst0 d_X3_hears_55 ?_
        refine jo_lcmp d_X3_hears_56 ?_
        refine jo_if_lt 105 d_X3_hears_57 (by decide) ?_ ?_
        · skip
          refine jo_iconst 0 d_X3_hears_105 ?_
          exact jo_zret rfl (by decide) d_X3_hears_106
        · skip
          refine jo_lloadW 5 d_X3_hears_60 rfl ?_
          refine jo_ldc2 64 lc_X3_25 d_X3_hears_62 ?_
          refine jo_lcmp d_X3_hears_65 ?_
          refine jo_if_gt 105 d_X3_hears_66 (by decide) ?_ ?_
          · skip
            refine jo_iconst 0 d_X3_hears_105 ?_
            exact jo_zret rfl (by decide) d_X3_hears_106
          · skip
            refine jo_lloadW 7 d_X3_hears_69 rfl ?_
            refine jo_lconst1 d_X3_hears_71 ?_
            refine jo_lcmp d_X3_hears_72 ?_
            refine jo_if_lt 105 d_X3_hears_73 (by decide) ?_ ?_
            · skip
              refine jo_iconst 0 d_X3_hears_105 ?_
              exact jo_zret rfl (by decide) d_X3_hears_106
            · skip
              refine jo_lloadW 7 d_X3_hears_76 rfl ?_
              refine jo_aload 1 d_X3_hears_78 rfl rfl ?_
              refine jo_getI (k := 0) cl_4 (Nat.le_of_ble_eq_true rfl) lk_X3_27 (Or.inl rfl) hp1 d_X3_hears_79 ?_
              refine jo_i2l d_X3_hears_82 ?_
              refine jo_lcmp d_X3_hears_83 ?_
              refine jo_if_ge 105 d_X3_hears_84 (by decide) ?_ ?_
              · skip
                refine jo_iconst 0 d_X3_hears_105 ?_
                exact jo_zret rfl (by decide) d_X3_hears_106
              · skip
                refine jo_lloadW 9 d_X3_hears_87 rfl ?_
                refine jo_lconst0 d_X3_hears_89 ?_
                refine jo_lcmp d_X3_hears_90 ?_
                refine jo_if_lt 105 d_X3_hears_91 (by decide) ?_ ?_
                · skip
                  refine jo_iconst 0 d_X3_hears_105 ?_
                  exact jo_zret rfl (by decide) d_X3_hears_106
                · skip
                  refine jo_lloadW 9 d_X3_hears_94 rfl ?_
                  refine jo_aload 1 d_X3_hears_96 rfl rfl ?_
                  refine jo_getI (k := 2) cl_4 (Nat.le_of_ble_eq_true rfl) lk_X3_32 (Or.inl rfl) hp1 d_X3_hears_97 ?_
                  refine jo_i2l d_X3_hears_100 ?_
                  refine jo_lcmp d_X3_hears_101 ?_
                  refine jo_if_lt 107 d_X3_hears_102 (by decide) ?_ ?_
                  · skip
                    refine jo_aload 0 d_X3_hears_107 rfl rfl ?_
                    refine jo_lloadW 5 d_X3_hears_108 rfl ?_
                    refine jo_l2i d_X3_hears_110 ?_
                    refine jo_lloadW 7 d_X3_hears_111 rfl ?_
                    refine jo_l2i d_X3_hears_113 ?_
                    refine jo_lloadW 9 d_X3_hears_114 rfl ?_
                    refine jo_l2i d_X3_hears_116 ?_
                    refine jo_callV (st := []) (m_X3_insert hs n y1 y2 y3 M) ok_X3_insert (And.intro (Nat.le_of_ble_eq_true rfl) (Nat.le_of_ble_eq_true rfl)) lm_X3_35 in_X3_insert se_X3_insert rfl kc_82 rfl rfl (And.intro (Nat.zero_le _) (Nat.zero_le _)) rfl (Nat.le_of_ble_eq_true rfl) d_X3_hears_117 (fun _ M5 => ?_)
                    refine jo_iinc 4 d_X3_hears_120 rfl (Nat.le_of_ble_eq_true rfl) (fun y6 => ?_)
                    refine jo_goto 8 d_X3_hears_123 (by decide) ?_
                    exact jO.sub (ih v3 y6 M5) (And.intro rfl (And.intro rfl (And.intro rfl (And.intro rfl (And.intro rfl True.intro)))))
                  · skip
                    refine jo_iconst 0 d_X3_hears_105 ?_
                    exact jo_zret rfl (by decide) d_X3_hears_106
def f_X3_hears (n : Nat) (p1 : Nat) (p2 : Nat) (x3 : Int) (M : JMem) : Option (Int × JMem) := letm (jup M 82 0 0) fun M1 => letv 0 fun y2 => f_X3_hears_L8 n p1 p2 n x3 y2 M1
set_option maxRecDepth 4000 in
theorem t_X3_hears {g : JG} {ad : Nat → Nat} (hs : jStr g ad) (n : Nat) (p1 : Nat) (p2 : Nat) (x3 : Int) (hp1 : jK jNN (0, 4) p1) (hp2 : jK jNN (2, 60) p2) (M : JMem) : jB g D_X3_hears ad 0 [some (.ref 82), some (.ref p1), some (.ref p2), some (ji x3), none, none, none, none, none, none, none] [] M (f_X3_hears n p1 p2 x3 M) := by
  unfold f_X3_hears
  refine jo_aload 0 d_X3_hears_0 rfl rfl ?_
  refine jo_iconst 0 d_X3_hears_1 ?_
  refine jo_putI (k := 0) cl_3 (Nat.le_of_ble_eq_true rfl) lk_X3_9 rfl rfl kc_82 d_X3_hears_2 (fun M1 => ?_)
  refine jo_iconst 0 d_X3_hears_5 ?_
  refine jo_istoreW 4 d_X3_hears_6 (Nat.le_of_ble_eq_true rfl) (fun y2 => ?_)
  exact jO.sub (t_X3_hears_L8 hs n p1 p2 hp1 hp2 n x3 y2 M1) (And.intro rfl (And.intro rfl (And.intro rfl (And.intro rfl (And.intro rfl True.intro)))))
theorem m_X3_hears {g : JG} {ad : Nat → Nat} (hs : jStr g ad) (n : Nat) (p1 : Nat) (p2 : Nat) (x3 : Int) (hp1 : jK jNN (0, 4) p1) (hp2 : jK jNN (2, 60) p2) (M : JMem) : jMet g jNN ad jR D_X3_hears yX3_hears [.ref 82, .ref p1, .ref p2, ji x3] M (f_X3_hears n p1 p2 x3 M) :=
  jMet.of (lo0 := [some (.ref 82), some (.ref p1), some (.ref p2), some (ji x3), none, none, none, none, none, none, none]) (by decide) rfl rfl (Nat.le_of_ble_eq_true rfl) (And.intro rfl (And.intro rfl (And.intro rfl (And.intro rfl True.intro)))) (t_X3_hears hs n p1 p2 x3 hp1 hp2 M)
/-! CageLeave$Parrot.slipsIf(LCageLeave$Plan;LCageLeave$Now;LCageLeave$Now;I)I -/
def D_X3_slipsIf : JD := (RX3, cX3_slipsIf, 7, some .int, "slipsIf", { frames := 4, cells := 0, slots := 0, locals := 104 })
theorem ok_X3_slipsIf : jOk D_X3_slipsIf yX3_slipsIf 4 := ⟨jTW_mem (k := 1291) (by decide +kernel) rfl, jTW_mem (k := 149) (by decide +kernel) rfl, ⟨by decide +kernel, by decide +kernel⟩, by decide +kernel, rfl, rfl⟩
theorem in_X3_slipsIf : Cond.instanceMethod yX3_slipsIf ∈ jTW := jTW_mem (k := 1289) (by decide +kernel) rfl
theorem se_X3_slipsIf : Cond.selects yX3_slipsIf.cls yX3_slipsIf yX3_slipsIf ∈ jTW := jTW_mem (k := 1290) (by decide +kernel) rfl
theorem lm_X3_45 : Cond.methodLink RX3 45 yX1_passUntil ∈ jTW := jTW_mem (k := 1293) (by decide +kernel) rfl
theorem lk_X3_49 : Cond.fieldLink RX3 49 (TX1 7).1 (TX1 7).2.1 (TX1 7).2.2.1 ∈ jTW := jTW_mem (k := 419) (by decide +kernel) rfl
theorem lm_X3_52 : Cond.methodLinkNest RX3 52 yX11_isIn "CageLeave" ∈ jNW := by decide +kernel
theorem lm_X3_39 : Cond.methodLink RX3 39 yX1_letOut ∈ jTW := jTW_mem (k := 1292) (by decide +kernel) rfl
theorem d_X3_slipsIf_0 : decode (D_X3_slipsIf).2.1 0 = .ok (.aload_n 3, 1) := by decide +kernel
theorem d_X3_slipsIf_1 : decode (D_X3_slipsIf).2.1 1 = .ok (.aload_n 1, 1) := by decide +kernel
theorem d_X3_slipsIf_2 : decode (D_X3_slipsIf).2.1 2 = .ok (.aload_n 2, 1) := by decide +kernel
theorem d_X3_slipsIf_3 : decode (D_X3_slipsIf).2.1 3 = .ok (.iload 4, 2) := by decide +kernel
theorem d_X3_slipsIf_5 : decode (D_X3_slipsIf).2.1 5 = .ok (.invokevirtual 39, 3) := by decide +kernel
theorem d_X3_slipsIf_8 : decode (D_X3_slipsIf).2.1 8 = .ok (.iconst 0, 1) := by decide +kernel
theorem d_X3_slipsIf_9 : decode (D_X3_slipsIf).2.1 9 = .ok (.istore 5, 2) := by decide +kernel
theorem d_X3_slipsIf_11 : decode (D_X3_slipsIf).2.1 11 = .ok (.iconst 0, 1) := by decide +kernel
theorem d_X3_slipsIf_12 : decode (D_X3_slipsIf).2.1 12 = .ok (.istore 6, 2) := by decide +kernel
theorem d_X3_slipsIf_14 : decode (D_X3_slipsIf).2.1 14 = .ok (.iload 6, 2) := by decide +kernel
theorem d_X3_slipsIf_16 : decode (D_X3_slipsIf).2.1 16 = .ok (.aload_n 0, 1) := by decide +kernel
theorem d_X3_slipsIf_17 : decode (D_X3_slipsIf).2.1 17 = .ok (.getfield 9, 3) := by decide +kernel
theorem d_X3_slipsIf_20 : decode (D_X3_slipsIf).2.1 20 = .ok (.if_icmp .ge 50, 3) := by decide +kernel
theorem d_X3_slipsIf_23 : decode (D_X3_slipsIf).2.1 23 = .ok (.aload_n 3, 1) := by decide +kernel
theorem d_X3_slipsIf_24 : decode (D_X3_slipsIf).2.1 24 = .ok (.aload_n 1, 1) := by decide +kernel
theorem d_X3_slipsIf_25 : decode (D_X3_slipsIf).2.1 25 = .ok (.aload_n 0, 1) := by decide +kernel
theorem d_X3_slipsIf_26 : decode (D_X3_slipsIf).2.1 26 = .ok (.getfield 15, 3) := by decide +kernel
theorem d_X3_slipsIf_29 : decode (D_X3_slipsIf).2.1 29 = .ok (.iload 6, 2) := by decide +kernel
theorem d_X3_slipsIf_31 : decode (D_X3_slipsIf).2.1 31 = .ok (.iaload, 1) := by decide +kernel
theorem d_X3_slipsIf_32 : decode (D_X3_slipsIf).2.1 32 = .ok (.invokevirtual 45, 3) := by decide +kernel
theorem d_X3_slipsIf_35 : decode (D_X3_slipsIf).2.1 35 = .ok (.pop, 1) := by decide +kernel
theorem d_X3_slipsIf_36 : decode (D_X3_slipsIf).2.1 36 = .ok (.aload_n 3, 1) := by decide +kernel
theorem d_X3_slipsIf_37 : decode (D_X3_slipsIf).2.1 37 = .ok (.getfield 49, 3) := by decide +kernel
theorem d_X3_slipsIf_40 : decode (D_X3_slipsIf).2.1 40 = .ok (.aload_n 0, 1) := by decide +kernel
theorem d_X3_slipsIf_41 : decode (D_X3_slipsIf).2.1 41 = .ok (.getfield 19, 3) := by decide +kernel
theorem d_X3_slipsIf_44 : decode (D_X3_slipsIf).2.1 44 = .ok (.iload 6, 2) := by decide +kernel
theorem d_X3_slipsIf_46 : decode (D_X3_slipsIf).2.1 46 = .ok (.iaload, 1) := by decide +kernel
theorem d_X3_slipsIf_47 : decode (D_X3_slipsIf).2.1 47 = .ok (.iaload, 1) := by decide +kernel
theorem d_X3_slipsIf_48 : decode (D_X3_slipsIf).2.1 48 = .ok (.aload_n 0, 1) := by decide +kernel
theorem d_X3_slipsIf_49 : decode (D_X3_slipsIf).2.1 49 = .ok (.getfield 22, 3) := by decide +kernel
theorem d_X3_slipsIf_52 : decode (D_X3_slipsIf).2.1 52 = .ok (.iload 6, 2) := by decide +kernel
theorem d_X3_slipsIf_54 : decode (D_X3_slipsIf).2.1 54 = .ok (.iaload, 1) := by decide +kernel
theorem d_X3_slipsIf_55 : decode (D_X3_slipsIf).2.1 55 = .ok (.invokestatic 52, 3) := by decide +kernel
theorem d_X3_slipsIf_58 : decode (D_X3_slipsIf).2.1 58 = .ok (.ifCond .ne 6, 3) := by decide +kernel
theorem d_X3_slipsIf_61 : decode (D_X3_slipsIf).2.1 61 = .ok (.iinc 5 1, 3) := by decide +kernel
theorem d_X3_slipsIf_64 : decode (D_X3_slipsIf).2.1 64 = .ok (.iinc 6 1, 3) := by decide +kernel
theorem d_X3_slipsIf_67 : decode (D_X3_slipsIf).2.1 67 = .ok (.goto (-53), 3) := by decide +kernel
theorem d_X3_slipsIf_70 : decode (D_X3_slipsIf).2.1 70 = .ok (.iload 5, 2) := by decide +kernel
theorem d_X3_slipsIf_72 : decode (D_X3_slipsIf).2.1 72 = .ok (.ireturn, 1) := by decide +kernel
def f_X3_slipsIf_L64 (n : Nat) (p1 : Nat) (p2 : Nat) (p3 : Nat) (r14 : Int → Int → JMem → Option (Int × JMem)) (v5 v6 : Int) (M : JMem) : Option (Int × JMem) := letv (v6 + 1) fun y1 => r14 v5 y1 M
set_option maxRecDepth 4000 in
theorem t_X3_slipsIf_L64 {g : JG} {ad : Nat → Nat} (hs : jStr g ad) (n : Nat) (p1 : Nat) (p2 : Nat) (p3 : Nat) (hp1 : jK jNN (0, 4) p1) (hp2 : jK jNN (0, 1) p2) (hp3 : jK jNN (0, 1) p3) (r14 : Int → Int → JMem → Option (Int × JMem)) (hr14 : ∀ (v5 v6 : Int) (M : JMem), jB g D_X3_slipsIf ad 14 [some (.ref 82), some (.ref p1), none, some (.ref p3), none, some (ji v5), some (ji v6)] [] M (r14 v5 v6 M)) (v5 v6 : Int) (M : JMem) : jB g D_X3_slipsIf ad 64 [some (.ref 82), some (.ref p1), none, some (.ref p3), none, some (ji v5), some (ji v6)] [] M (f_X3_slipsIf_L64 n p1 p2 p3 r14 v5 v6 M) := by
  unfold f_X3_slipsIf_L64
  refine jo_iinc 6 d_X3_slipsIf_64 rfl (Nat.le_of_ble_eq_true rfl) (fun y1 => ?_)
  refine jo_goto 14 d_X3_slipsIf_67 (by decide) ?_
  exact jO.sub (hr14 v5 y1 M) (And.intro rfl (And.intro rfl (And.intro rfl (And.intro rfl (And.intro rfl True.intro)))))
def f_X3_slipsIf_L70 (n : Nat) (p1 : Nat) (p2 : Nat) (p3 : Nat) (v5 : Int) (M : JMem) : Option (Int × JMem) := some (v5, M)
set_option maxRecDepth 4000 in
theorem t_X3_slipsIf_L70 {g : JG} {ad : Nat → Nat} (hs : jStr g ad) (n : Nat) (p1 : Nat) (p2 : Nat) (p3 : Nat) (hp1 : jK jNN (0, 4) p1) (hp2 : jK jNN (0, 1) p2) (hp3 : jK jNN (0, 1) p3) (v5 : Int) (M : JMem) : jB g D_X3_slipsIf ad 70 [none, none, none, none, none, some (ji v5), none] [] M (f_X3_slipsIf_L70 n p1 p2 p3 v5 M) := by
  unfold f_X3_slipsIf_L70
  refine jo_iloadW 5 d_X3_slipsIf_70 rfl ?_
  exact jo_iret rfl d_X3_slipsIf_72
def f_X3_slipsIf_L14 (n : Nat) (p1 : Nat) (p2 : Nat) (p3 : Nat) : Nat → Int → Int → JMem → Option (Int × JMem)
  | 0, _, _, _ => none
  | k + 1, v5, v6, M => if jw (M 82 0) ≤ jw v6 then (f_X3_slipsIf_L70 n p1 p2 p3 v5 M) else (chk (jin v6 20) <| bnd (f_X1_passUntil n p3 p1 (M 83 (jw v6).toNat) M) fun r1 M2 => chk (jin v6 20) <| chk (jin (M2 84 (jw v6).toNat) 6) <| chk (jin v6 20) <| bnd (f_X11_isIn n (M2 (p3 + 3) (jw (M2 84 (jw v6).toNat)).toNat) (M2 85 (jw v6).toNat) M2) fun r3 M4 => if jw r3 = 0 then (letv (v5 + 1) fun y5 => f_X3_slipsIf_L64 n p1 p2 p3 (f_X3_slipsIf_L14 n p1 p2 p3 k) y5 v6 M4) else (f_X3_slipsIf_L64 n p1 p2 p3 (f_X3_slipsIf_L14 n p1 p2 p3 k) v5 v6 M4))
set_option maxRecDepth 4000 in
theorem t_X3_slipsIf_L14 {g : JG} {ad : Nat → Nat} (hs : jStr g ad) (n : Nat) (p1 : Nat) (p2 : Nat) (p3 : Nat) (hp1 : jK jNN (0, 4) p1) (hp2 : jK jNN (0, 1) p2) (hp3 : jK jNN (0, 1) p3) : ∀ (k : Nat) (v5 v6 : Int) (M : JMem), jB g D_X3_slipsIf ad 14 [some (.ref 82), some (.ref p1), none, some (.ref p3), none, some (ji v5), some (ji v6)] [] M (f_X3_slipsIf_L14 n p1 p2 p3 k v5 v6 M) := by
  intro k
  induction k with
  | zero => intro v5 v6 M; exact jO.none
  | succ k ih =>
    intro v5 v6 M
    rw [f_X3_slipsIf_L14]
    refine jo_iloadW 6 d_X3_slipsIf_14 rfl ?_
    refine jo_aload 0 d_X3_slipsIf_16 rfl rfl ?_
    refine jo_getI (k := 0) cl_3 (Nat.le_of_ble_eq_true rfl) lk_X3_9 (Or.inl rfl) kc_82 d_X3_slipsIf_17 ?_
    refine jo_icmp_ge 70 d_X3_slipsIf_20 (by decide) ?_ ?_
    · skip
      exact jO.sub (t_X3_slipsIf_L70 hs n p1 p2 p3 hp1 hp2 hp3 v5 M) (And.intro rfl True.intro)
    · skip
      refine jo_aload 3 d_X3_slipsIf_23 rfl rfl ?_
      refine jo_aload 1 d_X3_slipsIf_24 rfl rfl ?_
      refine jo_aload 0 d_X3_slipsIf_25 rfl rfl ?_
      refine jo_getR (k := 1) cl_3 (Nat.le_of_ble_eq_true rfl) lk_X3_15 rfl kc_82 kr_82_1 d_X3_slipsIf_26 ?_
      refine jo_iloadW 6 d_X3_slipsIf_29 rfl ?_
      refine jo_iald (N := 20) kc_83 d_X3_slipsIf_31 ?_
      refine jo_callV (st := []) (m_X1_passUntil hs n p3 p1 (M 83 (jw v6).toNat) hp3 hp1 M) ok_X1_passUntil (And.intro (Nat.le_of_ble_eq_true rfl) (Nat.le_of_ble_eq_true rfl)) lm_X3_45 in_X1_passUntil se_X1_passUntil rfl hp3 rfl rfl (And.intro (Nat.zero_le _) (Nat.zero_le _)) rfl (Nat.le_of_ble_eq_true rfl) d_X3_slipsIf_32 (fun r1 M2 => ?_)
      refine jo_pop d_X3_slipsIf_35 rfl ?_
      refine jo_aload 3 d_X3_slipsIf_36 rfl rfl ?_
      refine jo_getR (k := 7) cl_1 (Nat.le_of_ble_eq_true rfl) lk_X3_49 rfl hp3 (kr_Now_7 hp3) d_X3_slipsIf_37 ?_
      refine jo_aload 0 d_X3_slipsIf_40 rfl rfl ?_
      refine jo_getR (k := 2) cl_3 (Nat.le_of_ble_eq_true rfl) lk_X3_19 rfl kc_82 kr_82_2 d_X3_slipsIf_41 ?_
      refine jo_iloadW 6 d_X3_slipsIf_44 rfl ?_
      refine jo_iald (N := 20) kc_84 d_X3_slipsIf_46 ?_
      refine jo_iald (N := 6) (ka_Now_7 hp3) d_X3_slipsIf_47 ?_
      refine jo_aload 0 d_X3_slipsIf_48 rfl rfl ?_
      refine jo_getR (k := 3) cl_3 (Nat.le_of_ble_eq_true rfl) lk_X3_22 rfl kc_82 kr_82_3 d_X3_slipsIf_49 ?_
      refine jo_iloadW 6 d_X3_slipsIf_52 rfl ?_
      refine jo_iald (N := 20) kc_85 d_X3_slipsIf_54 ?_
      refine jo_callSN (st := []) (m_X11_isIn hs n (M2 (p3 + 3) (jw (M2 84 (jw v6).toNat)).toNat) (M2 85 (jw v6).toNat) M2) ok_X11_isIn (And.intro (Nat.le_of_ble_eq_true rfl) (Nat.le_of_ble_eq_true rfl)) lm_X3_52 st_X11_isIn rfl (And.intro (Nat.zero_le _) (Nat.zero_le _)) rfl (Nat.le_of_ble_eq_true rfl) d_X3_slipsIf_55 (fun r3 M4 => ?_)
      refine jo_if_ne 64 d_X3_slipsIf_58 (by decide) ?_ ?_
      · skip
        exact jO.sub (t_X3_slipsIf_L64 hs n p1 p2 p3 hp1 hp2 hp3 (f_X3_slipsIf_L14 n p1 p2 p3 k) ih v5 v6 M4) (And.intro rfl (And.intro rfl (And.intro rfl (And.intro rfl (And.intro rfl True.intro)))))
      · skip
        refine jo_iinc 5 d_X3_slipsIf_61 rfl (Nat.le_of_ble_eq_true rfl) (fun y5 => ?_)
        exact jO.sub (t_X3_slipsIf_L64 hs n p1 p2 p3 hp1 hp2 hp3 (f_X3_slipsIf_L14 n p1 p2 p3 k) ih y5 v6 M4) (And.intro rfl (And.intro rfl (And.intro rfl (And.intro rfl (And.intro rfl True.intro)))))
def f_X3_slipsIf (n : Nat) (p1 : Nat) (p2 : Nat) (p3 : Nat) (x4 : Int) (M : JMem) : Option (Int × JMem) := bnd (f_X1_letOut n p3 p1 p2 x4 M) fun _ M2 => letv 0 fun y3 => letv 0 fun y4 => f_X3_slipsIf_L14 n p1 p2 p3 n y3 y4 M2
set_option maxRecDepth 4000 in
theorem t_X3_slipsIf {g : JG} {ad : Nat → Nat} (hs : jStr g ad) (n : Nat) (p1 : Nat) (p2 : Nat) (p3 : Nat) (x4 : Int) (hp1 : jK jNN (0, 4) p1) (hp2 : jK jNN (0, 1) p2) (hp3 : jK jNN (0, 1) p3) (M : JMem) : jB g D_X3_slipsIf ad 0 [some (.ref 82), some (.ref p1), some (.ref p2), some (.ref p3), some (ji x4), none, none] [] M (f_X3_slipsIf n p1 p2 p3 x4 M) := by
  unfold f_X3_slipsIf
  refine jo_aload 3 d_X3_slipsIf_0 rfl rfl ?_
  refine jo_aload 1 d_X3_slipsIf_1 rfl rfl ?_
  refine jo_aload 2 d_X3_slipsIf_2 rfl rfl ?_
  refine jo_iloadW 4 d_X3_slipsIf_3 rfl ?_
  refine jo_callV (st := []) (m_X1_letOut hs n p3 p1 p2 x4 hp3 hp1 hp2 M) ok_X1_letOut (And.intro (Nat.le_of_ble_eq_true rfl) (Nat.le_of_ble_eq_true rfl)) lm_X3_39 in_X1_letOut se_X1_letOut rfl hp3 rfl rfl (And.intro (Nat.zero_le _) (Nat.zero_le _)) rfl (Nat.le_of_ble_eq_true rfl) d_X3_slipsIf_5 (fun _ M2 => ?_)
  refine jo_iconst 0 d_X3_slipsIf_8 ?_
  refine jo_istoreW 5 d_X3_slipsIf_9 (Nat.le_of_ble_eq_true rfl) (fun y3 => ?_)
  refine jo_iconst 0 d_X3_slipsIf_11 ?_
  refine jo_istoreW 6 d_X3_slipsIf_12 (Nat.le_of_ble_eq_true rfl) (fun y4 => ?_)
  exact jO.sub (t_X3_slipsIf_L14 hs n p1 p2 p3 hp1 hp2 hp3 n y3 y4 M2) (And.intro rfl (And.intro rfl (And.intro rfl (And.intro rfl (And.intro rfl True.intro)))))
theorem m_X3_slipsIf {g : JG} {ad : Nat → Nat} (hs : jStr g ad) (n : Nat) (p1 : Nat) (p2 : Nat) (p3 : Nat) (x4 : Int) (hp1 : jK jNN (0, 4) p1) (hp2 : jK jNN (0, 1) p2) (hp3 : jK jNN (0, 1) p3) (M : JMem) : jMet g jNN ad jR D_X3_slipsIf yX3_slipsIf [.ref 82, .ref p1, .ref p2, .ref p3, ji x4] M (f_X3_slipsIf n p1 p2 p3 x4 M) :=
  jMet.of (lo0 := [some (.ref 82), some (.ref p1), some (.ref p2), some (.ref p3), some (ji x4), none, none]) (by decide) rfl rfl (Nat.le_of_ble_eq_true rfl) (And.intro rfl (And.intro rfl (And.intro rfl (And.intro rfl (And.intro rfl True.intro))))) (t_X3_slipsIf hs n p1 p2 p3 x4 hp1 hp2 hp3 M)
/-! CageLeave$Plan.copyFrom(LCageLeave$Plan;)V -/
def D_X4_copyFrom : JD := (RX4, cX4_copyFrom, 2, none, "copyFrom", { frames := 1, cells := 0, slots := 0, locals := 60 })
theorem ok_X4_copyFrom : jOk D_X4_copyFrom yX4_copyFrom 1 := ⟨jTW_mem (k := 876) (by decide +kernel) rfl, jTW_mem (k := 143) (by decide +kernel) rfl, ⟨by decide +kernel, by decide +kernel⟩, by decide +kernel, rfl, rfl⟩
theorem in_X4_copyFrom : Cond.instanceMethod yX4_copyFrom ∈ jTW := jTW_mem (k := 874) (by decide +kernel) rfl
theorem se_X4_copyFrom : Cond.selects yX4_copyFrom.cls yX4_copyFrom yX4_copyFrom ∈ jTW := jTW_mem (k := 875) (by decide +kernel) rfl
theorem lm_X4_62 : Cond.methodLink RX4 62 arraycopyName ∈ jTW := jTW_mem (k := 877) (by decide +kernel) rfl
theorem d_X4_copyFrom_0 : decode (D_X4_copyFrom).2.1 0 = .ok (.aload_n 0, 1) := by decide +kernel
theorem d_X4_copyFrom_1 : decode (D_X4_copyFrom).2.1 1 = .ok (.aload_n 1, 1) := by decide +kernel
theorem d_X4_copyFrom_2 : decode (D_X4_copyFrom).2.1 2 = .ok (.getfield 9, 3) := by decide +kernel
theorem d_X4_copyFrom_5 : decode (D_X4_copyFrom).2.1 5 = .ok (.putfield 9, 3) := by decide +kernel
theorem d_X4_copyFrom_8 : decode (D_X4_copyFrom).2.1 8 = .ok (.aload_n 0, 1) := by decide +kernel
theorem d_X4_copyFrom_9 : decode (D_X4_copyFrom).2.1 9 = .ok (.aload_n 1, 1) := by decide +kernel
theorem d_X4_copyFrom_10 : decode (D_X4_copyFrom).2.1 10 = .ok (.getfield 15, 3) := by decide +kernel
theorem d_X4_copyFrom_13 : decode (D_X4_copyFrom).2.1 13 = .ok (.putfield 15, 3) := by decide +kernel
theorem d_X4_copyFrom_16 : decode (D_X4_copyFrom).2.1 16 = .ok (.aload_n 0, 1) := by decide +kernel
theorem d_X4_copyFrom_17 : decode (D_X4_copyFrom).2.1 17 = .ok (.aload_n 1, 1) := by decide +kernel
theorem d_X4_copyFrom_18 : decode (D_X4_copyFrom).2.1 18 = .ok (.getfield 18, 3) := by decide +kernel
theorem d_X4_copyFrom_21 : decode (D_X4_copyFrom).2.1 21 = .ok (.putfield 18, 3) := by decide +kernel
theorem d_X4_copyFrom_24 : decode (D_X4_copyFrom).2.1 24 = .ok (.aload_n 0, 1) := by decide +kernel
theorem d_X4_copyFrom_25 : decode (D_X4_copyFrom).2.1 25 = .ok (.aload_n 1, 1) := by decide +kernel
theorem d_X4_copyFrom_26 : decode (D_X4_copyFrom).2.1 26 = .ok (.getfield 21, 3) := by decide +kernel
theorem d_X4_copyFrom_29 : decode (D_X4_copyFrom).2.1 29 = .ok (.putfield 21, 3) := by decide +kernel
theorem d_X4_copyFrom_32 : decode (D_X4_copyFrom).2.1 32 = .ok (.aload_n 0, 1) := by decide +kernel
theorem d_X4_copyFrom_33 : decode (D_X4_copyFrom).2.1 33 = .ok (.aload_n 1, 1) := by decide +kernel
theorem d_X4_copyFrom_34 : decode (D_X4_copyFrom).2.1 34 = .ok (.getfield 24, 3) := by decide +kernel
theorem d_X4_copyFrom_37 : decode (D_X4_copyFrom).2.1 37 = .ok (.putfield 24, 3) := by decide +kernel
theorem d_X4_copyFrom_40 : decode (D_X4_copyFrom).2.1 40 = .ok (.aload_n 1, 1) := by decide +kernel
theorem d_X4_copyFrom_41 : decode (D_X4_copyFrom).2.1 41 = .ok (.getfield 27, 3) := by decide +kernel
theorem d_X4_copyFrom_44 : decode (D_X4_copyFrom).2.1 44 = .ok (.iconst 0, 1) := by decide +kernel
theorem d_X4_copyFrom_45 : decode (D_X4_copyFrom).2.1 45 = .ok (.aload_n 0, 1) := by decide +kernel
theorem d_X4_copyFrom_46 : decode (D_X4_copyFrom).2.1 46 = .ok (.getfield 27, 3) := by decide +kernel
theorem d_X4_copyFrom_49 : decode (D_X4_copyFrom).2.1 49 = .ok (.iconst 0, 1) := by decide +kernel
theorem d_X4_copyFrom_50 : decode (D_X4_copyFrom).2.1 50 = .ok (.bipush 22, 2) := by decide +kernel
theorem d_X4_copyFrom_52 : decode (D_X4_copyFrom).2.1 52 = .ok (.invokestatic 62, 3) := by decide +kernel
theorem d_X4_copyFrom_55 : decode (D_X4_copyFrom).2.1 55 = .ok (.aload_n 1, 1) := by decide +kernel
theorem d_X4_copyFrom_56 : decode (D_X4_copyFrom).2.1 56 = .ok (.getfield 31, 3) := by decide +kernel
theorem d_X4_copyFrom_59 : decode (D_X4_copyFrom).2.1 59 = .ok (.iconst 0, 1) := by decide +kernel
theorem d_X4_copyFrom_60 : decode (D_X4_copyFrom).2.1 60 = .ok (.aload_n 0, 1) := by decide +kernel
theorem d_X4_copyFrom_61 : decode (D_X4_copyFrom).2.1 61 = .ok (.getfield 31, 3) := by decide +kernel
theorem d_X4_copyFrom_64 : decode (D_X4_copyFrom).2.1 64 = .ok (.iconst 0, 1) := by decide +kernel
theorem d_X4_copyFrom_65 : decode (D_X4_copyFrom).2.1 65 = .ok (.bipush 22, 2) := by decide +kernel
theorem d_X4_copyFrom_67 : decode (D_X4_copyFrom).2.1 67 = .ok (.invokestatic 62, 3) := by decide +kernel
theorem d_X4_copyFrom_70 : decode (D_X4_copyFrom).2.1 70 = .ok (.aload_n 1, 1) := by decide +kernel
theorem d_X4_copyFrom_71 : decode (D_X4_copyFrom).2.1 71 = .ok (.getfield 35, 3) := by decide +kernel
theorem d_X4_copyFrom_74 : decode (D_X4_copyFrom).2.1 74 = .ok (.iconst 0, 1) := by decide +kernel
theorem d_X4_copyFrom_75 : decode (D_X4_copyFrom).2.1 75 = .ok (.aload_n 0, 1) := by decide +kernel
theorem d_X4_copyFrom_76 : decode (D_X4_copyFrom).2.1 76 = .ok (.getfield 35, 3) := by decide +kernel
theorem d_X4_copyFrom_79 : decode (D_X4_copyFrom).2.1 79 = .ok (.iconst 0, 1) := by decide +kernel
theorem d_X4_copyFrom_80 : decode (D_X4_copyFrom).2.1 80 = .ok (.bipush 22, 2) := by decide +kernel
theorem d_X4_copyFrom_82 : decode (D_X4_copyFrom).2.1 82 = .ok (.invokestatic 62, 3) := by decide +kernel
theorem d_X4_copyFrom_85 : decode (D_X4_copyFrom).2.1 85 = .ok (.aload_n 1, 1) := by decide +kernel
theorem d_X4_copyFrom_86 : decode (D_X4_copyFrom).2.1 86 = .ok (.getfield 38, 3) := by decide +kernel
theorem d_X4_copyFrom_89 : decode (D_X4_copyFrom).2.1 89 = .ok (.iconst 0, 1) := by decide +kernel
theorem d_X4_copyFrom_90 : decode (D_X4_copyFrom).2.1 90 = .ok (.aload_n 0, 1) := by decide +kernel
theorem d_X4_copyFrom_91 : decode (D_X4_copyFrom).2.1 91 = .ok (.getfield 38, 3) := by decide +kernel
theorem d_X4_copyFrom_94 : decode (D_X4_copyFrom).2.1 94 = .ok (.iconst 0, 1) := by decide +kernel
theorem d_X4_copyFrom_95 : decode (D_X4_copyFrom).2.1 95 = .ok (.bipush 8, 2) := by decide +kernel
theorem d_X4_copyFrom_97 : decode (D_X4_copyFrom).2.1 97 = .ok (.invokestatic 62, 3) := by decide +kernel
theorem d_X4_copyFrom_100 : decode (D_X4_copyFrom).2.1 100 = .ok (.aload_n 1, 1) := by decide +kernel
theorem d_X4_copyFrom_101 : decode (D_X4_copyFrom).2.1 101 = .ok (.getfield 41, 3) := by decide +kernel
theorem d_X4_copyFrom_104 : decode (D_X4_copyFrom).2.1 104 = .ok (.iconst 0, 1) := by decide +kernel
theorem d_X4_copyFrom_105 : decode (D_X4_copyFrom).2.1 105 = .ok (.aload_n 0, 1) := by decide +kernel
theorem d_X4_copyFrom_106 : decode (D_X4_copyFrom).2.1 106 = .ok (.getfield 41, 3) := by decide +kernel
theorem d_X4_copyFrom_109 : decode (D_X4_copyFrom).2.1 109 = .ok (.iconst 0, 1) := by decide +kernel
theorem d_X4_copyFrom_110 : decode (D_X4_copyFrom).2.1 110 = .ok (.bipush 8, 2) := by decide +kernel
theorem d_X4_copyFrom_112 : decode (D_X4_copyFrom).2.1 112 = .ok (.invokestatic 62, 3) := by decide +kernel
theorem d_X4_copyFrom_115 : decode (D_X4_copyFrom).2.1 115 = .ok (.aload_n 1, 1) := by decide +kernel
theorem d_X4_copyFrom_116 : decode (D_X4_copyFrom).2.1 116 = .ok (.getfield 44, 3) := by decide +kernel
theorem d_X4_copyFrom_119 : decode (D_X4_copyFrom).2.1 119 = .ok (.iconst 0, 1) := by decide +kernel
theorem d_X4_copyFrom_120 : decode (D_X4_copyFrom).2.1 120 = .ok (.aload_n 0, 1) := by decide +kernel
theorem d_X4_copyFrom_121 : decode (D_X4_copyFrom).2.1 121 = .ok (.getfield 44, 3) := by decide +kernel
theorem d_X4_copyFrom_124 : decode (D_X4_copyFrom).2.1 124 = .ok (.iconst 0, 1) := by decide +kernel
theorem d_X4_copyFrom_125 : decode (D_X4_copyFrom).2.1 125 = .ok (.bipush 8, 2) := by decide +kernel
theorem d_X4_copyFrom_127 : decode (D_X4_copyFrom).2.1 127 = .ok (.invokestatic 62, 3) := by decide +kernel
theorem d_X4_copyFrom_130 : decode (D_X4_copyFrom).2.1 130 = .ok (.aload_n 1, 1) := by decide +kernel
theorem d_X4_copyFrom_131 : decode (D_X4_copyFrom).2.1 131 = .ok (.getfield 47, 3) := by decide +kernel
theorem d_X4_copyFrom_134 : decode (D_X4_copyFrom).2.1 134 = .ok (.iconst 0, 1) := by decide +kernel
theorem d_X4_copyFrom_135 : decode (D_X4_copyFrom).2.1 135 = .ok (.aload_n 0, 1) := by decide +kernel
theorem d_X4_copyFrom_136 : decode (D_X4_copyFrom).2.1 136 = .ok (.getfield 47, 3) := by decide +kernel
theorem d_X4_copyFrom_139 : decode (D_X4_copyFrom).2.1 139 = .ok (.iconst 0, 1) := by decide +kernel
theorem d_X4_copyFrom_140 : decode (D_X4_copyFrom).2.1 140 = .ok (.bipush 8, 2) := by decide +kernel
theorem d_X4_copyFrom_142 : decode (D_X4_copyFrom).2.1 142 = .ok (.invokestatic 62, 3) := by decide +kernel
theorem d_X4_copyFrom_145 : decode (D_X4_copyFrom).2.1 145 = .ok (.aload_n 1, 1) := by decide +kernel
theorem d_X4_copyFrom_146 : decode (D_X4_copyFrom).2.1 146 = .ok (.getfield 50, 3) := by decide +kernel
theorem d_X4_copyFrom_149 : decode (D_X4_copyFrom).2.1 149 = .ok (.iconst 0, 1) := by decide +kernel
theorem d_X4_copyFrom_150 : decode (D_X4_copyFrom).2.1 150 = .ok (.aload_n 0, 1) := by decide +kernel
theorem d_X4_copyFrom_151 : decode (D_X4_copyFrom).2.1 151 = .ok (.getfield 50, 3) := by decide +kernel
theorem d_X4_copyFrom_154 : decode (D_X4_copyFrom).2.1 154 = .ok (.iconst 0, 1) := by decide +kernel
theorem d_X4_copyFrom_155 : decode (D_X4_copyFrom).2.1 155 = .ok (.bipush 8, 2) := by decide +kernel
theorem d_X4_copyFrom_157 : decode (D_X4_copyFrom).2.1 157 = .ok (.invokestatic 62, 3) := by decide +kernel
theorem d_X4_copyFrom_160 : decode (D_X4_copyFrom).2.1 160 = .ok (.aload_n 1, 1) := by decide +kernel
theorem d_X4_copyFrom_161 : decode (D_X4_copyFrom).2.1 161 = .ok (.getfield 53, 3) := by decide +kernel
theorem d_X4_copyFrom_164 : decode (D_X4_copyFrom).2.1 164 = .ok (.iconst 0, 1) := by decide +kernel
theorem d_X4_copyFrom_165 : decode (D_X4_copyFrom).2.1 165 = .ok (.aload_n 0, 1) := by decide +kernel
theorem d_X4_copyFrom_166 : decode (D_X4_copyFrom).2.1 166 = .ok (.getfield 53, 3) := by decide +kernel
theorem d_X4_copyFrom_169 : decode (D_X4_copyFrom).2.1 169 = .ok (.iconst 0, 1) := by decide +kernel
theorem d_X4_copyFrom_170 : decode (D_X4_copyFrom).2.1 170 = .ok (.bipush 8, 2) := by decide +kernel
theorem d_X4_copyFrom_172 : decode (D_X4_copyFrom).2.1 172 = .ok (.invokestatic 62, 3) := by decide +kernel
theorem d_X4_copyFrom_175 : decode (D_X4_copyFrom).2.1 175 = .ok (.aload_n 1, 1) := by decide +kernel
theorem d_X4_copyFrom_176 : decode (D_X4_copyFrom).2.1 176 = .ok (.getfield 56, 3) := by decide +kernel
theorem d_X4_copyFrom_179 : decode (D_X4_copyFrom).2.1 179 = .ok (.iconst 0, 1) := by decide +kernel
theorem d_X4_copyFrom_180 : decode (D_X4_copyFrom).2.1 180 = .ok (.aload_n 0, 1) := by decide +kernel
theorem d_X4_copyFrom_181 : decode (D_X4_copyFrom).2.1 181 = .ok (.getfield 56, 3) := by decide +kernel
theorem d_X4_copyFrom_184 : decode (D_X4_copyFrom).2.1 184 = .ok (.iconst 0, 1) := by decide +kernel
theorem d_X4_copyFrom_185 : decode (D_X4_copyFrom).2.1 185 = .ok (.bipush 8, 2) := by decide +kernel
theorem d_X4_copyFrom_187 : decode (D_X4_copyFrom).2.1 187 = .ok (.invokestatic 62, 3) := by decide +kernel
theorem d_X4_copyFrom_190 : decode (D_X4_copyFrom).2.1 190 = .ok (.aload_n 1, 1) := by decide +kernel
theorem d_X4_copyFrom_191 : decode (D_X4_copyFrom).2.1 191 = .ok (.getfield 59, 3) := by decide +kernel
theorem d_X4_copyFrom_194 : decode (D_X4_copyFrom).2.1 194 = .ok (.iconst 0, 1) := by decide +kernel
theorem d_X4_copyFrom_195 : decode (D_X4_copyFrom).2.1 195 = .ok (.aload_n 0, 1) := by decide +kernel
theorem d_X4_copyFrom_196 : decode (D_X4_copyFrom).2.1 196 = .ok (.getfield 59, 3) := by decide +kernel
theorem d_X4_copyFrom_199 : decode (D_X4_copyFrom).2.1 199 = .ok (.iconst 0, 1) := by decide +kernel
theorem d_X4_copyFrom_200 : decode (D_X4_copyFrom).2.1 200 = .ok (.bipush 8, 2) := by decide +kernel
theorem d_X4_copyFrom_202 : decode (D_X4_copyFrom).2.1 202 = .ok (.invokestatic 62, 3) := by decide +kernel
theorem d_X4_copyFrom_205 : decode (D_X4_copyFrom).2.1 205 = .ok (.return_, 1) := by decide +kernel
def f_X4_copyFrom (n : Nat) (th : Nat) (p1 : Nat) (M : JMem) : Option (Int × JMem) := letm (jup M th 0 (M p1 0)) fun M1 => letm (jup M1 th 1 (M1 p1 1)) fun M2 => letm (jup M2 th 2 (M2 p1 2)) fun M3 => letm (jup M3 th 3 (M3 p1 3)) fun M4 => letm (jup M4 th 4 (M4 p1 4)) fun M5 => chk (jcpok 0 0 22 22 22) <| letm (jcpy M5 (p1 + 1) 0 (th + 1) 0 22) fun M6 => chk (jcpok 0 0 22 22 22) <| letm (jcpy M6 (p1 + 2) 0 (th + 2) 0 22) fun M7 => chk (jcpok 0 0 22 22 22) <| letm (jcpy M7 (p1 + 3) 0 (th + 3) 0 22) fun M8 => chk (jcpok 0 0 8 8 8) <| letm (jcpy M8 (p1 + 4) 0 (th + 4) 0 8) fun M9 => chk (jcpok 0 0 8 8 8) <| letm (jcpy M9 (p1 + 5) 0 (th + 5) 0 8) fun M10 => chk (jcpok 0 0 8 8 8) <| letm (jcpy M10 (p1 + 6) 0 (th + 6) 0 8) fun M11 => chk (jcpok 0 0 8 8 8) <| letm (jcpy M11 (p1 + 7) 0 (th + 7) 0 8) fun M12 => chk (jcpok 0 0 8 8 8) <| letm (jcpy M12 (p1 + 8) 0 (th + 8) 0 8) fun M13 => chk (jcpok 0 0 8 8 8) <| letm (jcpy M13 (p1 + 9) 0 (th + 9) 0 8) fun M14 => chk (jcpok 0 0 8 8 8) <| letm (jcpy M14 (p1 + 10) 0 (th + 10) 0 8) fun M15 => chk (jcpok 0 0 8 8 8) <| letm (jcpy M15 (p1 + 11) 0 (th + 11) 0 8) fun M16 => some (0, M16)
set_option maxRecDepth 4000 in
theorem t_X4_copyFrom {g : JG} {ad : Nat → Nat} (hs : jStr g ad) (n : Nat) (th : Nat) (p1 : Nat) (hth : jK jNN (0, 4) th) (hp1 : jK jNN (0, 4) p1) (M : JMem) : jB g D_X4_copyFrom ad 0 [some (.ref th), some (.ref p1)] [] M (f_X4_copyFrom n th p1 M) := by
  unfold f_X4_copyFrom
  refine jo_aload 0 d_X4_copyFrom_0 rfl rfl ?_
  refine jo_aload 1 d_X4_copyFrom_1 rfl rfl ?_
  refine jo_getI (k := 0) cl_4 (Nat.le_of_ble_eq_true rfl) lk_X4_9 (Or.inl rfl) hp1 d_X4_copyFrom_2 ?_
  refine jo_putI (k := 0) cl_4 (Nat.le_of_ble_eq_true rfl) lk_X4_9 rfl rfl hth d_X4_copyFrom_5 (fun M1 => ?_)
  refine jo_aload 0 d_X4_copyFrom_8 rfl rfl ?_
  refine jo_aload 1 d_X4_copyFrom_9 rfl rfl ?_
  refine jo_getI (k := 1) cl_4 (Nat.le_of_ble_eq_true rfl) lk_X4_15 (Or.inl rfl) hp1 d_X4_copyFrom_10 ?_
  refine jo_putI (k := 1) cl_4 (Nat.le_of_ble_eq_true rfl) lk_X4_15 rfl rfl hth d_X4_copyFrom_13 (fun M2 => ?_)
  refine jo_aload 0 d_X4_copyFrom_16 rfl rfl ?_
  refine jo_aload 1 d_X4_copyFrom_17 rfl rfl ?_
  refine jo_getI (k := 2) cl_4 (Nat.le_of_ble_eq_true rfl) lk_X4_18 (Or.inl rfl) hp1 d_X4_copyFrom_18 ?_
  refine jo_putI (k := 2) cl_4 (Nat.le_of_ble_eq_true rfl) lk_X4_18 rfl rfl hth d_X4_copyFrom_21 (fun M3 => ?_)
  refine jo_aload 0 d_X4_copyFrom_24 rfl rfl ?_
  refine jo_aload 1 d_X4_copyFrom_25 rfl rfl ?_
  refine jo_getI (k := 3) cl_4 (Nat.le_of_ble_eq_true rfl) lk_X4_21 (Or.inl rfl) hp1 d_X4_copyFrom_26 ?_
  refine jo_putI (k := 3) cl_4 (Nat.le_of_ble_eq_true rfl) lk_X4_21 rfl rfl hth d_X4_copyFrom_29 (fun M4 => ?_)
  refine jo_aload 0 d_X4_copyFrom_32 rfl rfl ?_
  refine jo_aload 1 d_X4_copyFrom_33 rfl rfl ?_
  refine jo_getI (k := 4) cl_4 (Nat.le_of_ble_eq_true rfl) lk_X4_24 (Or.inl rfl) hp1 d_X4_copyFrom_34 ?_
  refine jo_putI (k := 4) cl_4 (Nat.le_of_ble_eq_true rfl) lk_X4_24 rfl rfl hth d_X4_copyFrom_37 (fun M5 => ?_)
  refine jo_aload 1 d_X4_copyFrom_40 rfl rfl ?_
  refine jo_getR (k := 5) cl_4 (Nat.le_of_ble_eq_true rfl) lk_X4_27 rfl hp1 (kr_Plan_5 hp1) d_X4_copyFrom_41 ?_
  refine jo_iconst 0 d_X4_copyFrom_44 ?_
  refine jo_aload 0 d_X4_copyFrom_45 rfl rfl ?_
  refine jo_getR (k := 5) cl_4 (Nat.le_of_ble_eq_true rfl) lk_X4_27 rfl hth (kr_Plan_5 hth) d_X4_copyFrom_46 ?_
  refine jo_iconst 0 d_X4_copyFrom_49 ?_
  refine jo_bipush 22 d_X4_copyFrom_50 (by decide) ?_
  refine jo_cpyL lm_X4_62 (ka_Plan_5 hp1) (ka_Plan_5 hth) (Nat.le_of_ble_eq_true rfl) (Nat.le_of_ble_eq_true rfl) d_X4_copyFrom_52 (fun M6 => ?_)
  refine jo_aload 1 d_X4_copyFrom_55 rfl rfl ?_
  refine jo_getR (k := 6) cl_4 (Nat.le_of_ble_eq_true rfl) lk_X4_31 rfl hp1 (kr_Plan_6 hp1) d_X4_copyFrom_56 ?_
  refine jo_iconst 0 d_X4_copyFrom_59 ?_
  refine jo_aload 0 d_X4_copyFrom_60 rfl rfl ?_
  refine jo_getR (k := 6) cl_4 (Nat.le_of_ble_eq_true rfl) lk_X4_31 rfl hth (kr_Plan_6 hth) d_X4_copyFrom_61 ?_
  refine jo_iconst 0 d_X4_copyFrom_64 ?_
  refine jo_bipush 22 d_X4_copyFrom_65 (by decide) ?_
  refine jo_cpyI lm_X4_62 (ka_Plan_6 hp1) (ka_Plan_6 hth) (Nat.le_of_ble_eq_true rfl) (Nat.le_of_ble_eq_true rfl) d_X4_copyFrom_67 (fun M7 => ?_)
  refine jo_aload 1 d_X4_copyFrom_70 rfl rfl ?_
  refine jo_getR (k := 7) cl_4 (Nat.le_of_ble_eq_true rfl) lk_X4_35 rfl hp1 (kr_Plan_7 hp1) d_X4_copyFrom_71 ?_
  refine jo_iconst 0 d_X4_copyFrom_74 ?_
  refine jo_aload 0 d_X4_copyFrom_75 rfl rfl ?_
  refine jo_getR (k := 7) cl_4 (Nat.le_of_ble_eq_true rfl) lk_X4_35 rfl hth (kr_Plan_7 hth) d_X4_copyFrom_76 ?_
  refine jo_iconst 0 d_X4_copyFrom_79 ?_
  refine jo_bipush 22 d_X4_copyFrom_80 (by decide) ?_
  refine jo_cpyI lm_X4_62 (ka_Plan_7 hp1) (ka_Plan_7 hth) (Nat.le_of_ble_eq_true rfl) (Nat.le_of_ble_eq_true rfl) d_X4_copyFrom_82 (fun M8 => ?_)
  refine jo_aload 1 d_X4_copyFrom_85 rfl rfl ?_
  refine jo_getR (k := 8) cl_4 (Nat.le_of_ble_eq_true rfl) lk_X4_38 rfl hp1 (kr_Plan_8 hp1) d_X4_copyFrom_86 ?_
  refine jo_iconst 0 d_X4_copyFrom_89 ?_
  refine jo_aload 0 d_X4_copyFrom_90 rfl rfl ?_
  refine jo_getR (k := 8) cl_4 (Nat.le_of_ble_eq_true rfl) lk_X4_38 rfl hth (kr_Plan_8 hth) d_X4_copyFrom_91 ?_
  refine jo_iconst 0 d_X4_copyFrom_94 ?_
  refine jo_bipush 8 d_X4_copyFrom_95 (by decide) ?_
  refine jo_cpyI lm_X4_62 (ka_Plan_8 hp1) (ka_Plan_8 hth) (Nat.le_of_ble_eq_true rfl) (Nat.le_of_ble_eq_true rfl) d_X4_copyFrom_97 (fun M9 => ?_)
  refine jo_aload 1 d_X4_copyFrom_100 rfl rfl ?_
  refine jo_getR (k := 9) cl_4 (Nat.le_of_ble_eq_true rfl) lk_X4_41 rfl hp1 (kr_Plan_9 hp1) d_X4_copyFrom_101 ?_
  refine jo_iconst 0 d_X4_copyFrom_104 ?_
  refine jo_aload 0 d_X4_copyFrom_105 rfl rfl ?_
  refine jo_getR (k := 9) cl_4 (Nat.le_of_ble_eq_true rfl) lk_X4_41 rfl hth (kr_Plan_9 hth) d_X4_copyFrom_106 ?_
  refine jo_iconst 0 d_X4_copyFrom_109 ?_
  refine jo_bipush 8 d_X4_copyFrom_110 (by decide) ?_
  refine jo_cpyI lm_X4_62 (ka_Plan_9 hp1) (ka_Plan_9 hth) (Nat.le_of_ble_eq_true rfl) (Nat.le_of_ble_eq_true rfl) d_X4_copyFrom_112 (fun M10 => ?_)
  refine jo_aload 1 d_X4_copyFrom_115 rfl rfl ?_
  refine jo_getR (k := 10) cl_4 (Nat.le_of_ble_eq_true rfl) lk_X4_44 rfl hp1 (kr_Plan_10 hp1) d_X4_copyFrom_116 ?_
  refine jo_iconst 0 d_X4_copyFrom_119 ?_
  refine jo_aload 0 d_X4_copyFrom_120 rfl rfl ?_
  refine jo_getR (k := 10) cl_4 (Nat.le_of_ble_eq_true rfl) lk_X4_44 rfl hth (kr_Plan_10 hth) d_X4_copyFrom_121 ?_
  refine jo_iconst 0 d_X4_copyFrom_124 ?_
  refine jo_bipush 8 d_X4_copyFrom_125 (by decide) ?_
  refine jo_cpyI lm_X4_62 (ka_Plan_10 hp1) (ka_Plan_10 hth) (Nat.le_of_ble_eq_true rfl) (Nat.le_of_ble_eq_true rfl) d_X4_copyFrom_127 (fun M11 => ?_)
  refine jo_aload 1 d_X4_copyFrom_130 rfl rfl ?_
  refine jo_getR (k := 11) cl_4 (Nat.le_of_ble_eq_true rfl) lk_X4_47 rfl hp1 (kr_Plan_11 hp1) d_X4_copyFrom_131 ?_
  refine jo_iconst 0 d_X4_copyFrom_134 ?_
  refine jo_aload 0 d_X4_copyFrom_135 rfl rfl ?_
  refine jo_getR (k := 11) cl_4 (Nat.le_of_ble_eq_true rfl) lk_X4_47 rfl hth (kr_Plan_11 hth) d_X4_copyFrom_136 ?_
  refine jo_iconst 0 d_X4_copyFrom_139 ?_
  refine jo_bipush 8 d_X4_copyFrom_140 (by decide) ?_
  refine jo_cpyI lm_X4_62 (ka_Plan_11 hp1) (ka_Plan_11 hth) (Nat.le_of_ble_eq_true rfl) (Nat.le_of_ble_eq_true rfl) d_X4_copyFrom_142 (fun M12 => ?_)
  refine jo_aload 1 d_X4_copyFrom_145 rfl rfl ?_
  refine jo_getR (k := 12) cl_4 (Nat.le_of_ble_eq_true rfl) lk_X4_50 rfl hp1 (kr_Plan_12 hp1) d_X4_copyFrom_146 ?_
  refine jo_iconst 0 d_X4_copyFrom_149 ?_
  refine jo_aload 0 d_X4_copyFrom_150 rfl rfl ?_
  refine jo_getR (k := 12) cl_4 (Nat.le_of_ble_eq_true rfl) lk_X4_50 rfl hth (kr_Plan_12 hth) d_X4_copyFrom_151 ?_
  refine jo_iconst 0 d_X4_copyFrom_154 ?_
  refine jo_bipush 8 d_X4_copyFrom_155 (by decide) ?_
  refine jo_cpyI lm_X4_62 (ka_Plan_12 hp1) (ka_Plan_12 hth) (Nat.le_of_ble_eq_true rfl) (Nat.le_of_ble_eq_true rfl) d_X4_copyFrom_157 (fun M13 => ?_)
  refine jo_aload 1 d_X4_copyFrom_160 rfl rfl ?_
  refine jo_getR (k := 13) cl_4 (Nat.le_of_ble_eq_true rfl) lk_X4_53 rfl hp1 (kr_Plan_13 hp1) d_X4_copyFrom_161 ?_
  refine jo_iconst 0 d_X4_copyFrom_164 ?_
  refine jo_aload 0 d_X4_copyFrom_165 rfl rfl ?_
  refine jo_getR (k := 13) cl_4 (Nat.le_of_ble_eq_true rfl) lk_X4_53 rfl hth (kr_Plan_13 hth) d_X4_copyFrom_166 ?_
  refine jo_iconst 0 d_X4_copyFrom_169 ?_
  refine jo_bipush 8 d_X4_copyFrom_170 (by decide) ?_
  refine jo_cpyI lm_X4_62 (ka_Plan_13 hp1) (ka_Plan_13 hth) (Nat.le_of_ble_eq_true rfl) (Nat.le_of_ble_eq_true rfl) d_X4_copyFrom_172 (fun M14 => ?_)
  refine jo_aload 1 d_X4_copyFrom_175 rfl rfl ?_
  refine jo_getR (k := 14) cl_4 (Nat.le_of_ble_eq_true rfl) lk_X4_56 rfl hp1 (kr_Plan_14 hp1) d_X4_copyFrom_176 ?_
  refine jo_iconst 0 d_X4_copyFrom_179 ?_
  refine jo_aload 0 d_X4_copyFrom_180 rfl rfl ?_
  refine jo_getR (k := 14) cl_4 (Nat.le_of_ble_eq_true rfl) lk_X4_56 rfl hth (kr_Plan_14 hth) d_X4_copyFrom_181 ?_
  refine jo_iconst 0 d_X4_copyFrom_184 ?_
  refine jo_bipush 8 d_X4_copyFrom_185 (by decide) ?_
  refine jo_cpyI lm_X4_62 (ka_Plan_14 hp1) (ka_Plan_14 hth) (Nat.le_of_ble_eq_true rfl) (Nat.le_of_ble_eq_true rfl) d_X4_copyFrom_187 (fun M15 => ?_)
  refine jo_aload 1 d_X4_copyFrom_190 rfl rfl ?_
  refine jo_getR (k := 15) cl_4 (Nat.le_of_ble_eq_true rfl) lk_X4_59 rfl hp1 (kr_Plan_15 hp1) d_X4_copyFrom_191 ?_
  refine jo_iconst 0 d_X4_copyFrom_194 ?_
  refine jo_aload 0 d_X4_copyFrom_195 rfl rfl ?_
  refine jo_getR (k := 15) cl_4 (Nat.le_of_ble_eq_true rfl) lk_X4_59 rfl hth (kr_Plan_15 hth) d_X4_copyFrom_196 ?_
  refine jo_iconst 0 d_X4_copyFrom_199 ?_
  refine jo_bipush 8 d_X4_copyFrom_200 (by decide) ?_
  refine jo_cpyI lm_X4_62 (ka_Plan_15 hp1) (ka_Plan_15 hth) (Nat.le_of_ble_eq_true rfl) (Nat.le_of_ble_eq_true rfl) d_X4_copyFrom_202 (fun M16 => ?_)
  exact jo_vret rfl d_X4_copyFrom_205
theorem m_X4_copyFrom {g : JG} {ad : Nat → Nat} (hs : jStr g ad) (n : Nat) (th : Nat) (p1 : Nat) (hth : jK jNN (0, 4) th) (hp1 : jK jNN (0, 4) p1) (M : JMem) : jMet g jNN ad jR D_X4_copyFrom yX4_copyFrom [.ref th, .ref p1] M (f_X4_copyFrom n th p1 M) :=
  jMet.of (lo0 := [some (.ref th), some (.ref p1)]) (by decide) rfl rfl (Nat.le_of_ble_eq_true rfl) (And.intro rfl (And.intro rfl True.intro)) (t_X4_copyFrom hs n th p1 hth hp1 M)
/-! CageLeave$Rooms.fewestOf(II)I -/
def D_X5_fewestOf : JD := (RX5, cX5_fewestOf, 8, some .int, "fewestOf", { frames := 1, cells := 0, slots := 0, locals := 40 })
theorem ok_X5_fewestOf : jOk D_X5_fewestOf yX5_fewestOf 2 := ⟨jTW_mem (k := 1258) (by decide +kernel) rfl, jTW_mem (k := 148) (by decide +kernel) rfl, ⟨by decide +kernel, by decide +kernel⟩, by decide +kernel, rfl, rfl⟩
theorem in_X5_fewestOf : Cond.instanceMethod yX5_fewestOf ∈ jTW := jTW_mem (k := 1257) (by decide +kernel) rfl
theorem se_X5_fewestOf : Cond.selects yX5_fewestOf.cls yX5_fewestOf yX5_fewestOf ∈ jTW := jTW_mem (k := 38) (by decide +kernel) rfl
theorem lm_X5_38 : Cond.methodLink RX5 38 Lib.Math.min.name ∈ jTW := jTW_mem (k := 1259) (by decide +kernel) rfl
theorem d_X5_fewestOf_0 : decode (D_X5_fewestOf).2.1 0 = .ok (.iload_n 1, 1) := by decide +kernel
theorem d_X5_fewestOf_1 : decode (D_X5_fewestOf).2.1 1 = .ok (.iload_n 1, 1) := by decide +kernel
theorem d_X5_fewestOf_2 : decode (D_X5_fewestOf).2.1 2 = .ok (.ineg, 1) := by decide +kernel
theorem d_X5_fewestOf_3 : decode (D_X5_fewestOf).2.1 3 = .ok (.iand, 1) := by decide +kernel
theorem d_X5_fewestOf_4 : decode (D_X5_fewestOf).2.1 4 = .ok (.istore_n 3, 1) := by decide +kernel
theorem d_X5_fewestOf_5 : decode (D_X5_fewestOf).2.1 5 = .ok (.iload_n 1, 1) := by decide +kernel
theorem d_X5_fewestOf_6 : decode (D_X5_fewestOf).2.1 6 = .ok (.iload_n 3, 1) := by decide +kernel
theorem d_X5_fewestOf_7 : decode (D_X5_fewestOf).2.1 7 = .ok (.ixor, 1) := by decide +kernel
theorem d_X5_fewestOf_8 : decode (D_X5_fewestOf).2.1 8 = .ok (.istore 4, 2) := by decide +kernel
theorem d_X5_fewestOf_10 : decode (D_X5_fewestOf).2.1 10 = .ok (.sipush 1000, 3) := by decide +kernel
theorem d_X5_fewestOf_13 : decode (D_X5_fewestOf).2.1 13 = .ok (.istore 5, 2) := by decide +kernel
theorem d_X5_fewestOf_15 : decode (D_X5_fewestOf).2.1 15 = .ok (.iload 4, 2) := by decide +kernel
theorem d_X5_fewestOf_17 : decode (D_X5_fewestOf).2.1 17 = .ok (.istore 6, 2) := by decide +kernel
theorem d_X5_fewestOf_19 : decode (D_X5_fewestOf).2.1 19 = .ok (.iconst 0, 1) := by decide +kernel
theorem d_X5_fewestOf_20 : decode (D_X5_fewestOf).2.1 20 = .ok (.istore 7, 2) := by decide +kernel
theorem d_X5_fewestOf_22 : decode (D_X5_fewestOf).2.1 22 = .ok (.iload 7, 2) := by decide +kernel
theorem d_X5_fewestOf_24 : decode (D_X5_fewestOf).2.1 24 = .ok (.sipush 256, 3) := by decide +kernel
theorem d_X5_fewestOf_27 : decode (D_X5_fewestOf).2.1 27 = .ok (.if_icmp .ge 58, 3) := by decide +kernel
theorem d_X5_fewestOf_30 : decode (D_X5_fewestOf).2.1 30 = .ok (.aload_n 0, 1) := by decide +kernel
theorem d_X5_fewestOf_31 : decode (D_X5_fewestOf).2.1 31 = .ok (.getfield 11, 3) := by decide +kernel
theorem d_X5_fewestOf_34 : decode (D_X5_fewestOf).2.1 34 = .ok (.iload_n 3, 1) := by decide +kernel
theorem d_X5_fewestOf_35 : decode (D_X5_fewestOf).2.1 35 = .ok (.iload 6, 2) := by decide +kernel
theorem d_X5_fewestOf_37 : decode (D_X5_fewestOf).2.1 37 = .ok (.ior, 1) := by decide +kernel
theorem d_X5_fewestOf_38 : decode (D_X5_fewestOf).2.1 38 = .ok (.iaload, 1) := by decide +kernel
theorem d_X5_fewestOf_39 : decode (D_X5_fewestOf).2.1 39 = .ok (.iload_n 2, 1) := by decide +kernel
theorem d_X5_fewestOf_40 : decode (D_X5_fewestOf).2.1 40 = .ok (.if_icmp .gt 22, 3) := by decide +kernel
theorem d_X5_fewestOf_43 : decode (D_X5_fewestOf).2.1 43 = .ok (.iload 5, 2) := by decide +kernel
theorem d_X5_fewestOf_45 : decode (D_X5_fewestOf).2.1 45 = .ok (.aload_n 0, 1) := by decide +kernel
theorem d_X5_fewestOf_46 : decode (D_X5_fewestOf).2.1 46 = .ok (.getfield 15, 3) := by decide +kernel
theorem d_X5_fewestOf_49 : decode (D_X5_fewestOf).2.1 49 = .ok (.iload 4, 2) := by decide +kernel
theorem d_X5_fewestOf_51 : decode (D_X5_fewestOf).2.1 51 = .ok (.iload 6, 2) := by decide +kernel
theorem d_X5_fewestOf_53 : decode (D_X5_fewestOf).2.1 53 = .ok (.ixor, 1) := by decide +kernel
theorem d_X5_fewestOf_54 : decode (D_X5_fewestOf).2.1 54 = .ok (.iaload, 1) := by decide +kernel
theorem d_X5_fewestOf_55 : decode (D_X5_fewestOf).2.1 55 = .ok (.iconst 1, 1) := by decide +kernel
theorem d_X5_fewestOf_56 : decode (D_X5_fewestOf).2.1 56 = .ok (.iadd, 1) := by decide +kernel
theorem d_X5_fewestOf_57 : decode (D_X5_fewestOf).2.1 57 = .ok (.invokestatic 38, 3) := by decide +kernel
theorem d_X5_fewestOf_60 : decode (D_X5_fewestOf).2.1 60 = .ok (.istore 5, 2) := by decide +kernel
theorem d_X5_fewestOf_62 : decode (D_X5_fewestOf).2.1 62 = .ok (.iload 6, 2) := by decide +kernel
theorem d_X5_fewestOf_64 : decode (D_X5_fewestOf).2.1 64 = .ok (.ifCond .ne 6, 3) := by decide +kernel
theorem d_X5_fewestOf_67 : decode (D_X5_fewestOf).2.1 67 = .ok (.goto 18, 3) := by decide +kernel
theorem d_X5_fewestOf_70 : decode (D_X5_fewestOf).2.1 70 = .ok (.iload 6, 2) := by decide +kernel
theorem d_X5_fewestOf_72 : decode (D_X5_fewestOf).2.1 72 = .ok (.iconst 1, 1) := by decide +kernel
theorem d_X5_fewestOf_73 : decode (D_X5_fewestOf).2.1 73 = .ok (.isub, 1) := by decide +kernel
theorem d_X5_fewestOf_74 : decode (D_X5_fewestOf).2.1 74 = .ok (.iload 4, 2) := by decide +kernel
theorem d_X5_fewestOf_76 : decode (D_X5_fewestOf).2.1 76 = .ok (.iand, 1) := by decide +kernel
theorem d_X5_fewestOf_77 : decode (D_X5_fewestOf).2.1 77 = .ok (.istore 6, 2) := by decide +kernel
theorem d_X5_fewestOf_79 : decode (D_X5_fewestOf).2.1 79 = .ok (.iinc 7 1, 3) := by decide +kernel
theorem d_X5_fewestOf_82 : decode (D_X5_fewestOf).2.1 82 = .ok (.goto (-60), 3) := by decide +kernel
theorem d_X5_fewestOf_85 : decode (D_X5_fewestOf).2.1 85 = .ok (.iload 5, 2) := by decide +kernel
theorem d_X5_fewestOf_87 : decode (D_X5_fewestOf).2.1 87 = .ok (.ireturn, 1) := by decide +kernel
def f_X5_fewestOf_L85 (n : Nat) (v5 : Int) (M : JMem) : Option (Int × JMem) := some (v5, M)
set_option maxRecDepth 4000 in
theorem t_X5_fewestOf_L85 {g : JG} {ad : Nat → Nat} (hs : jStr g ad) (n : Nat) (v5 : Int) (M : JMem) : jB g D_X5_fewestOf ad 85 [none, none, none, none, none, some (ji v5), none, none] [] M (f_X5_fewestOf_L85 n v5 M) := by
  unfold f_X5_fewestOf_L85
  refine jo_iloadW 5 d_X5_fewestOf_85 rfl ?_
  exact jo_iret rfl d_X5_fewestOf_87
def f_X5_fewestOf_L67 (n : Nat) (v5 : Int) (M : JMem) : Option (Int × JMem) := f_X5_fewestOf_L85 n v5 M
set_option maxRecDepth 4000 in
theorem t_X5_fewestOf_L67 {g : JG} {ad : Nat → Nat} (hs : jStr g ad) (n : Nat) (v5 : Int) (M : JMem) : jB g D_X5_fewestOf ad 67 [none, none, none, none, none, some (ji v5), none, none] [] M (f_X5_fewestOf_L67 n v5 M) := by
  unfold f_X5_fewestOf_L67
  refine jo_goto 85 d_X5_fewestOf_67 (by decide) ?_
  exact jO.sub (t_X5_fewestOf_L85 hs n v5 M) (And.intro rfl True.intro)
def f_X5_fewestOf_L62 (n : Nat) (r22 : Int → Int → Int → Int → Int → Int → JMem → Option (Int × JMem)) (v2 v3 v4 v5 v6 v7 : Int) (M : JMem) : Option (Int × JMem) := if jw v6 = 0 then (f_X5_fewestOf_L67 n v5 M) else (letv (jand (v6 - 1) v4) fun y1 => letv (v7 + 1) fun y2 => r22 v2 v3 v4 v5 y1 y2 M)
set_option maxRecDepth 4000 in
theorem t_X5_fewestOf_L62 {g : JG} {ad : Nat → Nat} (hs : jStr g ad) (n : Nat) (r22 : Int → Int → Int → Int → Int → Int → JMem → Option (Int × JMem)) (hr22 : ∀ (v2 v3 v4 v5 v6 v7 : Int) (M : JMem), jB g D_X5_fewestOf ad 22 [some (.ref 79), none, some (ji v2), some (ji v3), some (ji v4), some (ji v5), some (ji v6), some (ji v7)] [] M (r22 v2 v3 v4 v5 v6 v7 M)) (v2 v3 v4 v5 v6 v7 : Int) (M : JMem) : jB g D_X5_fewestOf ad 62 [some (.ref 79), none, some (ji v2), some (ji v3), some (ji v4), some (ji v5), some (ji v6), some (ji v7)] [] M (f_X5_fewestOf_L62 n r22 v2 v3 v4 v5 v6 v7 M) := by
  unfold f_X5_fewestOf_L62
  refine jo_iloadW 6 d_X5_fewestOf_62 rfl ?_
  refine jo_if_ne 70 d_X5_fewestOf_64 (by decide) ?_ ?_
  · skip
    refine jo_iloadW 6 d_X5_fewestOf_70 rfl ?_
    refine jo_iconst 1 d_X5_fewestOf_72 ?_
    refine jo_isub d_X5_fewestOf_73 ?_
    refine jo_iloadW 4 d_X5_fewestOf_74 rfl ?_
    refine jo_iand d_X5_fewestOf_76 ?_
    refine jo_istoreW 6 d_X5_fewestOf_77 (Nat.le_of_ble_eq_true rfl) (fun y1 => ?_)
    refine jo_iinc 7 d_X5_fewestOf_79 rfl (Nat.le_of_ble_eq_true rfl) (fun y2 => ?_)
    refine jo_goto 22 d_X5_fewestOf_82 (by decide) ?_
    exact jO.sub (hr22 v2 v3 v4 v5 y1 y2 M) (And.intro rfl (And.intro rfl (And.intro rfl (And.intro rfl (And.intro rfl (And.intro rfl (And.intro rfl True.intro)))))))
  · skip
    exact jO.sub (t_X5_fewestOf_L67 hs n v5 M) (And.intro rfl True.intro)
def f_X5_fewestOf_L22 (n : Nat) : Nat → Int → Int → Int → Int → Int → Int → JMem → Option (Int × JMem)
  | 0, _, _, _, _, _, _, _ => none
  | k + 1, v2, v3, v4, v5, v6, v7, M => if jw 256 ≤ jw v7 then (f_X5_fewestOf_L85 n v5 M) else (chk (jin (jor v3 v6) 256) <| if jw v2 < jw (M 80 (jw (jor v3 v6)).toNat) then (f_X5_fewestOf_L62 n (f_X5_fewestOf_L22 n k) v2 v3 v4 v5 v6 v7 M) else (chk (jin (jxor v4 v6) 256) <| letv (jmin v5 ((M 81 (jw (jxor v4 v6)).toNat) + 1)) fun y1 => f_X5_fewestOf_L62 n (f_X5_fewestOf_L22 n k) v2 v3 v4 y1 v6 v7 M))
set_option maxRecDepth 4000 in
theorem t_X5_fewestOf_L22 {g : JG} {ad : Nat → Nat} (hs : jStr g ad) (n : Nat) : ∀ (k : Nat) (v2 v3 v4 v5 v6 v7 : Int) (M : JMem), jB g D_X5_fewestOf ad 22 [some (.ref 79), none, some (ji v2), some (ji v3), some (ji v4), some (ji v5), some (ji v6), some (ji v7)] [] M (f_X5_fewestOf_L22 n k v2 v3 v4 v5 v6 v7 M) := by
  intro k
  induction k with
  | zero => intro v2 v3 v4 v5 v6 v7 M; exact jO.none
  | succ k ih =>
    intro v2 v3 v4 v5 v6 v7 M
    rw [f_X5_fewestOf_L22]
    refine jo_iloadW 7 d_X5_fewestOf_22 rfl ?_
    refine jo_sipush 256 d_X5_fewestOf_24 (by decide) ?_
    refine jo_icmp_ge 85 d_X5_fewestOf_27 (by decide) ?_ ?_
    · skip
      exact jO.sub (t_X5_fewestOf_L85 hs n v5 M) (And.intro rfl True.intro)
    · skip
      refine jo_aload 0 d_X5_fewestOf_30 rfl rfl ?_
      refine jo_getR (k := 0) cl_5 (Nat.le_of_ble_eq_true rfl) lk_X5_11 rfl kc_79 kr_79_0 d_X5_fewestOf_31 ?_
      refine jo_iload 3 d_X5_fewestOf_34 rfl rfl ?_
      refine jo_iloadW 6 d_X5_fewestOf_35 rfl ?_
      refine jo_ior d_X5_fewestOf_37 ?_
      refine jo_iald (N := 256) kc_80 d_X5_fewestOf_38 ?_
      refine jo_iload 2 d_X5_fewestOf_39 rfl rfl ?_
      refine jo_icmp_gt 62 d_X5_fewestOf_40 (by decide) ?_ ?_
      · skip
        exact jO.sub (t_X5_fewestOf_L62 hs n (f_X5_fewestOf_L22 n k) ih v2 v3 v4 v5 v6 v7 M) (And.intro rfl (And.intro rfl (And.intro rfl (And.intro rfl (And.intro rfl (And.intro rfl (And.intro rfl True.intro)))))))
      · skip
        refine jo_iloadW 5 d_X5_fewestOf_43 rfl ?_
        refine jo_aload 0 d_X5_fewestOf_45 rfl rfl ?_
        refine jo_getR (k := 1) cl_5 (Nat.le_of_ble_eq_true rfl) lk_X5_15 rfl kc_79 kr_79_1 d_X5_fewestOf_46 ?_
        refine jo_iloadW 4 d_X5_fewestOf_49 rfl ?_
        refine jo_iloadW 6 d_X5_fewestOf_51 rfl ?_
        refine jo_ixor d_X5_fewestOf_53 ?_
        refine jo_iald (N := 256) kc_81 d_X5_fewestOf_54 ?_
        refine jo_iconst 1 d_X5_fewestOf_55 ?_
        refine jo_iadd d_X5_fewestOf_56 ?_
        refine jo_mmin lm_X5_38 (Nat.le_of_ble_eq_true rfl) (Nat.le_of_ble_eq_true rfl) (And.intro (Nat.zero_le _) (Nat.zero_le _)) d_X5_fewestOf_57 ?_
        refine jo_istoreW 5 d_X5_fewestOf_60 (Nat.le_of_ble_eq_true rfl) (fun y1 => ?_)
        exact jO.sub (t_X5_fewestOf_L62 hs n (f_X5_fewestOf_L22 n k) ih v2 v3 v4 y1 v6 v7 M) (And.intro rfl (And.intro rfl (And.intro rfl (And.intro rfl (And.intro rfl (And.intro rfl (And.intro rfl True.intro)))))))
def f_X5_fewestOf (n : Nat) (x1 : Int) (x2 : Int) (M : JMem) : Option (Int × JMem) := letv (jand x1 (-x1)) fun y1 => letv (jxor x1 y1) fun y2 => letv 1000 fun y3 => letv y2 fun y4 => letv 0 fun y5 => f_X5_fewestOf_L22 n n x2 y1 y2 y3 y4 y5 M
set_option maxRecDepth 4000 in
theorem t_X5_fewestOf {g : JG} {ad : Nat → Nat} (hs : jStr g ad) (n : Nat) (x1 : Int) (x2 : Int) (M : JMem) : jB g D_X5_fewestOf ad 0 [some (.ref 79), some (ji x1), some (ji x2), none, none, none, none, none] [] M (f_X5_fewestOf n x1 x2 M) := by
  unfold f_X5_fewestOf
  refine jo_iload 1 d_X5_fewestOf_0 rfl rfl ?_
  refine jo_iload 1 d_X5_fewestOf_1 rfl rfl ?_
  refine jo_ineg d_X5_fewestOf_2 ?_
  refine jo_iand d_X5_fewestOf_3 ?_
  refine jo_istore 3 d_X5_fewestOf_4 rfl (Nat.le_of_ble_eq_true rfl) (fun y1 => ?_)
  refine jo_iload 1 d_X5_fewestOf_5 rfl rfl ?_
  refine jo_iload 3 d_X5_fewestOf_6 rfl rfl ?_
  refine jo_ixor d_X5_fewestOf_7 ?_
  refine jo_istoreW 4 d_X5_fewestOf_8 (Nat.le_of_ble_eq_true rfl) (fun y2 => ?_)
  refine jo_sipush 1000 d_X5_fewestOf_10 (by decide) ?_
  refine jo_istoreW 5 d_X5_fewestOf_13 (Nat.le_of_ble_eq_true rfl) (fun y3 => ?_)
  refine jo_iloadW 4 d_X5_fewestOf_15 rfl ?_
  refine jo_istoreW 6 d_X5_fewestOf_17 (Nat.le_of_ble_eq_true rfl) (fun y4 => ?_)
  refine jo_iconst 0 d_X5_fewestOf_19 ?_
  refine jo_istoreW 7 d_X5_fewestOf_20 (Nat.le_of_ble_eq_true rfl) (fun y5 => ?_)
  exact jO.sub (t_X5_fewestOf_L22 hs n n x2 y1 y2 y3 y4 y5 M) (And.intro rfl (And.intro rfl (And.intro rfl (And.intro rfl (And.intro rfl (And.intro rfl (And.intro rfl True.intro)))))))
theorem m_X5_fewestOf {g : JG} {ad : Nat → Nat} (hs : jStr g ad) (n : Nat) (x1 : Int) (x2 : Int) (M : JMem) : jMet g jNN ad jR D_X5_fewestOf yX5_fewestOf [.ref 79, ji x1, ji x2] M (f_X5_fewestOf n x1 x2 M) :=
  jMet.of (lo0 := [some (.ref 79), some (ji x1), some (ji x2), none, none, none, none, none]) (by decide) rfl rfl (Nat.le_of_ble_eq_true rfl) (And.intro rfl (And.intro rfl (And.intro rfl True.intro))) (t_X5_fewestOf hs n x1 x2 M)
/-! CageLeave$Rooms.fewest(II)I -/
def D_X5_fewest : JD := (RX5, cX5_fewest, 4, some .int, "fewest", { frames := 2, cells := 0, slots := 0, locals := 67 })
theorem ok_X5_fewest : jOk D_X5_fewest yX5_fewest 2 := ⟨jTW_mem (k := 1254) (by decide +kernel) rfl, jTW_mem (k := 148) (by decide +kernel) rfl, ⟨by decide +kernel, by decide +kernel⟩, by decide +kernel, rfl, rfl⟩
theorem in_X5_fewest : Cond.instanceMethod yX5_fewest ∈ jTW := jTW_mem (k := 1252) (by decide +kernel) rfl
theorem se_X5_fewest : Cond.selects yX5_fewest.cls yX5_fewest yX5_fewest ∈ jTW := jTW_mem (k := 1253) (by decide +kernel) rfl
theorem lm_X5_34 : Cond.methodLink RX5 34 yX5_fewestOf ∈ jTW := jTW_mem (k := 1255) (by decide +kernel) rfl
theorem d_X5_fewest_0 : decode (D_X5_fewest).2.1 0 = .ok (.aload_n 0, 1) := by decide +kernel
theorem d_X5_fewest_1 : decode (D_X5_fewest).2.1 1 = .ok (.getfield 15, 3) := by decide +kernel
theorem d_X5_fewest_4 : decode (D_X5_fewest).2.1 4 = .ok (.iconst 0, 1) := by decide +kernel
theorem d_X5_fewest_5 : decode (D_X5_fewest).2.1 5 = .ok (.iconst 0, 1) := by decide +kernel
theorem d_X5_fewest_6 : decode (D_X5_fewest).2.1 6 = .ok (.iastore, 1) := by decide +kernel
theorem d_X5_fewest_7 : decode (D_X5_fewest).2.1 7 = .ok (.iconst 1, 1) := by decide +kernel
theorem d_X5_fewest_8 : decode (D_X5_fewest).2.1 8 = .ok (.istore_n 3, 1) := by decide +kernel
theorem d_X5_fewest_9 : decode (D_X5_fewest).2.1 9 = .ok (.iload_n 3, 1) := by decide +kernel
theorem d_X5_fewest_10 : decode (D_X5_fewest).2.1 10 = .ok (.iload_n 1, 1) := by decide +kernel
theorem d_X5_fewest_11 : decode (D_X5_fewest).2.1 11 = .ok (.if_icmp .gt 36, 3) := by decide +kernel
theorem d_X5_fewest_14 : decode (D_X5_fewest).2.1 14 = .ok (.iload_n 3, 1) := by decide +kernel
theorem d_X5_fewest_15 : decode (D_X5_fewest).2.1 15 = .ok (.sipush 256, 3) := by decide +kernel
theorem d_X5_fewest_18 : decode (D_X5_fewest).2.1 18 = .ok (.if_icmp .ge 29, 3) := by decide +kernel
theorem d_X5_fewest_21 : decode (D_X5_fewest).2.1 21 = .ok (.iload_n 3, 1) := by decide +kernel
theorem d_X5_fewest_22 : decode (D_X5_fewest).2.1 22 = .ok (.iload_n 1, 1) := by decide +kernel
theorem d_X5_fewest_23 : decode (D_X5_fewest).2.1 23 = .ok (.iconst (-1), 1) := by decide +kernel
theorem d_X5_fewest_24 : decode (D_X5_fewest).2.1 24 = .ok (.ixor, 1) := by decide +kernel
theorem d_X5_fewest_25 : decode (D_X5_fewest).2.1 25 = .ok (.iand, 1) := by decide +kernel
theorem d_X5_fewest_26 : decode (D_X5_fewest).2.1 26 = .ok (.ifCond .ne 15, 3) := by decide +kernel
theorem d_X5_fewest_29 : decode (D_X5_fewest).2.1 29 = .ok (.aload_n 0, 1) := by decide +kernel
theorem d_X5_fewest_30 : decode (D_X5_fewest).2.1 30 = .ok (.getfield 15, 3) := by decide +kernel
theorem d_X5_fewest_33 : decode (D_X5_fewest).2.1 33 = .ok (.iload_n 3, 1) := by decide +kernel
theorem d_X5_fewest_34 : decode (D_X5_fewest).2.1 34 = .ok (.aload_n 0, 1) := by decide +kernel
theorem d_X5_fewest_35 : decode (D_X5_fewest).2.1 35 = .ok (.iload_n 3, 1) := by decide +kernel
theorem d_X5_fewest_36 : decode (D_X5_fewest).2.1 36 = .ok (.iload_n 2, 1) := by decide +kernel
theorem d_X5_fewest_37 : decode (D_X5_fewest).2.1 37 = .ok (.invokevirtual 34, 3) := by decide +kernel
theorem d_X5_fewest_40 : decode (D_X5_fewest).2.1 40 = .ok (.iastore, 1) := by decide +kernel
theorem d_X5_fewest_41 : decode (D_X5_fewest).2.1 41 = .ok (.iinc 3 1, 3) := by decide +kernel
theorem d_X5_fewest_44 : decode (D_X5_fewest).2.1 44 = .ok (.goto (-35), 3) := by decide +kernel
theorem d_X5_fewest_47 : decode (D_X5_fewest).2.1 47 = .ok (.iload_n 1, 1) := by decide +kernel
theorem d_X5_fewest_48 : decode (D_X5_fewest).2.1 48 = .ok (.sipush 256, 3) := by decide +kernel
theorem d_X5_fewest_51 : decode (D_X5_fewest).2.1 51 = .ok (.if_icmp .ge 12, 3) := by decide +kernel
theorem d_X5_fewest_54 : decode (D_X5_fewest).2.1 54 = .ok (.aload_n 0, 1) := by decide +kernel
theorem d_X5_fewest_55 : decode (D_X5_fewest).2.1 55 = .ok (.getfield 15, 3) := by decide +kernel
theorem d_X5_fewest_58 : decode (D_X5_fewest).2.1 58 = .ok (.iload_n 1, 1) := by decide +kernel
theorem d_X5_fewest_59 : decode (D_X5_fewest).2.1 59 = .ok (.iaload, 1) := by decide +kernel
theorem d_X5_fewest_60 : decode (D_X5_fewest).2.1 60 = .ok (.goto 6, 3) := by decide +kernel
theorem d_X5_fewest_63 : decode (D_X5_fewest).2.1 63 = .ok (.sipush 1000, 3) := by decide +kernel
theorem d_X5_fewest_66 : decode (D_X5_fewest).2.1 66 = .ok (.ireturn, 1) := by decide +kernel
def f_X5_fewest_L41 (n : Nat) (r9 : Int → Int → Int → JMem → Option (Int × JMem)) (v1 v2 v3 : Int) (M : JMem) : Option (Int × JMem) := letv (v3 + 1) fun y1 => r9 v1 v2 y1 M
set_option maxRecDepth 4000 in
theorem t_X5_fewest_L41 {g : JG} {ad : Nat → Nat} (hs : jStr g ad) (n : Nat) (r9 : Int → Int → Int → JMem → Option (Int × JMem)) (hr9 : ∀ (v1 v2 v3 : Int) (M : JMem), jB g D_X5_fewest ad 9 [some (.ref 79), some (ji v1), some (ji v2), some (ji v3)] [] M (r9 v1 v2 v3 M)) (v1 v2 v3 : Int) (M : JMem) : jB g D_X5_fewest ad 41 [some (.ref 79), some (ji v1), some (ji v2), some (ji v3)] [] M (f_X5_fewest_L41 n r9 v1 v2 v3 M) := by
  unfold f_X5_fewest_L41
  refine jo_iinc 3 d_X5_fewest_41 rfl (Nat.le_of_ble_eq_true rfl) (fun y1 => ?_)
  refine jo_goto 9 d_X5_fewest_44 (by decide) ?_
  exact jO.sub (hr9 v1 v2 y1 M) (And.intro rfl (And.intro rfl (And.intro rfl (And.intro rfl True.intro))))
def f_X5_fewest_L47 (n : Nat) (v1 : Int) (M : JMem) : Option (Int × JMem) := if jw 256 ≤ jw v1 then (some (1000, M)) else (chk (jin v1 256) <| some ((M 81 (jw v1).toNat), M))
set_option maxRecDepth 4000 in
theorem t_X5_fewest_L47 {g : JG} {ad : Nat → Nat} (hs : jStr g ad) (n : Nat) (v1 : Int) (M : JMem) : jB g D_X5_fewest ad 47 [some (.ref 79), some (ji v1), none, none] [] M (f_X5_fewest_L47 n v1 M) := by
  unfold f_X5_fewest_L47
  refine jo_iload 1 d_X5_fewest_47 rfl rfl ?_
  refine jo_sipush 256 d_X5_fewest_48 (by decide) ?_
  refine jo_icmp_ge 63 d_X5_fewest_51 (by decide) ?_ ?_
  · skip
    refine jo_sipush 1000 d_X5_fewest_63 (by decide) ?_
    exact jo_iret rfl d_X5_fewest_66
  · skip
    refine jo_aload 0 d_X5_fewest_54 rfl rfl ?_
    refine jo_getR (k := 1) cl_5 (Nat.le_of_ble_eq_true rfl) lk_X5_15 rfl kc_79 kr_79_1 d_X5_fewest_55 ?_
    refine jo_iload 1 d_X5_fewest_58 rfl rfl ?_
    refine jo_iald (N := 256) kc_81 d_X5_fewest_59 ?_
    refine jo_goto 66 d_X5_fewest_60 (by decide) ?_
    exact jo_iret rfl d_X5_fewest_66
def f_X5_fewest_L9 (n : Nat) : Nat → Int → Int → Int → JMem → Option (Int × JMem)
  | 0, _, _, _, _ => none
  | k + 1, v1, v2, v3, M => if jw v1 < jw v3 then (f_X5_fewest_L47 n v1 M) else (if jw 256 ≤ jw v3 then (f_X5_fewest_L47 n v1 M) else (if jw (jand v3 (jxor v1 (-1))) = 0 then (bnd (f_X5_fewestOf n v3 v2 M) fun r1 M2 => chk (jin v3 256) <| letm (jup M2 81 (jw v3).toNat r1) fun M3 => f_X5_fewest_L41 n (f_X5_fewest_L9 n k) v1 v2 v3 M3) else (f_X5_fewest_L41 n (f_X5_fewest_L9 n k) v1 v2 v3 M)))
set_option maxRecDepth 4000 in
theorem t_X5_fewest_L9 {g : JG} {ad : Nat → Nat} (hs : jStr g ad) (n : Nat) : ∀ (k : Nat) (v1 v2 v3 : Int) (M : JMem), jB g D_X5_fewest ad 9 [some (.ref 79), some (ji v1), some (ji v2), some (ji v3)] [] M (f_X5_fewest_L9 n k v1 v2 v3 M) := by
  intro k
  induction k with
  | zero => intro v1 v2 v3 M; exact jO.none
  | succ k ih =>
    intro v1 v2 v3 M
    rw [f_X5_fewest_L9]
    refine jo_iload 3 d_X5_fewest_9 rfl rfl ?_
    refine jo_iload 1 d_X5_fewest_10 rfl rfl ?_
    refine jo_icmp_gt 47 d_X5_fewest_11 (by decide) ?_ ?_
    · skip
      exact jO.sub (t_X5_fewest_L47 hs n v1 M) (And.intro rfl (And.intro rfl True.intro))
    · skip
      refine jo_iload 3 d_X5_fewest_14 rfl rfl ?_
      refine jo_sipush 256 d_X5_fewest_15 (by decide) ?_
      refine jo_icmp_ge 47 d_X5_fewest_18 (by decide) ?_ ?_
      · skip
        exact jO.sub (t_X5_fewest_L47 hs n v1 M) (And.intro rfl (And.intro rfl True.intro))
      · skip
        refine jo_iload 3 d_X5_fewest_21 rfl rfl ?_
        refine jo_iload 1 d_X5_fewest_22 rfl rfl ?_
        refine jo_iconst (-1) d_X5_fewest_23 ?_
        refine jo_ixor d_X5_fewest_24 ?_
        refine jo_iand d_X5_fewest_25 ?_
        refine jo_if_ne 41 d_X5_fewest_26 (by decide) ?_ ?_
        · skip
          exact jO.sub (t_X5_fewest_L41 hs n (f_X5_fewest_L9 n k) ih v1 v2 v3 M) (And.intro rfl (And.intro rfl (And.intro rfl (And.intro rfl True.intro))))
        · skip
          refine jo_aload 0 d_X5_fewest_29 rfl rfl ?_
          refine jo_getR (k := 1) cl_5 (Nat.le_of_ble_eq_true rfl) lk_X5_15 rfl kc_79 kr_79_1 d_X5_fewest_30 ?_
          refine jo_iload 3 d_X5_fewest_33 rfl rfl ?_
          refine jo_aload 0 d_X5_fewest_34 rfl rfl ?_
          refine jo_iload 3 d_X5_fewest_35 rfl rfl ?_
          refine jo_iload 2 d_X5_fewest_36 rfl rfl ?_
          refine jo_callV (st := [ji v3, .ref 81]) (m_X5_fewestOf hs n v3 v2 M) ok_X5_fewestOf (And.intro (Nat.le_of_ble_eq_true rfl) (Nat.le_of_ble_eq_true rfl)) lm_X5_34 in_X5_fewestOf se_X5_fewestOf rfl kc_79 rfl rfl (And.intro (Nat.zero_le _) (Nat.zero_le _)) rfl (Nat.le_of_ble_eq_true rfl) d_X5_fewest_37 (fun r1 M2 => ?_)
          refine jo_iast (N := 256) kc_81 d_X5_fewest_40 (fun M3 => ?_)
          exact jO.sub (t_X5_fewest_L41 hs n (f_X5_fewest_L9 n k) ih v1 v2 v3 M3) (And.intro rfl (And.intro rfl (And.intro rfl (And.intro rfl True.intro))))
def f_X5_fewest (n : Nat) (x1 : Int) (x2 : Int) (M : JMem) : Option (Int × JMem) := chk (jin 0 256) <| letm (jup M 81 (jw 0).toNat 0) fun M1 => letv 1 fun y2 => f_X5_fewest_L9 n n x1 x2 y2 M1
set_option maxRecDepth 4000 in
theorem t_X5_fewest {g : JG} {ad : Nat → Nat} (hs : jStr g ad) (n : Nat) (x1 : Int) (x2 : Int) (M : JMem) : jB g D_X5_fewest ad 0 [some (.ref 79), some (ji x1), some (ji x2), none] [] M (f_X5_fewest n x1 x2 M) := by
  unfold f_X5_fewest
  refine jo_aload 0 d_X5_fewest_0 rfl rfl ?_
  refine jo_getR (k := 1) cl_5 (Nat.le_of_ble_eq_true rfl) lk_X5_15 rfl kc_79 kr_79_1 d_X5_fewest_1 ?_
  refine jo_iconst 0 d_X5_fewest_4 ?_
  refine jo_iconst 0 d_X5_fewest_5 ?_
  refine jo_iast (N := 256) kc_81 d_X5_fewest_6 (fun M1 => ?_)
  refine jo_iconst 1 d_X5_fewest_7 ?_
  refine jo_istore 3 d_X5_fewest_8 rfl (Nat.le_of_ble_eq_true rfl) (fun y2 => ?_)
  exact jO.sub (t_X5_fewest_L9 hs n n x1 x2 y2 M1) (And.intro rfl (And.intro rfl (And.intro rfl (And.intro rfl True.intro))))
theorem m_X5_fewest {g : JG} {ad : Nat → Nat} (hs : jStr g ad) (n : Nat) (x1 : Int) (x2 : Int) (M : JMem) : jMet g jNN ad jR D_X5_fewest yX5_fewest [.ref 79, ji x1, ji x2] M (f_X5_fewest n x1 x2 M) :=
  jMet.of (lo0 := [some (.ref 79), some (ji x1), some (ji x2), none]) (by decide) rfl rfl (Nat.le_of_ble_eq_true rfl) (And.intro rfl (And.intro rfl (And.intro rfl True.intro))) (t_X5_fewest hs n x1 x2 M)
/-! CageLeave$Rooms.weigh(LCageLeave$Plan;)V -/
def D_X5_weigh : JD := (RX5, cX5_weigh, 7, none, "weigh", { frames := 1, cells := 0, slots := 0, locals := 21 })
theorem ok_X5_weigh : jOk D_X5_weigh yX5_weigh 1 := ⟨jTW_mem (k := 1249) (by decide +kernel) rfl, jTW_mem (k := 148) (by decide +kernel) rfl, ⟨by decide +kernel, by decide +kernel⟩, by decide +kernel, rfl, rfl⟩
theorem in_X5_weigh : Cond.instanceMethod yX5_weigh ∈ jTW := jTW_mem (k := 1247) (by decide +kernel) rfl
theorem se_X5_weigh : Cond.selects yX5_weigh.cls yX5_weigh yX5_weigh ∈ jTW := jTW_mem (k := 1248) (by decide +kernel) rfl
theorem lk_X5_18 : Cond.fieldLink RX5 18 (TX4 2).1 (TX4 2).2.1 (TX4 2).2.2.1 ∈ jTW := jTW_mem (k := 313) (by decide +kernel) rfl
theorem lk_X5_24 : Cond.fieldLink RX5 24 (TX4 15).1 (TX4 15).2.1 (TX4 15).2.2.1 ∈ jTW := jTW_mem (k := 358) (by decide +kernel) rfl
theorem lm_X5_27 : Cond.methodLinkNest RX5 27 yX11_isIn "CageLeave" ∈ jNW := by decide +kernel
theorem lk_X5_31 : Cond.fieldLink RX5 31 (TX4 13).1 (TX4 13).2.1 (TX4 13).2.2.1 ∈ jTW := jTW_mem (k := 351) (by decide +kernel) rfl
theorem d_X5_weigh_0 : decode (D_X5_weigh).2.1 0 = .ok (.aload_n 0, 1) := by decide +kernel
theorem d_X5_weigh_1 : decode (D_X5_weigh).2.1 1 = .ok (.getfield 11, 3) := by decide +kernel
theorem d_X5_weigh_4 : decode (D_X5_weigh).2.1 4 = .ok (.iconst 0, 1) := by decide +kernel
theorem d_X5_weigh_5 : decode (D_X5_weigh).2.1 5 = .ok (.iconst 0, 1) := by decide +kernel
theorem d_X5_weigh_6 : decode (D_X5_weigh).2.1 6 = .ok (.iastore, 1) := by decide +kernel
theorem d_X5_weigh_7 : decode (D_X5_weigh).2.1 7 = .ok (.iconst 0, 1) := by decide +kernel
theorem d_X5_weigh_8 : decode (D_X5_weigh).2.1 8 = .ok (.istore_n 2, 1) := by decide +kernel
theorem d_X5_weigh_9 : decode (D_X5_weigh).2.1 9 = .ok (.iload_n 2, 1) := by decide +kernel
theorem d_X5_weigh_10 : decode (D_X5_weigh).2.1 10 = .ok (.aload_n 1, 1) := by decide +kernel
theorem d_X5_weigh_11 : decode (D_X5_weigh).2.1 11 = .ok (.getfield 18, 3) := by decide +kernel
theorem d_X5_weigh_14 : decode (D_X5_weigh).2.1 14 = .ok (.if_icmp .ge 126, 3) := by decide +kernel
theorem d_X5_weigh_17 : decode (D_X5_weigh).2.1 17 = .ok (.iconst 1, 1) := by decide +kernel
theorem d_X5_weigh_18 : decode (D_X5_weigh).2.1 18 = .ok (.iload_n 2, 1) := by decide +kernel
theorem d_X5_weigh_19 : decode (D_X5_weigh).2.1 19 = .ok (.ishl, 1) := by decide +kernel
theorem d_X5_weigh_20 : decode (D_X5_weigh).2.1 20 = .ok (.istore_n 3, 1) := by decide +kernel
theorem d_X5_weigh_21 : decode (D_X5_weigh).2.1 21 = .ok (.aload_n 1, 1) := by decide +kernel
theorem d_X5_weigh_22 : decode (D_X5_weigh).2.1 22 = .ok (.getfield 24, 3) := by decide +kernel
theorem d_X5_weigh_25 : decode (D_X5_weigh).2.1 25 = .ok (.iload_n 2, 1) := by decide +kernel
theorem d_X5_weigh_26 : decode (D_X5_weigh).2.1 26 = .ok (.iaload, 1) := by decide +kernel
theorem d_X5_weigh_27 : decode (D_X5_weigh).2.1 27 = .ok (.istore 4, 2) := by decide +kernel
theorem d_X5_weigh_29 : decode (D_X5_weigh).2.1 29 = .ok (.iconst 0, 1) := by decide +kernel
theorem d_X5_weigh_30 : decode (D_X5_weigh).2.1 30 = .ok (.istore 5, 2) := by decide +kernel
theorem d_X5_weigh_32 : decode (D_X5_weigh).2.1 32 = .ok (.iload 5, 2) := by decide +kernel
theorem d_X5_weigh_34 : decode (D_X5_weigh).2.1 34 = .ok (.aload_n 1, 1) := by decide +kernel
theorem d_X5_weigh_35 : decode (D_X5_weigh).2.1 35 = .ok (.getfield 18, 3) := by decide +kernel
theorem d_X5_weigh_38 : decode (D_X5_weigh).2.1 38 = .ok (.if_icmp .ge 32, 3) := by decide +kernel
theorem d_X5_weigh_41 : decode (D_X5_weigh).2.1 41 = .ok (.aload_n 1, 1) := by decide +kernel
theorem d_X5_weigh_42 : decode (D_X5_weigh).2.1 42 = .ok (.getfield 24, 3) := by decide +kernel
theorem d_X5_weigh_45 : decode (D_X5_weigh).2.1 45 = .ok (.iload 5, 2) := by decide +kernel
theorem d_X5_weigh_47 : decode (D_X5_weigh).2.1 47 = .ok (.iaload, 1) := by decide +kernel
theorem d_X5_weigh_48 : decode (D_X5_weigh).2.1 48 = .ok (.iload_n 2, 1) := by decide +kernel
theorem d_X5_weigh_49 : decode (D_X5_weigh).2.1 49 = .ok (.invokestatic 27, 3) := by decide +kernel
theorem d_X5_weigh_52 : decode (D_X5_weigh).2.1 52 = .ok (.ifCond .eq 12, 3) := by decide +kernel
theorem d_X5_weigh_55 : decode (D_X5_weigh).2.1 55 = .ok (.iload 4, 2) := by decide +kernel
theorem d_X5_weigh_57 : decode (D_X5_weigh).2.1 57 = .ok (.iconst 1, 1) := by decide +kernel
theorem d_X5_weigh_58 : decode (D_X5_weigh).2.1 58 = .ok (.iload 5, 2) := by decide +kernel
theorem d_X5_weigh_60 : decode (D_X5_weigh).2.1 60 = .ok (.ishl, 1) := by decide +kernel
theorem d_X5_weigh_61 : decode (D_X5_weigh).2.1 61 = .ok (.ior, 1) := by decide +kernel
theorem d_X5_weigh_62 : decode (D_X5_weigh).2.1 62 = .ok (.istore 4, 2) := by decide +kernel
theorem d_X5_weigh_64 : decode (D_X5_weigh).2.1 64 = .ok (.iinc 5 1, 3) := by decide +kernel
theorem d_X5_weigh_67 : decode (D_X5_weigh).2.1 67 = .ok (.goto (-35), 3) := by decide +kernel
theorem d_X5_weigh_70 : decode (D_X5_weigh).2.1 70 = .ok (.iconst 0, 1) := by decide +kernel
theorem d_X5_weigh_71 : decode (D_X5_weigh).2.1 71 = .ok (.istore 5, 2) := by decide +kernel
theorem d_X5_weigh_73 : decode (D_X5_weigh).2.1 73 = .ok (.iload 5, 2) := by decide +kernel
theorem d_X5_weigh_75 : decode (D_X5_weigh).2.1 75 = .ok (.iload_n 3, 1) := by decide +kernel
theorem d_X5_weigh_76 : decode (D_X5_weigh).2.1 76 = .ok (.if_icmp .ge 58, 3) := by decide +kernel
theorem d_X5_weigh_79 : decode (D_X5_weigh).2.1 79 = .ok (.iload 5, 2) := by decide +kernel
theorem d_X5_weigh_81 : decode (D_X5_weigh).2.1 81 = .ok (.iload 4, 2) := by decide +kernel
theorem d_X5_weigh_83 : decode (D_X5_weigh).2.1 83 = .ok (.iand, 1) := by decide +kernel
theorem d_X5_weigh_84 : decode (D_X5_weigh).2.1 84 = .ok (.ifCond .eq 7, 3) := by decide +kernel
theorem d_X5_weigh_87 : decode (D_X5_weigh).2.1 87 = .ok (.iconst 1, 1) := by decide +kernel
theorem d_X5_weigh_88 : decode (D_X5_weigh).2.1 88 = .ok (.goto 4, 3) := by decide +kernel
theorem d_X5_weigh_91 : decode (D_X5_weigh).2.1 91 = .ok (.iconst 0, 1) := by decide +kernel
theorem d_X5_weigh_92 : decode (D_X5_weigh).2.1 92 = .ok (.istore 6, 2) := by decide +kernel
theorem d_X5_weigh_94 : decode (D_X5_weigh).2.1 94 = .ok (.aload_n 0, 1) := by decide +kernel
theorem d_X5_weigh_95 : decode (D_X5_weigh).2.1 95 = .ok (.getfield 11, 3) := by decide +kernel
theorem d_X5_weigh_98 : decode (D_X5_weigh).2.1 98 = .ok (.iload_n 3, 1) := by decide +kernel
theorem d_X5_weigh_99 : decode (D_X5_weigh).2.1 99 = .ok (.iload 5, 2) := by decide +kernel
theorem d_X5_weigh_101 : decode (D_X5_weigh).2.1 101 = .ok (.ior, 1) := by decide +kernel
theorem d_X5_weigh_102 : decode (D_X5_weigh).2.1 102 = .ok (.aload_n 0, 1) := by decide +kernel
theorem d_X5_weigh_103 : decode (D_X5_weigh).2.1 103 = .ok (.getfield 11, 3) := by decide +kernel
theorem d_X5_weigh_106 : decode (D_X5_weigh).2.1 106 = .ok (.iload 5, 2) := by decide +kernel
theorem d_X5_weigh_108 : decode (D_X5_weigh).2.1 108 = .ok (.iaload, 1) := by decide +kernel
theorem d_X5_weigh_109 : decode (D_X5_weigh).2.1 109 = .ok (.iload 6, 2) := by decide +kernel
theorem d_X5_weigh_111 : decode (D_X5_weigh).2.1 111 = .ok (.ifCond .eq 9, 3) := by decide +kernel
theorem d_X5_weigh_114 : decode (D_X5_weigh).2.1 114 = .ok (.sipush 1000, 3) := by decide +kernel
theorem d_X5_weigh_117 : decode (D_X5_weigh).2.1 117 = .ok (.goto 9, 3) := by decide +kernel
theorem d_X5_weigh_120 : decode (D_X5_weigh).2.1 120 = .ok (.aload_n 1, 1) := by decide +kernel
theorem d_X5_weigh_121 : decode (D_X5_weigh).2.1 121 = .ok (.getfield 31, 3) := by decide +kernel
theorem d_X5_weigh_124 : decode (D_X5_weigh).2.1 124 = .ok (.iload_n 2, 1) := by decide +kernel
theorem d_X5_weigh_125 : decode (D_X5_weigh).2.1 125 = .ok (.iaload, 1) := by decide +kernel
theorem d_X5_weigh_126 : decode (D_X5_weigh).2.1 126 = .ok (.iadd, 1) := by decide +kernel
theorem d_X5_weigh_127 : decode (D_X5_weigh).2.1 127 = .ok (.iastore, 1) := by decide +kernel
theorem d_X5_weigh_128 : decode (D_X5_weigh).2.1 128 = .ok (.iinc 5 1, 3) := by decide +kernel
theorem d_X5_weigh_131 : decode (D_X5_weigh).2.1 131 = .ok (.goto (-58), 3) := by decide +kernel
theorem d_X5_weigh_134 : decode (D_X5_weigh).2.1 134 = .ok (.iinc 2 1, 3) := by decide +kernel
theorem d_X5_weigh_137 : decode (D_X5_weigh).2.1 137 = .ok (.goto (-128), 3) := by decide +kernel
theorem d_X5_weigh_140 : decode (D_X5_weigh).2.1 140 = .ok (.return_, 1) := by decide +kernel
def f_X5_weigh_L64 (n : Nat) (p1 : Nat) (r9 : Int → JMem → Option (Int × JMem)) (r32 : Int → Int → Int → Int → JMem → Option (Int × JMem)) (v2 v3 v4 v5 : Int) (M : JMem) : Option (Int × JMem) := letv (v5 + 1) fun y1 => r32 v2 v3 v4 y1 M
set_option maxRecDepth 4000 in
theorem t_X5_weigh_L64 {g : JG} {ad : Nat → Nat} (hs : jStr g ad) (n : Nat) (p1 : Nat) (hp1 : jK jNN (0, 4) p1) (r9 : Int → JMem → Option (Int × JMem)) (r32 : Int → Int → Int → Int → JMem → Option (Int × JMem)) (hr9 : ∀ (v2 : Int) (M : JMem), jB g D_X5_weigh ad 9 [some (.ref 79), some (.ref p1), some (ji v2), none, none, none, none] [] M (r9 v2 M)) (hr32 : ∀ (v2 v3 v4 v5 : Int) (M : JMem), jB g D_X5_weigh ad 32 [some (.ref 79), some (.ref p1), some (ji v2), some (ji v3), some (ji v4), some (ji v5), none] [] M (r32 v2 v3 v4 v5 M)) (v2 v3 v4 v5 : Int) (M : JMem) : jB g D_X5_weigh ad 64 [some (.ref 79), some (.ref p1), some (ji v2), some (ji v3), some (ji v4), some (ji v5), none] [] M (f_X5_weigh_L64 n p1 r9 r32 v2 v3 v4 v5 M) := by
  unfold f_X5_weigh_L64
  refine jo_iinc 5 d_X5_weigh_64 rfl (Nat.le_of_ble_eq_true rfl) (fun y1 => ?_)
  refine jo_goto 32 d_X5_weigh_67 (by decide) ?_
  exact jO.sub (hr32 v2 v3 v4 y1 M) (And.intro rfl (And.intro rfl (And.intro rfl (And.intro rfl (And.intro rfl (And.intro rfl True.intro))))))
def f_X5_weigh_L126 (n : Nat) (p1 : Nat) (r9 : Int → JMem → Option (Int × JMem)) (r73 : Int → Int → Int → Int → JMem → Option (Int × JMem)) (v2 v3 v4 v5 w1 w2 w3 : Int) (M : JMem) : Option (Int × JMem) := chk (jin w1 256) <| letm (jup M 80 (jw w1).toNat (w2 + w3)) fun M1 => letv (v5 + 1) fun y2 => r73 v2 v3 v4 y2 M1
set_option maxRecDepth 4000 in
theorem t_X5_weigh_L126 {g : JG} {ad : Nat → Nat} (hs : jStr g ad) (n : Nat) (p1 : Nat) (hp1 : jK jNN (0, 4) p1) (r9 : Int → JMem → Option (Int × JMem)) (r73 : Int → Int → Int → Int → JMem → Option (Int × JMem)) (hr9 : ∀ (v2 : Int) (M : JMem), jB g D_X5_weigh ad 9 [some (.ref 79), some (.ref p1), some (ji v2), none, none, none, none] [] M (r9 v2 M)) (hr73 : ∀ (v2 v3 v4 v5 : Int) (M : JMem), jB g D_X5_weigh ad 73 [some (.ref 79), some (.ref p1), some (ji v2), some (ji v3), some (ji v4), some (ji v5), none] [] M (r73 v2 v3 v4 v5 M)) (v2 v3 v4 v5 w1 w2 w3 : Int) (M : JMem) : jB g D_X5_weigh ad 126 [some (.ref 79), some (.ref p1), some (ji v2), some (ji v3), some (ji v4), some (ji v5), none] [ji w3, ji w2, ji w1, .ref 80] M (f_X5_weigh_L126 n p1 r9 r73 v2 v3 v4 v5 w1 w2 w3 M) := by
  unfold f_X5_weigh_L126
  refine jo_iadd d_X5_weigh_126 ?_
  refine jo_iast (N := 256) kc_80 d_X5_weigh_127 (fun M1 => ?_)
  refine jo_iinc 5 d_X5_weigh_128 rfl (Nat.le_of_ble_eq_true rfl) (fun y2 => ?_)
  refine jo_goto 73 d_X5_weigh_131 (by decide) ?_
  exact jO.sub (hr73 v2 v3 v4 y2 M1) (And.intro rfl (And.intro rfl (And.intro rfl (And.intro rfl (And.intro rfl (And.intro rfl True.intro))))))
def f_X5_weigh_L92 (n : Nat) (p1 : Nat) (r9 : Int → JMem → Option (Int × JMem)) (r73 : Int → Int → Int → Int → JMem → Option (Int × JMem)) (v2 v3 v4 v5 w0 : Int) (M : JMem) : Option (Int × JMem) := letv w0 fun y1 => chk (jin v5 256) <| if jw y1 = 0 then (chk (jin v2 8) <| f_X5_weigh_L126 n p1 r9 r73 v2 v3 v4 v5 (jor v3 v5) (M 80 (jw v5).toNat) (M (p1 + 9) (jw v2).toNat) M) else (f_X5_weigh_L126 n p1 r9 r73 v2 v3 v4 v5 (jor v3 v5) (M 80 (jw v5).toNat) 1000 M)
set_option maxRecDepth 4000 in
theorem t_X5_weigh_L92 {g : JG} {ad : Nat → Nat} (hs : jStr g ad) (n : Nat) (p1 : Nat) (hp1 : jK jNN (0, 4) p1) (r9 : Int → JMem → Option (Int × JMem)) (r73 : Int → Int → Int → Int → JMem → Option (Int × JMem)) (hr9 : ∀ (v2 : Int) (M : JMem), jB g D_X5_weigh ad 9 [some (.ref 79), some (.ref p1), some (ji v2), none, none, none, none] [] M (r9 v2 M)) (hr73 : ∀ (v2 v3 v4 v5 : Int) (M : JMem), jB g D_X5_weigh ad 73 [some (.ref 79), some (.ref p1), some (ji v2), some (ji v3), some (ji v4), some (ji v5), none] [] M (r73 v2 v3 v4 v5 M)) (v2 v3 v4 v5 w0 : Int) (M : JMem) : jB g D_X5_weigh ad 92 [some (.ref 79), some (.ref p1), some (ji v2), some (ji v3), some (ji v4), some (ji v5), none] [ji w0] M (f_X5_weigh_L92 n p1 r9 r73 v2 v3 v4 v5 w0 M) := by
  unfold f_X5_weigh_L92
  refine jo_istoreW 6 d_X5_weigh_92 (Nat.le_of_ble_eq_true rfl) (fun y1 => ?_)
  refine jo_aload 0 d_X5_weigh_94 rfl rfl ?_
  refine jo_getR (k := 0) cl_5 (Nat.le_of_ble_eq_true rfl) lk_X5_11 rfl kc_79 kr_79_0 d_X5_weigh_95 ?_
  refine jo_iload 3 d_X5_weigh_98 rfl rfl ?_
  refine jo_iloadW 5 d_X5_weigh_99 rfl ?_
  refine jo_ior d_X5_weigh_101 ?_
  refine jo_aload 0 d_X5_weigh_102 rfl rfl ?_
  refine jo_getR (k := 0) cl_5 (Nat.le_of_ble_eq_true rfl) lk_X5_11 rfl kc_79 kr_79_0 d_X5_weigh_103 ?_
  refine jo_iloadW 5 d_X5_weigh_106 rfl ?_
  refine jo_iald (N := 256) kc_80 d_X5_weigh_108 ?_
  refine jo_iloadW 6 d_X5_weigh_109 rfl ?_
  refine jo_if_eq 120 d_X5_weigh_111 (by decide) ?_ ?_
  · skip
    refine jo_aload 1 d_X5_weigh_120 rfl rfl ?_
    refine jo_getR (k := 13) cl_4 (Nat.le_of_ble_eq_true rfl) lk_X5_31 rfl hp1 (kr_Plan_13 hp1) d_X5_weigh_121 ?_
    refine jo_iload 2 d_X5_weigh_124 rfl rfl ?_
    refine jo_iald (N := 8) (ka_Plan_13 hp1) d_X5_weigh_125 ?_
    exact jO.sub (t_X5_weigh_L126 hs n p1 hp1 r9 r73 hr9 hr73 v2 v3 v4 v5 (jor v3 v5) (M 80 (jw v5).toNat) (M (p1 + 9) (jw v2).toNat) M) (And.intro rfl (And.intro rfl (And.intro rfl (And.intro rfl (And.intro rfl (And.intro rfl True.intro))))))
  · skip
    refine jo_sipush 1000 d_X5_weigh_114 (by decide) ?_
    refine jo_goto 126 d_X5_weigh_117 (by decide) ?_
    exact jO.sub (t_X5_weigh_L126 hs n p1 hp1 r9 r73 hr9 hr73 v2 v3 v4 v5 (jor v3 v5) (M 80 (jw v5).toNat) 1000 M) (And.intro rfl (And.intro rfl (And.intro rfl (And.intro rfl (And.intro rfl (And.intro rfl True.intro))))))
def f_X5_weigh_L134 (n : Nat) (p1 : Nat) (r9 : Int → JMem → Option (Int × JMem)) (v2 : Int) (M : JMem) : Option (Int × JMem) := letv (v2 + 1) fun y1 => r9 y1 M
set_option maxRecDepth 4000 in
theorem t_X5_weigh_L134 {g : JG} {ad : Nat → Nat} (hs : jStr g ad) (n : Nat) (p1 : Nat) (hp1 : jK jNN (0, 4) p1) (r9 : Int → JMem → Option (Int × JMem)) (hr9 : ∀ (v2 : Int) (M : JMem), jB g D_X5_weigh ad 9 [some (.ref 79), some (.ref p1), some (ji v2), none, none, none, none] [] M (r9 v2 M)) (v2 : Int) (M : JMem) : jB g D_X5_weigh ad 134 [some (.ref 79), some (.ref p1), some (ji v2), none, none, none, none] [] M (f_X5_weigh_L134 n p1 r9 v2 M) := by
  unfold f_X5_weigh_L134
  refine jo_iinc 2 d_X5_weigh_134 rfl (Nat.le_of_ble_eq_true rfl) (fun y1 => ?_)
  refine jo_goto 9 d_X5_weigh_137 (by decide) ?_
  exact jO.sub (hr9 y1 M) (And.intro rfl (And.intro rfl (And.intro rfl True.intro)))
def f_X5_weigh_L73 (n : Nat) (p1 : Nat) (r9 : Int → JMem → Option (Int × JMem)) : Nat → Int → Int → Int → Int → JMem → Option (Int × JMem)
  | 0, _, _, _, _, _ => none
  | k + 1, v2, v3, v4, v5, M => if jw v3 ≤ jw v5 then (f_X5_weigh_L134 n p1 r9 v2 M) else (if jw (jand v5 v4) = 0 then (f_X5_weigh_L92 n p1 r9 (f_X5_weigh_L73 n p1 r9 k) v2 v3 v4 v5 0 M) else (f_X5_weigh_L92 n p1 r9 (f_X5_weigh_L73 n p1 r9 k) v2 v3 v4 v5 1 M))
set_option maxRecDepth 4000 in
theorem t_X5_weigh_L73 {g : JG} {ad : Nat → Nat} (hs : jStr g ad) (n : Nat) (p1 : Nat) (hp1 : jK jNN (0, 4) p1) (r9 : Int → JMem → Option (Int × JMem)) (hr9 : ∀ (v2 : Int) (M : JMem), jB g D_X5_weigh ad 9 [some (.ref 79), some (.ref p1), some (ji v2), none, none, none, none] [] M (r9 v2 M)) : ∀ (k : Nat) (v2 v3 v4 v5 : Int) (M : JMem), jB g D_X5_weigh ad 73 [some (.ref 79), some (.ref p1), some (ji v2), some (ji v3), some (ji v4), some (ji v5), none] [] M (f_X5_weigh_L73 n p1 r9 k v2 v3 v4 v5 M) := by
  intro k
  induction k with
  | zero => intro v2 v3 v4 v5 M; exact jO.none
  | succ k ih =>
    intro v2 v3 v4 v5 M
    rw [f_X5_weigh_L73]
    refine jo_iloadW 5 d_X5_weigh_73 rfl ?_
    refine jo_iload 3 d_X5_weigh_75 rfl rfl ?_
    refine jo_icmp_ge 134 d_X5_weigh_76 (by decide) ?_ ?_
    · skip
      exact jO.sub (t_X5_weigh_L134 hs n p1 hp1 r9 hr9 v2 M) (And.intro rfl (And.intro rfl (And.intro rfl True.intro)))
    · skip
      refine jo_iloadW 5 d_X5_weigh_79 rfl ?_
      refine jo_iloadW 4 d_X5_weigh_81 rfl ?_
      refine jo_iand d_X5_weigh_83 ?_
      refine jo_if_eq 91 d_X5_weigh_84 (by decide) ?_ ?_
      · skip
        refine jo_iconst 0 d_X5_weigh_91 ?_
        exact jO.sub (t_X5_weigh_L92 hs n p1 hp1 r9 (f_X5_weigh_L73 n p1 r9 k) hr9 ih v2 v3 v4 v5 0 M) (And.intro rfl (And.intro rfl (And.intro rfl (And.intro rfl (And.intro rfl (And.intro rfl True.intro))))))
      · skip
        refine jo_iconst 1 d_X5_weigh_87 ?_
        refine jo_goto 92 d_X5_weigh_88 (by decide) ?_
        exact jO.sub (t_X5_weigh_L92 hs n p1 hp1 r9 (f_X5_weigh_L73 n p1 r9 k) hr9 ih v2 v3 v4 v5 1 M) (And.intro rfl (And.intro rfl (And.intro rfl (And.intro rfl (And.intro rfl (And.intro rfl True.intro))))))
def f_X5_weigh_L70 (n : Nat) (p1 : Nat) (r9 : Int → JMem → Option (Int × JMem)) (v2 v3 v4 : Int) (M : JMem) : Option (Int × JMem) := letv 0 fun y1 => f_X5_weigh_L73 n p1 r9 n v2 v3 v4 y1 M
set_option maxRecDepth 4000 in
theorem t_X5_weigh_L70 {g : JG} {ad : Nat → Nat} (hs : jStr g ad) (n : Nat) (p1 : Nat) (hp1 : jK jNN (0, 4) p1) (r9 : Int → JMem → Option (Int × JMem)) (hr9 : ∀ (v2 : Int) (M : JMem), jB g D_X5_weigh ad 9 [some (.ref 79), some (.ref p1), some (ji v2), none, none, none, none] [] M (r9 v2 M)) (v2 v3 v4 : Int) (M : JMem) : jB g D_X5_weigh ad 70 [some (.ref 79), some (.ref p1), some (ji v2), some (ji v3), some (ji v4), none, none] [] M (f_X5_weigh_L70 n p1 r9 v2 v3 v4 M) := by
  unfold f_X5_weigh_L70
  refine jo_iconst 0 d_X5_weigh_70 ?_
  refine jo_istoreW 5 d_X5_weigh_71 (Nat.le_of_ble_eq_true rfl) (fun y1 => ?_)
  exact jO.sub (t_X5_weigh_L73 hs n p1 hp1 r9 hr9 n v2 v3 v4 y1 M) (And.intro rfl (And.intro rfl (And.intro rfl (And.intro rfl (And.intro rfl (And.intro rfl True.intro))))))
def f_X5_weigh_L32 (n : Nat) (p1 : Nat) (r9 : Int → JMem → Option (Int × JMem)) : Nat → Int → Int → Int → Int → JMem → Option (Int × JMem)
  | 0, _, _, _, _, _ => none
  | k + 1, v2, v3, v4, v5, M => if jw (M p1 2) ≤ jw v5 then (f_X5_weigh_L70 n p1 r9 v2 v3 v4 M) else (chk (jin v5 8) <| bnd (f_X11_isIn n (M (p1 + 11) (jw v5).toNat) v2 M) fun r1 M2 => if jw r1 = 0 then (f_X5_weigh_L64 n p1 r9 (f_X5_weigh_L32 n p1 r9 k) v2 v3 v4 v5 M2) else (letv (jor v4 (jshl 1 v5)) fun y3 => f_X5_weigh_L64 n p1 r9 (f_X5_weigh_L32 n p1 r9 k) v2 v3 y3 v5 M2))
set_option maxRecDepth 4000 in
theorem t_X5_weigh_L32 {g : JG} {ad : Nat → Nat} (hs : jStr g ad) (n : Nat) (p1 : Nat) (hp1 : jK jNN (0, 4) p1) (r9 : Int → JMem → Option (Int × JMem)) (hr9 : ∀ (v2 : Int) (M : JMem), jB g D_X5_weigh ad 9 [some (.ref 79), some (.ref p1), some (ji v2), none, none, none, none] [] M (r9 v2 M)) : ∀ (k : Nat) (v2 v3 v4 v5 : Int) (M : JMem), jB g D_X5_weigh ad 32 [some (.ref 79), some (.ref p1), some (ji v2), some (ji v3), some (ji v4), some (ji v5), none] [] M (f_X5_weigh_L32 n p1 r9 k v2 v3 v4 v5 M) := by
  intro k
  induction k with
  | zero => intro v2 v3 v4 v5 M; exact jO.none
  | succ k ih =>
    intro v2 v3 v4 v5 M
    rw [f_X5_weigh_L32]
    refine jo_iloadW 5 d_X5_weigh_32 rfl ?_
    refine jo_aload 1 d_X5_weigh_34 rfl rfl ?_
    refine jo_getI (k := 2) cl_4 (Nat.le_of_ble_eq_true rfl) lk_X5_18 (Or.inl rfl) hp1 d_X5_weigh_35 ?_
    refine jo_icmp_ge 70 d_X5_weigh_38 (by decide) ?_ ?_
    · skip
      exact jO.sub (t_X5_weigh_L70 hs n p1 hp1 r9 hr9 v2 v3 v4 M) (And.intro rfl (And.intro rfl (And.intro rfl (And.intro rfl (And.intro rfl True.intro)))))
    · skip
      refine jo_aload 1 d_X5_weigh_41 rfl rfl ?_
      refine jo_getR (k := 15) cl_4 (Nat.le_of_ble_eq_true rfl) lk_X5_24 rfl hp1 (kr_Plan_15 hp1) d_X5_weigh_42 ?_
      refine jo_iloadW 5 d_X5_weigh_45 rfl ?_
      refine jo_iald (N := 8) (ka_Plan_15 hp1) d_X5_weigh_47 ?_
      refine jo_iload 2 d_X5_weigh_48 rfl rfl ?_
      refine jo_callSN (st := []) (m_X11_isIn hs n (M (p1 + 11) (jw v5).toNat) v2 M) ok_X11_isIn (And.intro (Nat.le_of_ble_eq_true rfl) (Nat.le_of_ble_eq_true rfl)) lm_X5_27 st_X11_isIn rfl (And.intro (Nat.zero_le _) (Nat.zero_le _)) rfl (Nat.le_of_ble_eq_true rfl) d_X5_weigh_49 (fun r1 M2 => ?_)
      refine jo_if_eq 64 d_X5_weigh_52 (by decide) ?_ ?_
      · skip
        exact jO.sub (t_X5_weigh_L64 hs n p1 hp1 r9 (f_X5_weigh_L32 n p1 r9 k) hr9 ih v2 v3 v4 v5 M2) (And.intro rfl (And.intro rfl (And.intro rfl (And.intro rfl (And.intro rfl (And.intro rfl True.intro))))))
      · skip
        refine jo_iloadW 4 d_X5_weigh_55 rfl ?_
        refine jo_iconst 1 d_X5_weigh_57 ?_
        refine jo_iloadW 5 d_X5_weigh_58 rfl ?_
        refine jo_ishl d_X5_weigh_60 ?_
        refine jo_ior d_X5_weigh_61 ?_
        refine jo_istoreW 4 d_X5_weigh_62 (Nat.le_of_ble_eq_true rfl) (fun y3 => ?_)
        exact jO.sub (t_X5_weigh_L64 hs n p1 hp1 r9 (f_X5_weigh_L32 n p1 r9 k) hr9 ih v2 v3 y3 v5 M2) (And.intro rfl (And.intro rfl (And.intro rfl (And.intro rfl (And.intro rfl (And.intro rfl True.intro))))))
def f_X5_weigh_L9 (n : Nat) (p1 : Nat) : Nat → Int → JMem → Option (Int × JMem)
  | 0, _, _ => none
  | k + 1, v2, M => if jw (M p1 2) ≤ jw v2 then (some (0, M)) else (letv (jshl 1 v2) fun y1 => chk (jin v2 8) <| letv (M (p1 + 11) (jw v2).toNat) fun y2 => letv 0 fun y3 => f_X5_weigh_L32 n p1 (f_X5_weigh_L9 n p1 k) n v2 y1 y2 y3 M)
set_option maxRecDepth 4000 in
theorem t_X5_weigh_L9 {g : JG} {ad : Nat → Nat} (hs : jStr g ad) (n : Nat) (p1 : Nat) (hp1 : jK jNN (0, 4) p1) : ∀ (k : Nat) (v2 : Int) (M : JMem), jB g D_X5_weigh ad 9 [some (.ref 79), some (.ref p1), some (ji v2), none, none, none, none] [] M (f_X5_weigh_L9 n p1 k v2 M) := by
  intro k
  induction k with
  | zero => intro v2 M; exact jO.none
  | succ k ih =>
    intro v2 M
    rw [f_X5_weigh_L9]
    refine jo_iload 2 d_X5_weigh_9 rfl rfl ?_
    refine jo_aload 1 d_X5_weigh_10 rfl rfl ?_
    refine jo_getI (k := 2) cl_4 (Nat.le_of_ble_eq_true rfl) lk_X5_18 (Or.inl rfl) hp1 d_X5_weigh_11 ?_
    refine jo_icmp_ge 140 d_X5_weigh_14 (by decide) ?_ ?_
    · skip
      exact jo_vret rfl d_X5_weigh_140
    · skip
      refine jo_iconst 1 d_X5_weigh_17 ?_
      refine jo_iload 2 d_X5_weigh_18 rfl rfl ?_
      refine jo_ishl d_X5_weigh_19 ?_
      refine jo_istore 3 d_X5_weigh_20 rfl (Nat.le_of_ble_eq_true rfl) (fun y1 => ?_)
      refine jo_aload 1 d_X5_weigh_21 rfl rfl ?_
      refine jo_getR (k := 15) cl_4 (Nat.le_of_ble_eq_true rfl) lk_X5_24 rfl hp1 (kr_Plan_15 hp1) d_X5_weigh_22 ?_
      refine jo_iload 2 d_X5_weigh_25 rfl rfl ?_
      refine jo_iald (N := 8) (ka_Plan_15 hp1) d_X5_weigh_26 ?_
      refine jo_istoreW 4 d_X5_weigh_27 (Nat.le_of_ble_eq_true rfl) (fun y2 => ?_)
      refine jo_iconst 0 d_X5_weigh_29 ?_
      refine jo_istoreW 5 d_X5_weigh_30 (Nat.le_of_ble_eq_true rfl) (fun y3 => ?_)
      exact jO.sub (t_X5_weigh_L32 hs n p1 hp1 (f_X5_weigh_L9 n p1 k) ih n v2 y1 y2 y3 M) (And.intro rfl (And.intro rfl (And.intro rfl (And.intro rfl (And.intro rfl (And.intro rfl True.intro))))))
def f_X5_weigh (n : Nat) (p1 : Nat) (M : JMem) : Option (Int × JMem) := chk (jin 0 256) <| letm (jup M 80 (jw 0).toNat 0) fun M1 => letv 0 fun y2 => f_X5_weigh_L9 n p1 n y2 M1
set_option maxRecDepth 4000 in
theorem t_X5_weigh {g : JG} {ad : Nat → Nat} (hs : jStr g ad) (n : Nat) (p1 : Nat) (hp1 : jK jNN (0, 4) p1) (M : JMem) : jB g D_X5_weigh ad 0 [some (.ref 79), some (.ref p1), none, none, none, none, none] [] M (f_X5_weigh n p1 M) := by
  unfold f_X5_weigh
  refine jo_aload 0 d_X5_weigh_0 rfl rfl ?_
  refine jo_getR (k := 0) cl_5 (Nat.le_of_ble_eq_true rfl) lk_X5_11 rfl kc_79 kr_79_0 d_X5_weigh_1 ?_
  refine jo_iconst 0 d_X5_weigh_4 ?_
  refine jo_iconst 0 d_X5_weigh_5 ?_
  refine jo_iast (N := 256) kc_80 d_X5_weigh_6 (fun M1 => ?_)
  refine jo_iconst 0 d_X5_weigh_7 ?_
  refine jo_istore 2 d_X5_weigh_8 rfl (Nat.le_of_ble_eq_true rfl) (fun y2 => ?_)
  exact jO.sub (t_X5_weigh_L9 hs n p1 hp1 n y2 M1) (And.intro rfl (And.intro rfl (And.intro rfl True.intro)))
theorem m_X5_weigh {g : JG} {ad : Nat → Nat} (hs : jStr g ad) (n : Nat) (p1 : Nat) (hp1 : jK jNN (0, 4) p1) (M : JMem) : jMet g jNN ad jR D_X5_weigh yX5_weigh [.ref 79, .ref p1] M (f_X5_weigh n p1 M) :=
  jMet.of (lo0 := [some (.ref 79), some (.ref p1), none, none, none, none, none]) (by decide) rfl rfl (Nat.le_of_ble_eq_true rfl) (And.intro rfl (And.intro rfl True.intro)) (t_X5_weigh hs n p1 hp1 M)
/-! CageLeave$Text.add(I)V -/
def D_X6_add : JD := (RX6, cX6_add, 3, none, "add", { frames := 0, cells := 0, slots := 0, locals := 0 })
theorem ok_X6_add : jOk D_X6_add yX6_add 1 := ⟨jTW_mem (k := 747) (by decide +kernel) rfl, jTW_mem (k := 137) (by decide +kernel) rfl, ⟨by decide +kernel, by decide +kernel⟩, by decide +kernel, rfl, rfl⟩
theorem in_X6_add : Cond.instanceMethod yX6_add ∈ jTW := jTW_mem (k := 745) (by decide +kernel) rfl
theorem se_X6_add : Cond.selects yX6_add.cls yX6_add yX6_add ∈ jTW := jTW_mem (k := 746) (by decide +kernel) rfl
theorem lk_X6_15 : Cond.fieldLink RX6 15 (TX6 1).1 (TX6 1).2.1 (TX6 1).2.2.1 ∈ jTW := jTW_mem (k := 244) (by decide +kernel) rfl
theorem d_X6_add_0 : decode (D_X6_add).2.1 0 = .ok (.bipush 24, 2) := by decide +kernel
theorem d_X6_add_2 : decode (D_X6_add).2.1 2 = .ok (.istore_n 2, 1) := by decide +kernel
theorem d_X6_add_3 : decode (D_X6_add).2.1 3 = .ok (.iload_n 2, 1) := by decide +kernel
theorem d_X6_add_4 : decode (D_X6_add).2.1 4 = .ok (.ifCond .lt 42, 3) := by decide +kernel
theorem d_X6_add_7 : decode (D_X6_add).2.1 7 = .ok (.aload_n 0, 1) := by decide +kernel
theorem d_X6_add_8 : decode (D_X6_add).2.1 8 = .ok (.getfield 15, 3) := by decide +kernel
theorem d_X6_add_11 : decode (D_X6_add).2.1 11 = .ok (.sipush 900, 3) := by decide +kernel
theorem d_X6_add_14 : decode (D_X6_add).2.1 14 = .ok (.if_icmp .ge 32, 3) := by decide +kernel
theorem d_X6_add_17 : decode (D_X6_add).2.1 17 = .ok (.aload_n 0, 1) := by decide +kernel
theorem d_X6_add_18 : decode (D_X6_add).2.1 18 = .ok (.getfield 11, 3) := by decide +kernel
theorem d_X6_add_21 : decode (D_X6_add).2.1 21 = .ok (.aload_n 0, 1) := by decide +kernel
theorem d_X6_add_22 : decode (D_X6_add).2.1 22 = .ok (.getfield 15, 3) := by decide +kernel
theorem d_X6_add_25 : decode (D_X6_add).2.1 25 = .ok (.iload_n 1, 1) := by decide +kernel
theorem d_X6_add_26 : decode (D_X6_add).2.1 26 = .ok (.iload_n 2, 1) := by decide +kernel
theorem d_X6_add_27 : decode (D_X6_add).2.1 27 = .ok (.ishr, 1) := by decide +kernel
theorem d_X6_add_28 : decode (D_X6_add).2.1 28 = .ok (.i2b, 1) := by decide +kernel
theorem d_X6_add_29 : decode (D_X6_add).2.1 29 = .ok (.bastore, 1) := by decide +kernel
theorem d_X6_add_30 : decode (D_X6_add).2.1 30 = .ok (.aload_n 0, 1) := by decide +kernel
theorem d_X6_add_31 : decode (D_X6_add).2.1 31 = .ok (.dup, 1) := by decide +kernel
theorem d_X6_add_32 : decode (D_X6_add).2.1 32 = .ok (.getfield 15, 3) := by decide +kernel
theorem d_X6_add_35 : decode (D_X6_add).2.1 35 = .ok (.iconst 1, 1) := by decide +kernel
theorem d_X6_add_36 : decode (D_X6_add).2.1 36 = .ok (.iadd, 1) := by decide +kernel
theorem d_X6_add_37 : decode (D_X6_add).2.1 37 = .ok (.putfield 15, 3) := by decide +kernel
theorem d_X6_add_40 : decode (D_X6_add).2.1 40 = .ok (.iinc 2 (-8), 3) := by decide +kernel
theorem d_X6_add_43 : decode (D_X6_add).2.1 43 = .ok (.goto (-40), 3) := by decide +kernel
theorem d_X6_add_46 : decode (D_X6_add).2.1 46 = .ok (.return_, 1) := by decide +kernel
def f_X6_add_L3 (n : Nat) : Nat → Int → Int → JMem → Option (Int × JMem)
  | 0, _, _, _ => none
  | k + 1, v1, v2, M => if jw v2 < 0 then (some (0, M)) else (if jw 900 ≤ jw (M 9 1) then (some (0, M)) else (chk (jin (M 9 1) 900) <| letm (jup M 10 (jw (M 9 1)).toNat (jw8 (jw8 (jshr v1 v2)))) fun M1 => letm (jup M1 9 1 ((M1 9 1) + 1)) fun M2 => letv (v2 + (-8)) fun y3 => (f_X6_add_L3 n k) v1 y3 M2))
set_option maxRecDepth 4000 in
theorem t_X6_add_L3 {g : JG} {ad : Nat → Nat} (hs : jStr g ad) (n : Nat) : ∀ (k : Nat) (v1 v2 : Int) (M : JMem), jB g D_X6_add ad 3 [some (.ref 9), some (ji v1), some (ji v2)] [] M (f_X6_add_L3 n k v1 v2 M) := by
  intro k
  induction k with
  | zero => intro v1 v2 M; exact jO.none
  | succ k ih =>
    intro v1 v2 M
    rw [f_X6_add_L3]
    refine jo_iload 2 d_X6_add_3 rfl rfl ?_
    refine jo_if_lt 46 d_X6_add_4 (by decide) ?_ ?_
    · skip
      exact jo_vret rfl d_X6_add_46
    · skip
      refine jo_aload 0 d_X6_add_7 rfl rfl ?_
      refine jo_getI (k := 1) cl_6 (Nat.le_of_ble_eq_true rfl) lk_X6_15 (Or.inl rfl) kc_9 d_X6_add_8 ?_
      refine jo_sipush 900 d_X6_add_11 (by decide) ?_
      refine jo_icmp_ge 46 d_X6_add_14 (by decide) ?_ ?_
      · skip
        exact jo_vret rfl d_X6_add_46
      · skip
        refine jo_aload 0 d_X6_add_17 rfl rfl ?_
        refine jo_getR (k := 0) cl_6 (Nat.le_of_ble_eq_true rfl) lk_X6_11 rfl kc_9 kr_9_0 d_X6_add_18 ?_
        refine jo_aload 0 d_X6_add_21 rfl rfl ?_
        refine jo_getI (k := 1) cl_6 (Nat.le_of_ble_eq_true rfl) lk_X6_15 (Or.inl rfl) kc_9 d_X6_add_22 ?_
        refine jo_iload 1 d_X6_add_25 rfl rfl ?_
        refine jo_iload 2 d_X6_add_26 rfl rfl ?_
        refine jo_ishr d_X6_add_27 ?_
        refine jo_i2b d_X6_add_28 ?_
        refine jo_bast (N := 900) kc_10 d_X6_add_29 (fun M1 => ?_)
        refine jo_aload 0 d_X6_add_30 rfl rfl ?_
        refine jo_dup d_X6_add_31 rfl ?_
        refine jo_getI (k := 1) cl_6 (Nat.le_of_ble_eq_true rfl) lk_X6_15 (Or.inl rfl) kc_9 d_X6_add_32 ?_
        refine jo_iconst 1 d_X6_add_35 ?_
        refine jo_iadd d_X6_add_36 ?_
        refine jo_putI (k := 1) cl_6 (Nat.le_of_ble_eq_true rfl) lk_X6_15 rfl rfl kc_9 d_X6_add_37 (fun M2 => ?_)
        refine jo_iinc 2 d_X6_add_40 rfl (Nat.le_of_ble_eq_true rfl) (fun y3 => ?_)
        refine jo_goto 3 d_X6_add_43 (by decide) ?_
        exact jO.sub (ih v1 y3 M2) (And.intro rfl (And.intro rfl (And.intro rfl True.intro)))
def f_X6_add (n : Nat) (x1 : Int) (M : JMem) : Option (Int × JMem) := letv 24 fun y1 => f_X6_add_L3 n n x1 y1 M
set_option maxRecDepth 4000 in
theorem t_X6_add {g : JG} {ad : Nat → Nat} (hs : jStr g ad) (n : Nat) (x1 : Int) (M : JMem) : jB g D_X6_add ad 0 [some (.ref 9), some (ji x1), none] [] M (f_X6_add n x1 M) := by
  unfold f_X6_add
  refine jo_bipush 24 d_X6_add_0 (by decide) ?_
  refine jo_istore 2 d_X6_add_2 rfl (Nat.le_of_ble_eq_true rfl) (fun y1 => ?_)
  exact jO.sub (t_X6_add_L3 hs n n x1 y1 M) (And.intro rfl (And.intro rfl (And.intro rfl True.intro)))
theorem m_X6_add {g : JG} {ad : Nat → Nat} (hs : jStr g ad) (n : Nat) (x1 : Int) (M : JMem) : jMet g jNN ad jR D_X6_add yX6_add [.ref 9, ji x1] M (f_X6_add n x1 M) :=
  jMet.of (lo0 := [some (.ref 9), some (ji x1), none]) (by decide) rfl rfl (Nat.le_of_ble_eq_true rfl) (And.intro rfl (And.intro rfl True.intro)) (t_X6_add hs n x1 M)
/-! CageLeave$Trays.hasRun(III)Z -/
def D_X7_hasRun : JD := (RX7, cX7_hasRun, 4, some .boolean, "hasRun", { frames := 0, cells := 0, slots := 0, locals := 0 })
theorem ok_X7_hasRun : jOk D_X7_hasRun yX7_hasRun 3 := ⟨jTW_mem (k := 736) (by decide +kernel) rfl, jTW_mem (k := 136) (by decide +kernel) rfl, ⟨by decide +kernel, by decide +kernel⟩, by decide +kernel, rfl, rfl⟩
theorem in_X7_hasRun : Cond.instanceMethod yX7_hasRun ∈ jTW := jTW_mem (k := 734) (by decide +kernel) rfl
theorem se_X7_hasRun : Cond.selects yX7_hasRun.cls yX7_hasRun yX7_hasRun ∈ jTW := jTW_mem (k := 735) (by decide +kernel) rfl
theorem d_X7_hasRun_0 : decode (D_X7_hasRun).2.1 0 = .ok (.iload_n 2, 1) := by decide +kernel
theorem d_X7_hasRun_1 : decode (D_X7_hasRun).2.1 1 = .ok (.i2l, 1) := by decide +kernel
theorem d_X7_hasRun_2 : decode (D_X7_hasRun).2.1 2 = .ok (.iload_n 3, 1) := by decide +kernel
theorem d_X7_hasRun_3 : decode (D_X7_hasRun).2.1 3 = .ok (.i2l, 1) := by decide +kernel
theorem d_X7_hasRun_4 : decode (D_X7_hasRun).2.1 4 = .ok (.ladd, 1) := by decide +kernel
theorem d_X7_hasRun_5 : decode (D_X7_hasRun).2.1 5 = .ok (.aload_n 0, 1) := by decide +kernel
theorem d_X7_hasRun_6 : decode (D_X7_hasRun).2.1 6 = .ok (.getfield 20, 3) := by decide +kernel
theorem d_X7_hasRun_9 : decode (D_X7_hasRun).2.1 9 = .ok (.iload_n 1, 1) := by decide +kernel
theorem d_X7_hasRun_10 : decode (D_X7_hasRun).2.1 10 = .ok (.iaload, 1) := by decide +kernel
theorem d_X7_hasRun_11 : decode (D_X7_hasRun).2.1 11 = .ok (.i2l, 1) := by decide +kernel
theorem d_X7_hasRun_12 : decode (D_X7_hasRun).2.1 12 = .ok (.lcmp, 1) := by decide +kernel
theorem d_X7_hasRun_13 : decode (D_X7_hasRun).2.1 13 = .ok (.ifCond .gt 7, 3) := by decide +kernel
theorem d_X7_hasRun_16 : decode (D_X7_hasRun).2.1 16 = .ok (.iconst 1, 1) := by decide +kernel
theorem d_X7_hasRun_17 : decode (D_X7_hasRun).2.1 17 = .ok (.goto 4, 3) := by decide +kernel
theorem d_X7_hasRun_20 : decode (D_X7_hasRun).2.1 20 = .ok (.iconst 0, 1) := by decide +kernel
theorem d_X7_hasRun_21 : decode (D_X7_hasRun).2.1 21 = .ok (.ireturn, 1) := by decide +kernel
def f_X7_hasRun (n : Nat) (x1 : Int) (x2 : Int) (x3 : Int) (M : JMem) : Option (Int × JMem) := chk (jin x1 4) <| if 0 < jw (jcmp ((jw x2) + (jw x3)) (jw (M 8 (jw x1).toNat))) then (some (0, M)) else (some (1, M))
set_option maxRecDepth 4000 in
theorem t_X7_hasRun {g : JG} {ad : Nat → Nat} (hs : jStr g ad) (n : Nat) (x1 : Int) (x2 : Int) (x3 : Int) (M : JMem) : jB g D_X7_hasRun ad 0 [some (.ref 1), some (ji x1), some (ji x2), some (ji x3)] [] M (f_X7_hasRun n x1 x2 x3 M) := by
  unfold f_X7_hasRun
  refine jo_iload 2 d_X7_hasRun_0 rfl rfl ?_
  refine jo_i2l d_X7_hasRun_1 ?_
  refine jo_iload 3 d_X7_hasRun_2 rfl rfl ?_
  refine jo_i2l d_X7_hasRun_3 ?_
  refine jo_ladd d_X7_hasRun_4 ?_
  refine jo_aload 0 d_X7_hasRun_5 rfl rfl ?_
  refine jo_getR (k := 2) cl_7 (Nat.le_of_ble_eq_true rfl) lk_X7_20 rfl kc_1 kr_1_2 d_X7_hasRun_6 ?_
  refine jo_iload 1 d_X7_hasRun_9 rfl rfl ?_
  refine jo_iald (N := 4) kc_8 d_X7_hasRun_10 ?_
  refine jo_i2l d_X7_hasRun_11 ?_
  refine jo_lcmp d_X7_hasRun_12 ?_
  refine jo_if_gt 20 d_X7_hasRun_13 (by decide) ?_ ?_
  · skip
    refine jo_iconst 0 d_X7_hasRun_20 ?_
    exact jo_zret rfl (by decide) d_X7_hasRun_21
  · skip
    refine jo_iconst 1 d_X7_hasRun_16 ?_
    refine jo_goto 21 d_X7_hasRun_17 (by decide) ?_
    exact jo_zret rfl (by decide) d_X7_hasRun_21
theorem m_X7_hasRun {g : JG} {ad : Nat → Nat} (hs : jStr g ad) (n : Nat) (x1 : Int) (x2 : Int) (x3 : Int) (M : JMem) : jMet g jNN ad jR D_X7_hasRun yX7_hasRun [.ref 1, ji x1, ji x2, ji x3] M (f_X7_hasRun n x1 x2 x3 M) :=
  jMet.of (lo0 := [some (.ref 1), some (ji x1), some (ji x2), some (ji x3)]) (by decide) rfl rfl (Nat.le_of_ble_eq_true rfl) (And.intro rfl (And.intro rfl (And.intro rfl (And.intro rfl True.intro)))) (t_X7_hasRun hs n x1 x2 x3 M)
/-! CageLeave$Trays.isMissing(I)Z -/
def D_X7_isMissing : JD := (RX7, cX7_isMissing, 2, some .boolean, "isMissing", { frames := 0, cells := 0, slots := 0, locals := 0 })
theorem ok_X7_isMissing : jOk D_X7_isMissing yX7_isMissing 1 := ⟨jTW_mem (k := 715) (by decide +kernel) rfl, jTW_mem (k := 136) (by decide +kernel) rfl, ⟨by decide +kernel, by decide +kernel⟩, by decide +kernel, rfl, rfl⟩
theorem in_X7_isMissing : Cond.instanceMethod yX7_isMissing ∈ jTW := jTW_mem (k := 713) (by decide +kernel) rfl
theorem se_X7_isMissing : Cond.selects yX7_isMissing.cls yX7_isMissing yX7_isMissing ∈ jTW := jTW_mem (k := 714) (by decide +kernel) rfl
theorem d_X7_isMissing_0 : decode (D_X7_isMissing).2.1 0 = .ok (.aload_n 0, 1) := by decide +kernel
theorem d_X7_isMissing_1 : decode (D_X7_isMissing).2.1 1 = .ok (.getfield 16, 3) := by decide +kernel
theorem d_X7_isMissing_4 : decode (D_X7_isMissing).2.1 4 = .ok (.iload_n 1, 1) := by decide +kernel
theorem d_X7_isMissing_5 : decode (D_X7_isMissing).2.1 5 = .ok (.iaload, 1) := by decide +kernel
theorem d_X7_isMissing_6 : decode (D_X7_isMissing).2.1 6 = .ok (.iconst (-1), 1) := by decide +kernel
theorem d_X7_isMissing_7 : decode (D_X7_isMissing).2.1 7 = .ok (.if_icmp .ne 7, 3) := by decide +kernel
theorem d_X7_isMissing_10 : decode (D_X7_isMissing).2.1 10 = .ok (.iconst 1, 1) := by decide +kernel
theorem d_X7_isMissing_11 : decode (D_X7_isMissing).2.1 11 = .ok (.goto 4, 3) := by decide +kernel
theorem d_X7_isMissing_14 : decode (D_X7_isMissing).2.1 14 = .ok (.iconst 0, 1) := by decide +kernel
theorem d_X7_isMissing_15 : decode (D_X7_isMissing).2.1 15 = .ok (.ireturn, 1) := by decide +kernel
def f_X7_isMissing (n : Nat) (x1 : Int) (M : JMem) : Option (Int × JMem) := chk (jin x1 4) <| if jw (M 7 (jw x1).toNat) = jw (-1) then (some (1, M)) else (some (0, M))
set_option maxRecDepth 4000 in
theorem t_X7_isMissing {g : JG} {ad : Nat → Nat} (hs : jStr g ad) (n : Nat) (x1 : Int) (M : JMem) : jB g D_X7_isMissing ad 0 [some (.ref 1), some (ji x1)] [] M (f_X7_isMissing n x1 M) := by
  unfold f_X7_isMissing
  refine jo_aload 0 d_X7_isMissing_0 rfl rfl ?_
  refine jo_getR (k := 1) cl_7 (Nat.le_of_ble_eq_true rfl) lk_X7_16 rfl kc_1 kr_1_1 d_X7_isMissing_1 ?_
  refine jo_iload 1 d_X7_isMissing_4 rfl rfl ?_
  refine jo_iald (N := 4) kc_7 d_X7_isMissing_5 ?_
  refine jo_iconst (-1) d_X7_isMissing_6 ?_
  refine jo_icmp_ne 14 d_X7_isMissing_7 (by decide) ?_ ?_
  · skip
    refine jo_iconst 0 d_X7_isMissing_14 ?_
    exact jo_zret rfl (by decide) d_X7_isMissing_15
  · skip
    refine jo_iconst 1 d_X7_isMissing_10 ?_
    refine jo_goto 15 d_X7_isMissing_11 (by decide) ?_
    exact jo_zret rfl (by decide) d_X7_isMissing_15
theorem m_X7_isMissing {g : JG} {ad : Nat → Nat} (hs : jStr g ad) (n : Nat) (x1 : Int) (M : JMem) : jMet g jNN ad jR D_X7_isMissing yX7_isMissing [.ref 1, ji x1] M (f_X7_isMissing n x1 M) :=
  jMet.of (lo0 := [some (.ref 1), some (ji x1)]) (by decide) rfl rfl (Nat.le_of_ble_eq_true rfl) (And.intro rfl (And.intro rfl True.intro)) (t_X7_isMissing hs n x1 M)
/-! CageLeave$Trays.isTray(I)Z -/
def D_X7_isTray : JD := (RX7, cX7_isTray, 1, some .boolean, "isTray", { frames := 0, cells := 0, slots := 0, locals := 0 })
theorem ok_X7_isTray : jOk D_X7_isTray yX7_isTray 1 := ⟨jTW_mem (k := 686) (by decide +kernel) rfl, jTW_mem (k := 136) (by decide +kernel) rfl, ⟨by decide +kernel, by decide +kernel⟩, by decide +kernel, rfl, rfl⟩
theorem st_X7_isTray : Cond.static yX7_isTray ∈ jTW := jTW_mem (k := 685) (by decide +kernel) rfl
theorem d_X7_isTray_0 : decode (D_X7_isTray).2.1 0 = .ok (.iload_n 0, 1) := by decide +kernel
theorem d_X7_isTray_1 : decode (D_X7_isTray).2.1 1 = .ok (.ifCond .lt 12, 3) := by decide +kernel
theorem d_X7_isTray_4 : decode (D_X7_isTray).2.1 4 = .ok (.iload_n 0, 1) := by decide +kernel
theorem d_X7_isTray_5 : decode (D_X7_isTray).2.1 5 = .ok (.iconst 4, 1) := by decide +kernel
theorem d_X7_isTray_6 : decode (D_X7_isTray).2.1 6 = .ok (.if_icmp .ge 7, 3) := by decide +kernel
theorem d_X7_isTray_9 : decode (D_X7_isTray).2.1 9 = .ok (.iconst 1, 1) := by decide +kernel
theorem d_X7_isTray_10 : decode (D_X7_isTray).2.1 10 = .ok (.goto 4, 3) := by decide +kernel
theorem d_X7_isTray_13 : decode (D_X7_isTray).2.1 13 = .ok (.iconst 0, 1) := by decide +kernel
theorem d_X7_isTray_14 : decode (D_X7_isTray).2.1 14 = .ok (.ireturn, 1) := by decide +kernel
def f_X7_isTray (n : Nat) (x0 : Int) (M : JMem) : Option (Int × JMem) := if jw x0 < 0 then (some (0, M)) else (if jw 4 ≤ jw x0 then (some (0, M)) else (some (1, M)))
set_option maxRecDepth 4000 in
theorem t_X7_isTray {g : JG} {ad : Nat → Nat} (hs : jStr g ad) (n : Nat) (x0 : Int) (M : JMem) : jB g D_X7_isTray ad 0 [some (ji x0)] [] M (f_X7_isTray n x0 M) := by
  unfold f_X7_isTray
  refine jo_iload 0 d_X7_isTray_0 rfl rfl ?_
  refine jo_if_lt 13 d_X7_isTray_1 (by decide) ?_ ?_
  · skip
    refine jo_iconst 0 d_X7_isTray_13 ?_
    exact jo_zret rfl (by decide) d_X7_isTray_14
  · skip
    refine jo_iload 0 d_X7_isTray_4 rfl rfl ?_
    refine jo_iconst 4 d_X7_isTray_5 ?_
    refine jo_icmp_ge 13 d_X7_isTray_6 (by decide) ?_ ?_
    · skip
      refine jo_iconst 0 d_X7_isTray_13 ?_
      exact jo_zret rfl (by decide) d_X7_isTray_14
    · skip
      refine jo_iconst 1 d_X7_isTray_9 ?_
      refine jo_goto 14 d_X7_isTray_10 (by decide) ?_
      exact jo_zret rfl (by decide) d_X7_isTray_14
theorem m_X7_isTray {g : JG} {ad : Nat → Nat} (hs : jStr g ad) (n : Nat) (x0 : Int) (M : JMem) : jMet g jNN ad jR D_X7_isTray yX7_isTray [ji x0] M (f_X7_isTray n x0 M) :=
  jMet.of (lo0 := [some (ji x0)]) (by decide) rfl rfl (Nat.le_of_ble_eq_true rfl) (And.intro rfl True.intro) (t_X7_isTray hs n x0 M)
/-! CageLeave$Trays.lay(III)V -/
def D_X7_lay : JD := (RX7, cX7_lay, 5, none, "lay", { frames := 0, cells := 0, slots := 0, locals := 0 })
theorem ok_X7_lay : jOk D_X7_lay yX7_lay 3 := ⟨jTW_mem (k := 694) (by decide +kernel) rfl, jTW_mem (k := 136) (by decide +kernel) rfl, ⟨by decide +kernel, by decide +kernel⟩, by decide +kernel, rfl, rfl⟩
theorem in_X7_lay : Cond.instanceMethod yX7_lay ∈ jTW := jTW_mem (k := 692) (by decide +kernel) rfl
theorem se_X7_lay : Cond.selects yX7_lay.cls yX7_lay yX7_lay ∈ jTW := jTW_mem (k := 693) (by decide +kernel) rfl
theorem d_X7_lay_0 : decode (D_X7_lay).2.1 0 = .ok (.aload_n 0, 1) := by decide +kernel
theorem d_X7_lay_1 : decode (D_X7_lay).2.1 1 = .ok (.getfield 16, 3) := by decide +kernel
theorem d_X7_lay_4 : decode (D_X7_lay).2.1 4 = .ok (.iload_n 1, 1) := by decide +kernel
theorem d_X7_lay_5 : decode (D_X7_lay).2.1 5 = .ok (.iload_n 2, 1) := by decide +kernel
theorem d_X7_lay_6 : decode (D_X7_lay).2.1 6 = .ok (.iastore, 1) := by decide +kernel
theorem d_X7_lay_7 : decode (D_X7_lay).2.1 7 = .ok (.aload_n 0, 1) := by decide +kernel
theorem d_X7_lay_8 : decode (D_X7_lay).2.1 8 = .ok (.getfield 20, 3) := by decide +kernel
theorem d_X7_lay_11 : decode (D_X7_lay).2.1 11 = .ok (.iload_n 1, 1) := by decide +kernel
theorem d_X7_lay_12 : decode (D_X7_lay).2.1 12 = .ok (.iload_n 3, 1) := by decide +kernel
theorem d_X7_lay_13 : decode (D_X7_lay).2.1 13 = .ok (.iastore, 1) := by decide +kernel
theorem d_X7_lay_14 : decode (D_X7_lay).2.1 14 = .ok (.iconst 0, 1) := by decide +kernel
theorem d_X7_lay_15 : decode (D_X7_lay).2.1 15 = .ok (.istore 4, 2) := by decide +kernel
theorem d_X7_lay_17 : decode (D_X7_lay).2.1 17 = .ok (.iload 4, 2) := by decide +kernel
theorem d_X7_lay_19 : decode (D_X7_lay).2.1 19 = .ok (.bipush 60, 2) := by decide +kernel
theorem d_X7_lay_21 : decode (D_X7_lay).2.1 21 = .ok (.if_icmp .ge 19, 3) := by decide +kernel
theorem d_X7_lay_24 : decode (D_X7_lay).2.1 24 = .ok (.aload_n 0, 1) := by decide +kernel
theorem d_X7_lay_25 : decode (D_X7_lay).2.1 25 = .ok (.getfield 13, 3) := by decide +kernel
theorem d_X7_lay_28 : decode (D_X7_lay).2.1 28 = .ok (.iload_n 1, 1) := by decide +kernel
theorem d_X7_lay_29 : decode (D_X7_lay).2.1 29 = .ok (.aaload, 1) := by decide +kernel
theorem d_X7_lay_30 : decode (D_X7_lay).2.1 30 = .ok (.iload 4, 2) := by decide +kernel
theorem d_X7_lay_32 : decode (D_X7_lay).2.1 32 = .ok (.lconst 0, 1) := by decide +kernel
theorem d_X7_lay_33 : decode (D_X7_lay).2.1 33 = .ok (.lastore, 1) := by decide +kernel
theorem d_X7_lay_34 : decode (D_X7_lay).2.1 34 = .ok (.iinc 4 1, 3) := by decide +kernel
theorem d_X7_lay_37 : decode (D_X7_lay).2.1 37 = .ok (.goto (-20), 3) := by decide +kernel
theorem d_X7_lay_40 : decode (D_X7_lay).2.1 40 = .ok (.return_, 1) := by decide +kernel
def f_X7_lay_L17 (n : Nat) : Nat → Int → Int → JMem → Option (Int × JMem)
  | 0, _, _, _ => none
  | k + 1, v1, v4, M => if jw 60 ≤ jw v4 then (some (0, M)) else (chk (jin v1 4) <| chk (jin v4 60) <| letm (jup M (jRn 2 (jw v1).toNat) (jw v4).toNat 0) fun M2 => letv (v4 + 1) fun y3 => (f_X7_lay_L17 n k) v1 y3 M2)
set_option maxRecDepth 4000 in
theorem t_X7_lay_L17 {g : JG} {ad : Nat → Nat} (hs : jStr g ad) (n : Nat) : ∀ (k : Nat) (v1 v4 : Int) (M : JMem), jB g D_X7_lay ad 17 [some (.ref 1), some (ji v1), none, none, some (ji v4)] [] M (f_X7_lay_L17 n k v1 v4 M) := by
  intro k
  induction k with
  | zero => intro v1 v4 M; exact jO.none
  | succ k ih =>
    intro v1 v4 M
    rw [f_X7_lay_L17]
    refine jo_iloadW 4 d_X7_lay_17 rfl ?_
    refine jo_bipush 60 d_X7_lay_19 (by decide) ?_
    refine jo_icmp_ge 40 d_X7_lay_21 (by decide) ?_ ?_
    · skip
      exact jo_vret rfl d_X7_lay_40
    · skip
      refine jo_aload 0 d_X7_lay_24 rfl rfl ?_
      refine jo_getR (k := 0) cl_7 (Nat.le_of_ble_eq_true rfl) lk_X7_13 rfl kc_1 kr_1_0 d_X7_lay_25 ?_
      refine jo_iload 1 d_X7_lay_28 rfl rfl ?_
      refine jo_aald_2 d_X7_lay_29 (fun h1 => ?_)
      refine jo_iloadW 4 d_X7_lay_30 rfl ?_
      refine jo_lconst0 d_X7_lay_32 ?_
      refine jo_last (N := 60) h1 d_X7_lay_33 (fun M2 => ?_)
      refine jo_iinc 4 d_X7_lay_34 rfl (Nat.le_of_ble_eq_true rfl) (fun y3 => ?_)
      refine jo_goto 17 d_X7_lay_37 (by decide) ?_
      exact jO.sub (ih v1 y3 M2) (And.intro rfl (And.intro rfl (And.intro rfl True.intro)))
def f_X7_lay (n : Nat) (x1 : Int) (x2 : Int) (x3 : Int) (M : JMem) : Option (Int × JMem) := chk (jin x1 4) <| letm (jup M 7 (jw x1).toNat x2) fun M1 => chk (jin x1 4) <| letm (jup M1 8 (jw x1).toNat x3) fun M2 => letv 0 fun y3 => f_X7_lay_L17 n n x1 y3 M2
set_option maxRecDepth 4000 in
theorem t_X7_lay {g : JG} {ad : Nat → Nat} (hs : jStr g ad) (n : Nat) (x1 : Int) (x2 : Int) (x3 : Int) (M : JMem) : jB g D_X7_lay ad 0 [some (.ref 1), some (ji x1), some (ji x2), some (ji x3), none] [] M (f_X7_lay n x1 x2 x3 M) := by
  unfold f_X7_lay
  refine jo_aload 0 d_X7_lay_0 rfl rfl ?_
  refine jo_getR (k := 1) cl_7 (Nat.le_of_ble_eq_true rfl) lk_X7_16 rfl kc_1 kr_1_1 d_X7_lay_1 ?_
  refine jo_iload 1 d_X7_lay_4 rfl rfl ?_
  refine jo_iload 2 d_X7_lay_5 rfl rfl ?_
  refine jo_iast (N := 4) kc_7 d_X7_lay_6 (fun M1 => ?_)
  refine jo_aload 0 d_X7_lay_7 rfl rfl ?_
  refine jo_getR (k := 2) cl_7 (Nat.le_of_ble_eq_true rfl) lk_X7_20 rfl kc_1 kr_1_2 d_X7_lay_8 ?_
  refine jo_iload 1 d_X7_lay_11 rfl rfl ?_
  refine jo_iload 3 d_X7_lay_12 rfl rfl ?_
  refine jo_iast (N := 4) kc_8 d_X7_lay_13 (fun M2 => ?_)
  refine jo_iconst 0 d_X7_lay_14 ?_
  refine jo_istoreW 4 d_X7_lay_15 (Nat.le_of_ble_eq_true rfl) (fun y3 => ?_)
  exact jO.sub (t_X7_lay_L17 hs n n x1 y3 M2) (And.intro rfl (And.intro rfl (And.intro rfl True.intro)))
theorem m_X7_lay {g : JG} {ad : Nat → Nat} (hs : jStr g ad) (n : Nat) (x1 : Int) (x2 : Int) (x3 : Int) (M : JMem) : jMet g jNN ad jR D_X7_lay yX7_lay [.ref 1, ji x1, ji x2, ji x3] M (f_X7_lay n x1 x2 x3 M) :=
  jMet.of (lo0 := [some (.ref 1), some (ji x1), some (ji x2), some (ji x3), none]) (by decide) rfl rfl (Nat.le_of_ble_eq_true rfl) (And.intro rfl (And.intro rfl (And.intro rfl (And.intro rfl True.intro)))) (t_X7_lay hs n x1 x2 x3 M)
/-! CageLeave$Trays.put(IIJ)V -/
def D_X7_put : JD := (RX7, cX7_put, 5, none, "put", { frames := 0, cells := 0, slots := 0, locals := 0 })
theorem ok_X7_put : jOk D_X7_put yX7_put 3 := ⟨jTW_mem (k := 719) (by decide +kernel) rfl, jTW_mem (k := 136) (by decide +kernel) rfl, ⟨by decide +kernel, by decide +kernel⟩, by decide +kernel, rfl, rfl⟩
theorem in_X7_put : Cond.instanceMethod yX7_put ∈ jTW := jTW_mem (k := 717) (by decide +kernel) rfl
theorem se_X7_put : Cond.selects yX7_put.cls yX7_put yX7_put ∈ jTW := jTW_mem (k := 718) (by decide +kernel) rfl
theorem d_X7_put_0 : decode (D_X7_put).2.1 0 = .ok (.aload_n 0, 1) := by decide +kernel
theorem d_X7_put_1 : decode (D_X7_put).2.1 1 = .ok (.getfield 16, 3) := by decide +kernel
theorem d_X7_put_4 : decode (D_X7_put).2.1 4 = .ok (.iload_n 1, 1) := by decide +kernel
theorem d_X7_put_5 : decode (D_X7_put).2.1 5 = .ok (.iaload, 1) := by decide +kernel
theorem d_X7_put_6 : decode (D_X7_put).2.1 6 = .ok (.tableswitch 70 0 2 #[26, 41, 56], 26) := by decide +kernel
theorem d_X7_put_32 : decode (D_X7_put).2.1 32 = .ok (.aload_n 0, 1) := by decide +kernel
theorem d_X7_put_33 : decode (D_X7_put).2.1 33 = .ok (.getfield 13, 3) := by decide +kernel
theorem d_X7_put_36 : decode (D_X7_put).2.1 36 = .ok (.iload_n 1, 1) := by decide +kernel
theorem d_X7_put_37 : decode (D_X7_put).2.1 37 = .ok (.aaload, 1) := by decide +kernel
theorem d_X7_put_38 : decode (D_X7_put).2.1 38 = .ok (.iload_n 2, 1) := by decide +kernel
theorem d_X7_put_39 : decode (D_X7_put).2.1 39 = .ok (.lload_n 3, 1) := by decide +kernel
theorem d_X7_put_40 : decode (D_X7_put).2.1 40 = .ok (.l2i, 1) := by decide +kernel
theorem d_X7_put_41 : decode (D_X7_put).2.1 41 = .ok (.i2b, 1) := by decide +kernel
theorem d_X7_put_42 : decode (D_X7_put).2.1 42 = .ok (.i2l, 1) := by decide +kernel
theorem d_X7_put_43 : decode (D_X7_put).2.1 43 = .ok (.lastore, 1) := by decide +kernel
theorem d_X7_put_44 : decode (D_X7_put).2.1 44 = .ok (.goto 41, 3) := by decide +kernel
theorem d_X7_put_47 : decode (D_X7_put).2.1 47 = .ok (.aload_n 0, 1) := by decide +kernel
theorem d_X7_put_48 : decode (D_X7_put).2.1 48 = .ok (.getfield 13, 3) := by decide +kernel
theorem d_X7_put_51 : decode (D_X7_put).2.1 51 = .ok (.iload_n 1, 1) := by decide +kernel
theorem d_X7_put_52 : decode (D_X7_put).2.1 52 = .ok (.aaload, 1) := by decide +kernel
theorem d_X7_put_53 : decode (D_X7_put).2.1 53 = .ok (.iload_n 2, 1) := by decide +kernel
theorem d_X7_put_54 : decode (D_X7_put).2.1 54 = .ok (.lload_n 3, 1) := by decide +kernel
theorem d_X7_put_55 : decode (D_X7_put).2.1 55 = .ok (.l2i, 1) := by decide +kernel
theorem d_X7_put_56 : decode (D_X7_put).2.1 56 = .ok (.i2s, 1) := by decide +kernel
theorem d_X7_put_57 : decode (D_X7_put).2.1 57 = .ok (.i2l, 1) := by decide +kernel
theorem d_X7_put_58 : decode (D_X7_put).2.1 58 = .ok (.lastore, 1) := by decide +kernel
theorem d_X7_put_59 : decode (D_X7_put).2.1 59 = .ok (.goto 26, 3) := by decide +kernel
theorem d_X7_put_62 : decode (D_X7_put).2.1 62 = .ok (.aload_n 0, 1) := by decide +kernel
theorem d_X7_put_63 : decode (D_X7_put).2.1 63 = .ok (.getfield 13, 3) := by decide +kernel
theorem d_X7_put_66 : decode (D_X7_put).2.1 66 = .ok (.iload_n 1, 1) := by decide +kernel
theorem d_X7_put_67 : decode (D_X7_put).2.1 67 = .ok (.aaload, 1) := by decide +kernel
theorem d_X7_put_68 : decode (D_X7_put).2.1 68 = .ok (.iload_n 2, 1) := by decide +kernel
theorem d_X7_put_69 : decode (D_X7_put).2.1 69 = .ok (.lload_n 3, 1) := by decide +kernel
theorem d_X7_put_70 : decode (D_X7_put).2.1 70 = .ok (.l2i, 1) := by decide +kernel
theorem d_X7_put_71 : decode (D_X7_put).2.1 71 = .ok (.i2l, 1) := by decide +kernel
theorem d_X7_put_72 : decode (D_X7_put).2.1 72 = .ok (.lastore, 1) := by decide +kernel
theorem d_X7_put_73 : decode (D_X7_put).2.1 73 = .ok (.goto 12, 3) := by decide +kernel
theorem d_X7_put_76 : decode (D_X7_put).2.1 76 = .ok (.aload_n 0, 1) := by decide +kernel
theorem d_X7_put_77 : decode (D_X7_put).2.1 77 = .ok (.getfield 13, 3) := by decide +kernel
theorem d_X7_put_80 : decode (D_X7_put).2.1 80 = .ok (.iload_n 1, 1) := by decide +kernel
theorem d_X7_put_81 : decode (D_X7_put).2.1 81 = .ok (.aaload, 1) := by decide +kernel
theorem d_X7_put_82 : decode (D_X7_put).2.1 82 = .ok (.iload_n 2, 1) := by decide +kernel
theorem d_X7_put_83 : decode (D_X7_put).2.1 83 = .ok (.lload_n 3, 1) := by decide +kernel
theorem d_X7_put_84 : decode (D_X7_put).2.1 84 = .ok (.lastore, 1) := by decide +kernel
theorem d_X7_put_85 : decode (D_X7_put).2.1 85 = .ok (.return_, 1) := by decide +kernel
def f_X7_put (n : Nat) (x1 : Int) (x2 : Int) (x3 : Int) (M : JMem) : Option (Int × JMem) := chk (jin x1 4) <| if jw (M 7 (jw x1).toNat) = 0 then (chk (jin x1 4) <| chk (jin x2 60) <| letm (jup M (jRn 2 (jw x1).toNat) (jw x2).toNat (jw (jw8 x3))) fun M3 => some (0, M3)) else (if jw (M 7 (jw x1).toNat) = 1 then (chk (jin x1 4) <| chk (jin x2 60) <| letm (jup M (jRn 2 (jw x1).toNat) (jw x2).toNat (jw (jw16 x3))) fun M5 => some (0, M5)) else (if jw (M 7 (jw x1).toNat) = 2 then (chk (jin x1 4) <| chk (jin x2 60) <| letm (jup M (jRn 2 (jw x1).toNat) (jw x2).toNat (jw x3)) fun M7 => some (0, M7)) else (chk (jin x1 4) <| chk (jin x2 60) <| letm (jup M (jRn 2 (jw x1).toNat) (jw x2).toNat x3) fun M9 => some (0, M9))))
set_option maxRecDepth 4000 in
theorem t_X7_put {g : JG} {ad : Nat → Nat} (hs : jStr g ad) (n : Nat) (x1 : Int) (x2 : Int) (x3 : Int) (M : JMem) : jB g D_X7_put ad 0 [some (.ref 1), some (ji x1), some (ji x2), some (jl x3), none] [] M (f_X7_put n x1 x2 x3 M) := by
  unfold f_X7_put
  refine jo_aload 0 d_X7_put_0 rfl rfl ?_
  refine jo_getR (k := 1) cl_7 (Nat.le_of_ble_eq_true rfl) lk_X7_16 rfl kc_1 kr_1_1 d_X7_put_1 ?_
  refine jo_iload 1 d_X7_put_4 rfl rfl ?_
  refine jo_iald (N := 4) kc_7 d_X7_put_5 ?_
  refine jo_if (fun c1_0 => ?_) (fun c1_0 => ?_)
  · skip
    refine jo_tabIn 32 d_X7_put_6 0 c1_0 (by decide) (by decide) rfl (by decide) ?_
    refine jo_aload 0 d_X7_put_32 rfl rfl ?_
    refine jo_getR (k := 0) cl_7 (Nat.le_of_ble_eq_true rfl) lk_X7_13 rfl kc_1 kr_1_0 d_X7_put_33 ?_
    refine jo_iload 1 d_X7_put_36 rfl rfl ?_
    refine jo_aald_2 d_X7_put_37 (fun h2 => ?_)
    refine jo_iload 2 d_X7_put_38 rfl rfl ?_
    refine jo_lload 3 d_X7_put_39 rfl rfl ?_
    refine jo_l2i d_X7_put_40 ?_
    refine jo_i2b d_X7_put_41 ?_
    refine jo_i2l d_X7_put_42 ?_
    refine jo_last (N := 60) h2 d_X7_put_43 (fun M3 => ?_)
    refine jo_goto 85 d_X7_put_44 (by decide) ?_
    exact jo_vret rfl d_X7_put_85
  refine jo_if (fun c1_1 => ?_) (fun c1_1 => ?_)
  · skip
    refine jo_tabIn 47 d_X7_put_6 1 c1_1 (by decide) (by decide) rfl (by decide) ?_
    refine jo_aload 0 d_X7_put_47 rfl rfl ?_
    refine jo_getR (k := 0) cl_7 (Nat.le_of_ble_eq_true rfl) lk_X7_13 rfl kc_1 kr_1_0 d_X7_put_48 ?_
    refine jo_iload 1 d_X7_put_51 rfl rfl ?_
    refine jo_aald_2 d_X7_put_52 (fun h4 => ?_)
    refine jo_iload 2 d_X7_put_53 rfl rfl ?_
    refine jo_lload 3 d_X7_put_54 rfl rfl ?_
    refine jo_l2i d_X7_put_55 ?_
    refine jo_i2s d_X7_put_56 ?_
    refine jo_i2l d_X7_put_57 ?_
    refine jo_last (N := 60) h4 d_X7_put_58 (fun M5 => ?_)
    refine jo_goto 85 d_X7_put_59 (by decide) ?_
    exact jo_vret rfl d_X7_put_85
  refine jo_if (fun c1_2 => ?_) (fun c1_2 => ?_)
  · skip
    refine jo_tabIn 62 d_X7_put_6 2 c1_2 (by decide) (by decide) rfl (by decide) ?_
    refine jo_aload 0 d_X7_put_62 rfl rfl ?_
    refine jo_getR (k := 0) cl_7 (Nat.le_of_ble_eq_true rfl) lk_X7_13 rfl kc_1 kr_1_0 d_X7_put_63 ?_
    refine jo_iload 1 d_X7_put_66 rfl rfl ?_
    refine jo_aald_2 d_X7_put_67 (fun h6 => ?_)
    refine jo_iload 2 d_X7_put_68 rfl rfl ?_
    refine jo_lload 3 d_X7_put_69 rfl rfl ?_
    refine jo_l2i d_X7_put_70 ?_
    refine jo_i2l d_X7_put_71 ?_
    refine jo_last (N := 60) h6 d_X7_put_72 (fun M7 => ?_)
    refine jo_goto 85 d_X7_put_73 (by decide) ?_
    exact jo_vret rfl d_X7_put_85
  refine jo_tabOut 76 d_X7_put_6 (by omega) (by decide) ?_
  refine jo_aload 0 d_X7_put_76 rfl rfl ?_
  refine jo_getR (k := 0) cl_7 (Nat.le_of_ble_eq_true rfl) lk_X7_13 rfl kc_1 kr_1_0 d_X7_put_77 ?_
  refine jo_iload 1 d_X7_put_80 rfl rfl ?_
  refine jo_aald_2 d_X7_put_81 (fun h8 => ?_)
  refine jo_iload 2 d_X7_put_82 rfl rfl ?_
  refine jo_lload 3 d_X7_put_83 rfl rfl ?_
  refine jo_last (N := 60) h8 d_X7_put_84 (fun M9 => ?_)
  exact jo_vret rfl d_X7_put_85
theorem m_X7_put {g : JG} {ad : Nat → Nat} (hs : jStr g ad) (n : Nat) (x1 : Int) (x2 : Int) (x3 : Int) (M : JMem) : jMet g jNN ad jR D_X7_put yX7_put [.ref 1, ji x1, ji x2, jl x3] M (f_X7_put n x1 x2 x3 M) :=
  jMet.of (lo0 := [some (.ref 1), some (ji x1), some (ji x2), some (jl x3), none]) (by decide) rfl rfl (Nat.le_of_ble_eq_true rfl) (And.intro rfl (And.intro rfl (And.intro rfl (And.intro rfl True.intro)))) (t_X7_put hs n x1 x2 x3 M)
/-! CageLeave$Trays.whyNotLong(II)I -/
def D_X7_whyNotLong : JD := (RX7, cX7_whyNotLong, 3, some .int, "whyNotLong", { frames := 1, cells := 0, slots := 0, locals := 21 })
theorem ok_X7_whyNotLong : jOk D_X7_whyNotLong yX7_whyNotLong 2 := ⟨jTW_mem (k := 710) (by decide +kernel) rfl, jTW_mem (k := 136) (by decide +kernel) rfl, ⟨by decide +kernel, by decide +kernel⟩, by decide +kernel, rfl, rfl⟩
theorem in_X7_whyNotLong : Cond.instanceMethod yX7_whyNotLong ∈ jTW := jTW_mem (k := 708) (by decide +kernel) rfl
theorem se_X7_whyNotLong : Cond.selects yX7_whyNotLong.cls yX7_whyNotLong yX7_whyNotLong ∈ jTW := jTW_mem (k := 709) (by decide +kernel) rfl
theorem lm_X7_23 : Cond.methodLink RX7 23 yX7_isTray ∈ jTW := jTW_mem (k := 711) (by decide +kernel) rfl
theorem lm_X7_27 : Cond.methodLink RX7 27 yX7_isMissing ∈ jTW := jTW_mem (k := 712) (by decide +kernel) rfl
theorem d_X7_whyNotLong_0 : decode (D_X7_whyNotLong).2.1 0 = .ok (.iload_n 1, 1) := by decide +kernel
theorem d_X7_whyNotLong_1 : decode (D_X7_whyNotLong).2.1 1 = .ok (.invokestatic 23, 3) := by decide +kernel
theorem d_X7_whyNotLong_4 : decode (D_X7_whyNotLong).2.1 4 = .ok (.ifCond .ne 5, 3) := by decide +kernel
theorem d_X7_whyNotLong_7 : decode (D_X7_whyNotLong).2.1 7 = .ok (.iconst 1, 1) := by decide +kernel
theorem d_X7_whyNotLong_8 : decode (D_X7_whyNotLong).2.1 8 = .ok (.ireturn, 1) := by decide +kernel
theorem d_X7_whyNotLong_9 : decode (D_X7_whyNotLong).2.1 9 = .ok (.aload_n 0, 1) := by decide +kernel
theorem d_X7_whyNotLong_10 : decode (D_X7_whyNotLong).2.1 10 = .ok (.iload_n 1, 1) := by decide +kernel
theorem d_X7_whyNotLong_11 : decode (D_X7_whyNotLong).2.1 11 = .ok (.invokevirtual 27, 3) := by decide +kernel
theorem d_X7_whyNotLong_14 : decode (D_X7_whyNotLong).2.1 14 = .ok (.ifCond .eq 5, 3) := by decide +kernel
theorem d_X7_whyNotLong_17 : decode (D_X7_whyNotLong).2.1 17 = .ok (.iconst 2, 1) := by decide +kernel
theorem d_X7_whyNotLong_18 : decode (D_X7_whyNotLong).2.1 18 = .ok (.ireturn, 1) := by decide +kernel
theorem d_X7_whyNotLong_19 : decode (D_X7_whyNotLong).2.1 19 = .ok (.iload_n 2, 1) := by decide +kernel
theorem d_X7_whyNotLong_20 : decode (D_X7_whyNotLong).2.1 20 = .ok (.aload_n 0, 1) := by decide +kernel
theorem d_X7_whyNotLong_21 : decode (D_X7_whyNotLong).2.1 21 = .ok (.getfield 20, 3) := by decide +kernel
theorem d_X7_whyNotLong_24 : decode (D_X7_whyNotLong).2.1 24 = .ok (.iload_n 1, 1) := by decide +kernel
theorem d_X7_whyNotLong_25 : decode (D_X7_whyNotLong).2.1 25 = .ok (.iaload, 1) := by decide +kernel
theorem d_X7_whyNotLong_26 : decode (D_X7_whyNotLong).2.1 26 = .ok (.if_icmp .le 7, 3) := by decide +kernel
theorem d_X7_whyNotLong_29 : decode (D_X7_whyNotLong).2.1 29 = .ok (.iconst 3, 1) := by decide +kernel
theorem d_X7_whyNotLong_30 : decode (D_X7_whyNotLong).2.1 30 = .ok (.goto 4, 3) := by decide +kernel
theorem d_X7_whyNotLong_33 : decode (D_X7_whyNotLong).2.1 33 = .ok (.iconst 0, 1) := by decide +kernel
theorem d_X7_whyNotLong_34 : decode (D_X7_whyNotLong).2.1 34 = .ok (.ireturn, 1) := by decide +kernel
def f_X7_whyNotLong (n : Nat) (x1 : Int) (x2 : Int) (M : JMem) : Option (Int × JMem) := bnd (f_X7_isTray n x1 M) fun r1 M2 => if jw r1 = 0 then (some (1, M2)) else (bnd (f_X7_isMissing n x1 M2) fun r3 M4 => if jw r3 = 0 then (chk (jin x1 4) <| if jw x2 ≤ jw (M4 8 (jw x1).toNat) then (some (0, M4)) else (some (3, M4))) else (some (2, M4)))
set_option maxRecDepth 4000 in
theorem t_X7_whyNotLong {g : JG} {ad : Nat → Nat} (hs : jStr g ad) (n : Nat) (x1 : Int) (x2 : Int) (M : JMem) : jB g D_X7_whyNotLong ad 0 [some (.ref 1), some (ji x1), some (ji x2)] [] M (f_X7_whyNotLong n x1 x2 M) := by
  unfold f_X7_whyNotLong
  refine jo_iload 1 d_X7_whyNotLong_0 rfl rfl ?_
  refine jo_callS (st := []) (m_X7_isTray hs n x1 M) ok_X7_isTray (And.intro (Nat.le_of_ble_eq_true rfl) (Nat.le_of_ble_eq_true rfl)) lm_X7_23 st_X7_isTray rfl (And.intro (Nat.zero_le _) (Nat.zero_le _)) rfl (Nat.le_of_ble_eq_true rfl) d_X7_whyNotLong_1 (fun r1 M2 => ?_)
  refine jo_if_ne 9 d_X7_whyNotLong_4 (by decide) ?_ ?_
  · skip
    refine jo_aload 0 d_X7_whyNotLong_9 rfl rfl ?_
    refine jo_iload 1 d_X7_whyNotLong_10 rfl rfl ?_
    refine jo_callV (st := []) (m_X7_isMissing hs n x1 M2) ok_X7_isMissing (And.intro (Nat.le_of_ble_eq_true rfl) (Nat.le_of_ble_eq_true rfl)) lm_X7_27 in_X7_isMissing se_X7_isMissing rfl kc_1 rfl rfl (And.intro (Nat.zero_le _) (Nat.zero_le _)) rfl (Nat.le_of_ble_eq_true rfl) d_X7_whyNotLong_11 (fun r3 M4 => ?_)
    refine jo_if_eq 19 d_X7_whyNotLong_14 (by decide) ?_ ?_
    · skip
      refine jo_iload 2 d_X7_whyNotLong_19 rfl rfl ?_
      refine jo_aload 0 d_X7_whyNotLong_20 rfl rfl ?_
      refine jo_getR (k := 2) cl_7 (Nat.le_of_ble_eq_true rfl) lk_X7_20 rfl kc_1 kr_1_2 d_X7_whyNotLong_21 ?_
      refine jo_iload 1 d_X7_whyNotLong_24 rfl rfl ?_
      refine jo_iald (N := 4) kc_8 d_X7_whyNotLong_25 ?_
      refine jo_icmp_le 33 d_X7_whyNotLong_26 (by decide) ?_ ?_
      · skip
        refine jo_iconst 0 d_X7_whyNotLong_33 ?_
        exact jo_iret rfl d_X7_whyNotLong_34
      · skip
        refine jo_iconst 3 d_X7_whyNotLong_29 ?_
        refine jo_goto 34 d_X7_whyNotLong_30 (by decide) ?_
        exact jo_iret rfl d_X7_whyNotLong_34
    · skip
      refine jo_iconst 2 d_X7_whyNotLong_17 ?_
      exact jo_iret rfl d_X7_whyNotLong_18
  · skip
    refine jo_iconst 1 d_X7_whyNotLong_7 ?_
    exact jo_iret rfl d_X7_whyNotLong_8
theorem m_X7_whyNotLong {g : JG} {ad : Nat → Nat} (hs : jStr g ad) (n : Nat) (x1 : Int) (x2 : Int) (M : JMem) : jMet g jNN ad jR D_X7_whyNotLong yX7_whyNotLong [.ref 1, ji x1, ji x2] M (f_X7_whyNotLong n x1 x2 M) :=
  jMet.of (lo0 := [some (.ref 1), some (ji x1), some (ji x2)]) (by decide) rfl rfl (Nat.le_of_ble_eq_true rfl) (And.intro rfl (And.intro rfl (And.intro rfl True.intro))) (t_X7_whyNotLong hs n x1 x2 M)
/-! CageLeave$Trays.whyNotAt(II)I -/
def D_X7_whyNotAt : JD := (RX7, cX7_whyNotAt, 4, some .int, "whyNotAt", { frames := 2, cells := 0, slots := 0, locals := 43 })
theorem ok_X7_whyNotAt : jOk D_X7_whyNotAt yX7_whyNotAt 2 := ⟨jTW_mem (k := 706) (by decide +kernel) rfl, jTW_mem (k := 136) (by decide +kernel) rfl, ⟨by decide +kernel, by decide +kernel⟩, by decide +kernel, rfl, rfl⟩
theorem in_X7_whyNotAt : Cond.instanceMethod yX7_whyNotAt ∈ jTW := jTW_mem (k := 704) (by decide +kernel) rfl
theorem se_X7_whyNotAt : Cond.selects yX7_whyNotAt.cls yX7_whyNotAt yX7_whyNotAt ∈ jTW := jTW_mem (k := 705) (by decide +kernel) rfl
theorem lm_X7_30 : Cond.methodLink RX7 30 yX7_whyNotLong ∈ jTW := jTW_mem (k := 707) (by decide +kernel) rfl
theorem d_X7_whyNotAt_0 : decode (D_X7_whyNotAt).2.1 0 = .ok (.aload_n 0, 1) := by decide +kernel
theorem d_X7_whyNotAt_1 : decode (D_X7_whyNotAt).2.1 1 = .ok (.iload_n 1, 1) := by decide +kernel
theorem d_X7_whyNotAt_2 : decode (D_X7_whyNotAt).2.1 2 = .ok (.iconst 0, 1) := by decide +kernel
theorem d_X7_whyNotAt_3 : decode (D_X7_whyNotAt).2.1 3 = .ok (.invokevirtual 30, 3) := by decide +kernel
theorem d_X7_whyNotAt_6 : decode (D_X7_whyNotAt).2.1 6 = .ok (.istore_n 3, 1) := by decide +kernel
theorem d_X7_whyNotAt_7 : decode (D_X7_whyNotAt).2.1 7 = .ok (.iload_n 3, 1) := by decide +kernel
theorem d_X7_whyNotAt_8 : decode (D_X7_whyNotAt).2.1 8 = .ok (.ifCond .eq 5, 3) := by decide +kernel
theorem d_X7_whyNotAt_11 : decode (D_X7_whyNotAt).2.1 11 = .ok (.iload_n 3, 1) := by decide +kernel
theorem d_X7_whyNotAt_12 : decode (D_X7_whyNotAt).2.1 12 = .ok (.ireturn, 1) := by decide +kernel
theorem d_X7_whyNotAt_13 : decode (D_X7_whyNotAt).2.1 13 = .ok (.iload_n 2, 1) := by decide +kernel
theorem d_X7_whyNotAt_14 : decode (D_X7_whyNotAt).2.1 14 = .ok (.ifCond .lt 13, 3) := by decide +kernel
theorem d_X7_whyNotAt_17 : decode (D_X7_whyNotAt).2.1 17 = .ok (.iload_n 2, 1) := by decide +kernel
theorem d_X7_whyNotAt_18 : decode (D_X7_whyNotAt).2.1 18 = .ok (.aload_n 0, 1) := by decide +kernel
theorem d_X7_whyNotAt_19 : decode (D_X7_whyNotAt).2.1 19 = .ok (.getfield 20, 3) := by decide +kernel
theorem d_X7_whyNotAt_22 : decode (D_X7_whyNotAt).2.1 22 = .ok (.iload_n 1, 1) := by decide +kernel
theorem d_X7_whyNotAt_23 : decode (D_X7_whyNotAt).2.1 23 = .ok (.iaload, 1) := by decide +kernel
theorem d_X7_whyNotAt_24 : decode (D_X7_whyNotAt).2.1 24 = .ok (.if_icmp .lt 7, 3) := by decide +kernel
theorem d_X7_whyNotAt_27 : decode (D_X7_whyNotAt).2.1 27 = .ok (.iconst 3, 1) := by decide +kernel
theorem d_X7_whyNotAt_28 : decode (D_X7_whyNotAt).2.1 28 = .ok (.goto 4, 3) := by decide +kernel
theorem d_X7_whyNotAt_31 : decode (D_X7_whyNotAt).2.1 31 = .ok (.iconst 0, 1) := by decide +kernel
theorem d_X7_whyNotAt_32 : decode (D_X7_whyNotAt).2.1 32 = .ok (.ireturn, 1) := by decide +kernel
def f_X7_whyNotAt (n : Nat) (x1 : Int) (x2 : Int) (M : JMem) : Option (Int × JMem) := bnd (f_X7_whyNotLong n x1 0 M) fun r1 M2 => letv r1 fun y3 => if jw y3 = 0 then (if jw x2 < 0 then (some (3, M2)) else (chk (jin x1 4) <| if jw x2 < jw (M2 8 (jw x1).toNat) then (some (0, M2)) else (some (3, M2)))) else (some (y3, M2))
set_option maxRecDepth 4000 in
theorem t_X7_whyNotAt {g : JG} {ad : Nat → Nat} (hs : jStr g ad) (n : Nat) (x1 : Int) (x2 : Int) (M : JMem) : jB g D_X7_whyNotAt ad 0 [some (.ref 1), some (ji x1), some (ji x2), none] [] M (f_X7_whyNotAt n x1 x2 M) := by
  unfold f_X7_whyNotAt
  refine jo_aload 0 d_X7_whyNotAt_0 rfl rfl ?_
  refine jo_iload 1 d_X7_whyNotAt_1 rfl rfl ?_
  refine jo_iconst 0 d_X7_whyNotAt_2 ?_
  refine jo_callV (st := []) (m_X7_whyNotLong hs n x1 0 M) ok_X7_whyNotLong (And.intro (Nat.le_of_ble_eq_true rfl) (Nat.le_of_ble_eq_true rfl)) lm_X7_30 in_X7_whyNotLong se_X7_whyNotLong rfl kc_1 rfl rfl (And.intro (Nat.zero_le _) (Nat.zero_le _)) rfl (Nat.le_of_ble_eq_true rfl) d_X7_whyNotAt_3 (fun r1 M2 => ?_)
  refine jo_istore 3 d_X7_whyNotAt_6 rfl (Nat.le_of_ble_eq_true rfl) (fun y3 => ?_)
  refine jo_iload 3 d_X7_whyNotAt_7 rfl rfl ?_
  refine jo_if_eq 13 d_X7_whyNotAt_8 (by decide) ?_ ?_
  · skip
    refine jo_iload 2 d_X7_whyNotAt_13 rfl rfl ?_
    refine jo_if_lt 27 d_X7_whyNotAt_14 (by decide) ?_ ?_
    · skip
      refine jo_iconst 3 d_X7_whyNotAt_27 ?_
      refine jo_goto 32 d_X7_whyNotAt_28 (by decide) ?_
      exact jo_iret rfl d_X7_whyNotAt_32
    · skip
      refine jo_iload 2 d_X7_whyNotAt_17 rfl rfl ?_
      refine jo_aload 0 d_X7_whyNotAt_18 rfl rfl ?_
      refine jo_getR (k := 2) cl_7 (Nat.le_of_ble_eq_true rfl) lk_X7_20 rfl kc_1 kr_1_2 d_X7_whyNotAt_19 ?_
      refine jo_iload 1 d_X7_whyNotAt_22 rfl rfl ?_
      refine jo_iald (N := 4) kc_8 d_X7_whyNotAt_23 ?_
      refine jo_icmp_lt 31 d_X7_whyNotAt_24 (by decide) ?_ ?_
      · skip
        refine jo_iconst 0 d_X7_whyNotAt_31 ?_
        exact jo_iret rfl d_X7_whyNotAt_32
      · skip
        refine jo_iconst 3 d_X7_whyNotAt_27 ?_
        refine jo_goto 32 d_X7_whyNotAt_28 (by decide) ?_
        exact jo_iret rfl d_X7_whyNotAt_32
  · skip
    refine jo_iload 3 d_X7_whyNotAt_11 rfl rfl ?_
    exact jo_iret rfl d_X7_whyNotAt_12
theorem m_X7_whyNotAt {g : JG} {ad : Nat → Nat} (hs : jStr g ad) (n : Nat) (x1 : Int) (x2 : Int) (M : JMem) : jMet g jNN ad jR D_X7_whyNotAt yX7_whyNotAt [.ref 1, ji x1, ji x2] M (f_X7_whyNotAt n x1 x2 M) :=
  jMet.of (lo0 := [some (.ref 1), some (ji x1), some (ji x2), none]) (by decide) rfl rfl (Nat.le_of_ble_eq_true rfl) (And.intro rfl (And.intro rfl (And.intro rfl True.intro))) (t_X7_whyNotAt hs n x1 x2 M)
/-! CageLeave$Ways.setOut(LCageLeave$Plan;III)V -/
def D_X8_setOut : JD := (RX8, cX8_setOut, 8, none, "setOut", { frames := 1, cells := 0, slots := 0, locals := 21 })
theorem ok_X8_setOut : jOk D_X8_setOut yX8_setOut 4 := ⟨jTW_mem (k := 1171) (by decide +kernel) rfl, jTW_mem (k := 147) (by decide +kernel) rfl, ⟨by decide +kernel, by decide +kernel⟩, by decide +kernel, rfl, rfl⟩
theorem in_X8_setOut : Cond.instanceMethod yX8_setOut ∈ jTW := jTW_mem (k := 1169) (by decide +kernel) rfl
theorem se_X8_setOut : Cond.selects yX8_setOut.cls yX8_setOut yX8_setOut ∈ jTW := jTW_mem (k := 1170) (by decide +kernel) rfl
theorem lk_X8_18 : Cond.fieldLink RX8 18 (TX4 1).1 (TX4 1).2.1 (TX4 1).2.2.1 ∈ jTW := jTW_mem (k := 307) (by decide +kernel) rfl
theorem lk_X8_24 : Cond.fieldLink RX8 24 (TX4 10).1 (TX4 10).2.1 (TX4 10).2.2.1 ∈ jTW := jTW_mem (k := 337) (by decide +kernel) rfl
theorem lk_X8_27 : Cond.fieldLink RX8 27 (TX4 11).1 (TX4 11).2.1 (TX4 11).2.2.1 ∈ jTW := jTW_mem (k := 342) (by decide +kernel) rfl
theorem lm_X8_30 : Cond.methodLinkNest RX8 30 yX11_isIn "CageLeave" ∈ jNW := by decide +kernel
theorem lk_X8_34 : Cond.fieldLink RX8 34 (TX4 8).1 (TX4 8).2.1 (TX4 8).2.2.1 ∈ jTW := jTW_mem (k := 327) (by decide +kernel) rfl
theorem lk_X8_37 : Cond.fieldLink RX8 37 (TX4 9).1 (TX4 9).2.1 (TX4 9).2.2.1 ∈ jTW := jTW_mem (k := 332) (by decide +kernel) rfl
theorem d_X8_setOut_0 : decode (D_X8_setOut).2.1 0 = .ok (.iconst 0, 1) := by decide +kernel
theorem d_X8_setOut_1 : decode (D_X8_setOut).2.1 1 = .ok (.istore 5, 2) := by decide +kernel
theorem d_X8_setOut_3 : decode (D_X8_setOut).2.1 3 = .ok (.iload 5, 2) := by decide +kernel
theorem d_X8_setOut_5 : decode (D_X8_setOut).2.1 5 = .ok (.bipush 6, 2) := by decide +kernel
theorem d_X8_setOut_7 : decode (D_X8_setOut).2.1 7 = .ok (.if_icmp .ge 18, 3) := by decide +kernel
theorem d_X8_setOut_10 : decode (D_X8_setOut).2.1 10 = .ok (.aload_n 0, 1) := by decide +kernel
theorem d_X8_setOut_11 : decode (D_X8_setOut).2.1 11 = .ok (.getfield 9, 3) := by decide +kernel
theorem d_X8_setOut_14 : decode (D_X8_setOut).2.1 14 = .ok (.iload 5, 2) := by decide +kernel
theorem d_X8_setOut_16 : decode (D_X8_setOut).2.1 16 = .ok (.bipush 65, 2) := by decide +kernel
theorem d_X8_setOut_18 : decode (D_X8_setOut).2.1 18 = .ok (.iastore, 1) := by decide +kernel
theorem d_X8_setOut_19 : decode (D_X8_setOut).2.1 19 = .ok (.iinc 5 1, 3) := by decide +kernel
theorem d_X8_setOut_22 : decode (D_X8_setOut).2.1 22 = .ok (.goto (-19), 3) := by decide +kernel
theorem d_X8_setOut_25 : decode (D_X8_setOut).2.1 25 = .ok (.aload_n 0, 1) := by decide +kernel
theorem d_X8_setOut_26 : decode (D_X8_setOut).2.1 26 = .ok (.getfield 9, 3) := by decide +kernel
theorem d_X8_setOut_29 : decode (D_X8_setOut).2.1 29 = .ok (.iload_n 3, 1) := by decide +kernel
theorem d_X8_setOut_30 : decode (D_X8_setOut).2.1 30 = .ok (.iload 4, 2) := by decide +kernel
theorem d_X8_setOut_32 : decode (D_X8_setOut).2.1 32 = .ok (.iastore, 1) := by decide +kernel
theorem d_X8_setOut_33 : decode (D_X8_setOut).2.1 33 = .ok (.iconst 0, 1) := by decide +kernel
theorem d_X8_setOut_34 : decode (D_X8_setOut).2.1 34 = .ok (.istore 5, 2) := by decide +kernel
theorem d_X8_setOut_36 : decode (D_X8_setOut).2.1 36 = .ok (.iload 5, 2) := by decide +kernel
theorem d_X8_setOut_38 : decode (D_X8_setOut).2.1 38 = .ok (.aload_n 1, 1) := by decide +kernel
theorem d_X8_setOut_39 : decode (D_X8_setOut).2.1 39 = .ok (.getfield 18, 3) := by decide +kernel
theorem d_X8_setOut_42 : decode (D_X8_setOut).2.1 42 = .ok (.if_icmp .ge 104, 3) := by decide +kernel
theorem d_X8_setOut_45 : decode (D_X8_setOut).2.1 45 = .ok (.aload_n 0, 1) := by decide +kernel
theorem d_X8_setOut_46 : decode (D_X8_setOut).2.1 46 = .ok (.getfield 15, 3) := by decide +kernel
theorem d_X8_setOut_49 : decode (D_X8_setOut).2.1 49 = .ok (.iload 5, 2) := by decide +kernel
theorem d_X8_setOut_51 : decode (D_X8_setOut).2.1 51 = .ok (.iaload, 1) := by decide +kernel
theorem d_X8_setOut_52 : decode (D_X8_setOut).2.1 52 = .ok (.istore 6, 2) := by decide +kernel
theorem d_X8_setOut_54 : decode (D_X8_setOut).2.1 54 = .ok (.aload_n 1, 1) := by decide +kernel
theorem d_X8_setOut_55 : decode (D_X8_setOut).2.1 55 = .ok (.getfield 24, 3) := by decide +kernel
theorem d_X8_setOut_58 : decode (D_X8_setOut).2.1 58 = .ok (.iload 6, 2) := by decide +kernel
theorem d_X8_setOut_60 : decode (D_X8_setOut).2.1 60 = .ok (.iaload, 1) := by decide +kernel
theorem d_X8_setOut_61 : decode (D_X8_setOut).2.1 61 = .ok (.aload_n 1, 1) := by decide +kernel
theorem d_X8_setOut_62 : decode (D_X8_setOut).2.1 62 = .ok (.getfield 27, 3) := by decide +kernel
theorem d_X8_setOut_65 : decode (D_X8_setOut).2.1 65 = .ok (.iload 6, 2) := by decide +kernel
theorem d_X8_setOut_67 : decode (D_X8_setOut).2.1 67 = .ok (.iaload, 1) := by decide +kernel
theorem d_X8_setOut_68 : decode (D_X8_setOut).2.1 68 = .ok (.iadd, 1) := by decide +kernel
theorem d_X8_setOut_69 : decode (D_X8_setOut).2.1 69 = .ok (.istore 7, 2) := by decide +kernel
theorem d_X8_setOut_71 : decode (D_X8_setOut).2.1 71 = .ok (.iload_n 2, 1) := by decide +kernel
theorem d_X8_setOut_72 : decode (D_X8_setOut).2.1 72 = .ok (.iload 6, 2) := by decide +kernel
theorem d_X8_setOut_74 : decode (D_X8_setOut).2.1 74 = .ok (.invokestatic 30, 3) := by decide +kernel
theorem d_X8_setOut_77 : decode (D_X8_setOut).2.1 77 = .ok (.ifCond .ne 63, 3) := by decide +kernel
theorem d_X8_setOut_80 : decode (D_X8_setOut).2.1 80 = .ok (.aload_n 0, 1) := by decide +kernel
theorem d_X8_setOut_81 : decode (D_X8_setOut).2.1 81 = .ok (.getfield 9, 3) := by decide +kernel
theorem d_X8_setOut_84 : decode (D_X8_setOut).2.1 84 = .ok (.aload_n 1, 1) := by decide +kernel
theorem d_X8_setOut_85 : decode (D_X8_setOut).2.1 85 = .ok (.getfield 34, 3) := by decide +kernel
theorem d_X8_setOut_88 : decode (D_X8_setOut).2.1 88 = .ok (.iload 6, 2) := by decide +kernel
theorem d_X8_setOut_90 : decode (D_X8_setOut).2.1 90 = .ok (.iaload, 1) := by decide +kernel
theorem d_X8_setOut_91 : decode (D_X8_setOut).2.1 91 = .ok (.iaload, 1) := by decide +kernel
theorem d_X8_setOut_92 : decode (D_X8_setOut).2.1 92 = .ok (.aload_n 1, 1) := by decide +kernel
theorem d_X8_setOut_93 : decode (D_X8_setOut).2.1 93 = .ok (.getfield 24, 3) := by decide +kernel
theorem d_X8_setOut_96 : decode (D_X8_setOut).2.1 96 = .ok (.iload 6, 2) := by decide +kernel
theorem d_X8_setOut_98 : decode (D_X8_setOut).2.1 98 = .ok (.iaload, 1) := by decide +kernel
theorem d_X8_setOut_99 : decode (D_X8_setOut).2.1 99 = .ok (.if_icmp .gt 41, 3) := by decide +kernel
theorem d_X8_setOut_102 : decode (D_X8_setOut).2.1 102 = .ok (.iload 7, 2) := by decide +kernel
theorem d_X8_setOut_104 : decode (D_X8_setOut).2.1 104 = .ok (.bipush 64, 2) := by decide +kernel
theorem d_X8_setOut_106 : decode (D_X8_setOut).2.1 106 = .ok (.if_icmp .gt 34, 3) := by decide +kernel
theorem d_X8_setOut_109 : decode (D_X8_setOut).2.1 109 = .ok (.iload 7, 2) := by decide +kernel
theorem d_X8_setOut_111 : decode (D_X8_setOut).2.1 111 = .ok (.aload_n 0, 1) := by decide +kernel
theorem d_X8_setOut_112 : decode (D_X8_setOut).2.1 112 = .ok (.getfield 9, 3) := by decide +kernel
theorem d_X8_setOut_115 : decode (D_X8_setOut).2.1 115 = .ok (.aload_n 1, 1) := by decide +kernel
theorem d_X8_setOut_116 : decode (D_X8_setOut).2.1 116 = .ok (.getfield 37, 3) := by decide +kernel
theorem d_X8_setOut_119 : decode (D_X8_setOut).2.1 119 = .ok (.iload 6, 2) := by decide +kernel
theorem d_X8_setOut_121 : decode (D_X8_setOut).2.1 121 = .ok (.iaload, 1) := by decide +kernel
theorem d_X8_setOut_122 : decode (D_X8_setOut).2.1 122 = .ok (.iaload, 1) := by decide +kernel
theorem d_X8_setOut_123 : decode (D_X8_setOut).2.1 123 = .ok (.if_icmp .ge 17, 3) := by decide +kernel
theorem d_X8_setOut_126 : decode (D_X8_setOut).2.1 126 = .ok (.aload_n 0, 1) := by decide +kernel
theorem d_X8_setOut_127 : decode (D_X8_setOut).2.1 127 = .ok (.getfield 9, 3) := by decide +kernel
theorem d_X8_setOut_130 : decode (D_X8_setOut).2.1 130 = .ok (.aload_n 1, 1) := by decide +kernel
theorem d_X8_setOut_131 : decode (D_X8_setOut).2.1 131 = .ok (.getfield 37, 3) := by decide +kernel
theorem d_X8_setOut_134 : decode (D_X8_setOut).2.1 134 = .ok (.iload 6, 2) := by decide +kernel
theorem d_X8_setOut_136 : decode (D_X8_setOut).2.1 136 = .ok (.iaload, 1) := by decide +kernel
theorem d_X8_setOut_137 : decode (D_X8_setOut).2.1 137 = .ok (.iload 7, 2) := by decide +kernel
theorem d_X8_setOut_139 : decode (D_X8_setOut).2.1 139 = .ok (.iastore, 1) := by decide +kernel
theorem d_X8_setOut_140 : decode (D_X8_setOut).2.1 140 = .ok (.iinc 5 1, 3) := by decide +kernel
theorem d_X8_setOut_143 : decode (D_X8_setOut).2.1 143 = .ok (.goto (-107), 3) := by decide +kernel
theorem d_X8_setOut_146 : decode (D_X8_setOut).2.1 146 = .ok (.return_, 1) := by decide +kernel
def f_X8_setOut_L140 (n : Nat) (p1 : Nat) (r36 : Int → Int → JMem → Option (Int × JMem)) (v2 v5 : Int) (M : JMem) : Option (Int × JMem) := letv (v5 + 1) fun y1 => r36 v2 y1 M
set_option maxRecDepth 4000 in
theorem t_X8_setOut_L140 {g : JG} {ad : Nat → Nat} (hs : jStr g ad) (n : Nat) (p1 : Nat) (hp1 : jK jNN (0, 4) p1) (r36 : Int → Int → JMem → Option (Int × JMem)) (hr36 : ∀ (v2 v5 : Int) (M : JMem), jB g D_X8_setOut ad 36 [some (.ref 76), some (.ref p1), some (ji v2), none, none, some (ji v5), none, none] [] M (r36 v2 v5 M)) (v2 v5 : Int) (M : JMem) : jB g D_X8_setOut ad 140 [some (.ref 76), some (.ref p1), some (ji v2), none, none, some (ji v5), none, none] [] M (f_X8_setOut_L140 n p1 r36 v2 v5 M) := by
  unfold f_X8_setOut_L140
  refine jo_iinc 5 d_X8_setOut_140 rfl (Nat.le_of_ble_eq_true rfl) (fun y1 => ?_)
  refine jo_goto 36 d_X8_setOut_143 (by decide) ?_
  exact jO.sub (hr36 v2 y1 M) (And.intro rfl (And.intro rfl (And.intro rfl (And.intro rfl True.intro))))
def f_X8_setOut_L36 (n : Nat) (p1 : Nat) : Nat → Int → Int → JMem → Option (Int × JMem)
  | 0, _, _, _ => none
  | k + 1, v2, v5, M => if jw (M p1 1) ≤ jw v5 then (some (0, M)) else (chk (jin v5 8) <| letv (M 78 (jw v5).toNat) fun y1 => chk (jin y1 8) <| chk (jin y1 8) <| letv ((M (p1 + 6) (jw y1).toNat) + (M (p1 + 7) (jw y1).toNat)) fun y2 => bnd (f_X11_isIn n v2 y1 M) fun r3 M4 => if jw r3 = 0 then (chk (jin y1 8) <| chk (jin (M4 (p1 + 4) (jw y1).toNat) 6) <| chk (jin y1 8) <| if jw (M4 (p1 + 6) (jw y1).toNat) < jw (M4 77 (jw (M4 (p1 + 4) (jw y1).toNat)).toNat) then (f_X8_setOut_L140 n p1 (f_X8_setOut_L36 n p1 k) v2 v5 M4) else (if jw 64 < jw y2 then (f_X8_setOut_L140 n p1 (f_X8_setOut_L36 n p1 k) v2 v5 M4) else (chk (jin y1 8) <| chk (jin (M4 (p1 + 5) (jw y1).toNat) 6) <| if jw (M4 77 (jw (M4 (p1 + 5) (jw y1).toNat)).toNat) ≤ jw y2 then (f_X8_setOut_L140 n p1 (f_X8_setOut_L36 n p1 k) v2 v5 M4) else (chk (jin y1 8) <| chk (jin (M4 (p1 + 5) (jw y1).toNat) 6) <| letm (jup M4 77 (jw (M4 (p1 + 5) (jw y1).toNat)).toNat y2) fun M5 => f_X8_setOut_L140 n p1 (f_X8_setOut_L36 n p1 k) v2 v5 M5)))) else (f_X8_setOut_L140 n p1 (f_X8_setOut_L36 n p1 k) v2 v5 M4))
set_option maxRecDepth 4000 in
theorem t_X8_setOut_L36 {g : JG} {ad : Nat → Nat} (hs : jStr g ad) (n : Nat) (p1 : Nat) (hp1 : jK jNN (0, 4) p1) : ∀ (k : Nat) (v2 v5 : Int) (M : JMem), jB g D_X8_setOut ad 36 [some (.ref 76), some (.ref p1), some (ji v2), none, none, some (ji v5), none, none] [] M (f_X8_setOut_L36 n p1 k v2 v5 M) := by
  intro k
  induction k with
  | zero => intro v2 v5 M; exact jO.none
  | succ k ih =>
    intro v2 v5 M
    rw [f_X8_setOut_L36]
    refine jo_iloadW 5 d_X8_setOut_36 rfl ?_
    refine jo_aload 1 d_X8_setOut_38 rfl rfl ?_
    refine jo_getI (k := 1) cl_4 (Nat.le_of_ble_eq_true rfl) lk_X8_18 (Or.inl rfl) hp1 d_X8_setOut_39 ?_
    refine jo_icmp_ge 146 d_X8_setOut_42 (by decide) ?_ ?_
    · skip
      exact jo_vret rfl d_X8_setOut_146
    · skip
      refine jo_aload 0 d_X8_setOut_45 rfl rfl ?_
      refine jo_getR (k := 1) cl_8 (Nat.le_of_ble_eq_true rfl) lk_X8_15 rfl kc_76 kr_76_1 d_X8_setOut_46 ?_
      refine jo_iloadW 5 d_X8_setOut_49 rfl ?_
      refine jo_iald (N := 8) kc_78 d_X8_setOut_51 ?_
      refine jo_istoreW 6 d_X8_setOut_52 (Nat.le_of_ble_eq_true rfl) (fun y1 => ?_)
      refine jo_aload 1 d_X8_setOut_54 rfl rfl ?_
      refine jo_getR (k := 10) cl_4 (Nat.le_of_ble_eq_true rfl) lk_X8_24 rfl hp1 (kr_Plan_10 hp1) d_X8_setOut_55 ?_
      refine jo_iloadW 6 d_X8_setOut_58 rfl ?_
      refine jo_iald (N := 8) (ka_Plan_10 hp1) d_X8_setOut_60 ?_
      refine jo_aload 1 d_X8_setOut_61 rfl rfl ?_
      refine jo_getR (k := 11) cl_4 (Nat.le_of_ble_eq_true rfl) lk_X8_27 rfl hp1 (kr_Plan_11 hp1) d_X8_setOut_62 ?_
      refine jo_iloadW 6 d_X8_setOut_65 rfl ?_
      refine jo_iald (N := 8) (ka_Plan_11 hp1) d_X8_setOut_67 ?_
      refine jo_iadd d_X8_setOut_68 ?_
      refine jo_istoreW 7 d_X8_setOut_69 (Nat.le_of_ble_eq_true rfl) (fun y2 => ?_)
      refine jo_iload 2 d_X8_setOut_71 rfl rfl ?_
      refine jo_iloadW 6 d_X8_setOut_72 rfl ?_
      refine jo_callSN (st := []) (m_X11_isIn hs n v2 y1 M) ok_X11_isIn (And.intro (Nat.le_of_ble_eq_true rfl) (Nat.le_of_ble_eq_true rfl)) lm_X8_30 st_X11_isIn rfl (And.intro (Nat.zero_le _) (Nat.zero_le _)) rfl (Nat.le_of_ble_eq_true rfl) d_X8_setOut_74 (fun r3 M4 => ?_)
      refine jo_if_ne 140 d_X8_setOut_77 (by decide) ?_ ?_
      · skip
        exact jO.sub (t_X8_setOut_L140 hs n p1 hp1 (f_X8_setOut_L36 n p1 k) ih v2 v5 M4) (And.intro rfl (And.intro rfl (And.intro rfl (And.intro rfl True.intro))))
      · skip
        refine jo_aload 0 d_X8_setOut_80 rfl rfl ?_
        refine jo_getR (k := 0) cl_8 (Nat.le_of_ble_eq_true rfl) lk_X8_9 rfl kc_76 kr_76_0 d_X8_setOut_81 ?_
        refine jo_aload 1 d_X8_setOut_84 rfl rfl ?_
        refine jo_getR (k := 8) cl_4 (Nat.le_of_ble_eq_true rfl) lk_X8_34 rfl hp1 (kr_Plan_8 hp1) d_X8_setOut_85 ?_
        refine jo_iloadW 6 d_X8_setOut_88 rfl ?_
        refine jo_iald (N := 8) (ka_Plan_8 hp1) d_X8_setOut_90 ?_
        refine jo_iald (N := 6) kc_77 d_X8_setOut_91 ?_
        refine jo_aload 1 d_X8_setOut_92 rfl rfl ?_
        refine jo_getR (k := 10) cl_4 (Nat.le_of_ble_eq_true rfl) lk_X8_24 rfl hp1 (kr_Plan_10 hp1) d_X8_setOut_93 ?_
        refine jo_iloadW 6 d_X8_setOut_96 rfl ?_
        refine jo_iald (N := 8) (ka_Plan_10 hp1) d_X8_setOut_98 ?_
        refine jo_icmp_gt 140 d_X8_setOut_99 (by decide) ?_ ?_
        · skip
          exact jO.sub (t_X8_setOut_L140 hs n p1 hp1 (f_X8_setOut_L36 n p1 k) ih v2 v5 M4) (And.intro rfl (And.intro rfl (And.intro rfl (And.intro rfl True.intro))))
        · skip
          refine jo_iloadW 7 d_X8_setOut_102 rfl ?_
          refine jo_bipush 64 d_X8_setOut_104 (by decide) ?_
          refine jo_icmp_gt 140 d_X8_setOut_106 (by decide) ?_ ?_
          · skip
            exact jO.sub (t_X8_setOut_L140 hs n p1 hp1 (f_X8_setOut_L36 n p1 k) ih v2 v5 M4) (And.intro rfl (And.intro rfl (And.intro rfl (And.intro rfl True.intro))))
          · skip
            refine jo_iloadW 7 d_X8_setOut_109 rfl ?_
            refine jo_aload 0 d_X8_setOut_111 rfl rfl ?_
            refine jo_getR (k := 0) cl_8 (Nat.le_of_ble_eq_true rfl) lk_X8_9 rfl kc_76 kr_76_0 d_X8_setOut_112 ?_
            refine jo_aload 1 d_X8_setOut_115 rfl rfl ?_
            refine jo_getR (k := 9) cl_4 (Nat.le_of_ble_eq_true rfl) lk_X8_37 rfl hp1 (kr_Plan_9 hp1) d_X8_setOut_116 ?_
            refine jo_iloadW 6 d_X8_setOut_119 rfl ?_
            refine jo_iald (N := 8) (ka_Plan_9 hp1) d_X8_setOut_121 ?_
            refine jo_iald (N := 6) kc_77 d_X8_setOut_122 ?_
            refine jo_icmp_ge 140 d_X8_setOut_123 (by decide) ?_ ?_
            · skip
              exact jO.sub (t_X8_setOut_L140 hs n p1 hp1 (f_X8_setOut_L36 n p1 k) ih v2 v5 M4) (And.intro rfl (And.intro rfl (And.intro rfl (And.intro rfl True.intro))))
            · skip
              refine jo_aload 0 d_X8_setOut_126 rfl rfl ?_
              refine jo_getR (k := 0) cl_8 (Nat.le_of_ble_eq_true rfl) lk_X8_9 rfl kc_76 kr_76_0 d_X8_setOut_127 ?_
              refine jo_aload 1 d_X8_setOut_130 rfl rfl ?_
              refine jo_getR (k := 9) cl_4 (Nat.le_of_ble_eq_true rfl) lk_X8_37 rfl hp1 (kr_Plan_9 hp1) d_X8_setOut_131 ?_
              refine jo_iloadW 6 d_X8_setOut_134 rfl ?_
              refine jo_iald (N := 8) (ka_Plan_9 hp1) d_X8_setOut_136 ?_
              refine jo_iloadW 7 d_X8_setOut_137 rfl ?_
              refine jo_iast (N := 6) kc_77 d_X8_setOut_139 (fun M5 => ?_)
              exact jO.sub (t_X8_setOut_L140 hs n p1 hp1 (f_X8_setOut_L36 n p1 k) ih v2 v5 M5) (And.intro rfl (And.intro rfl (And.intro rfl (And.intro rfl True.intro))))
def f_X8_setOut_L25 (n : Nat) (p1 : Nat) (v2 v3 v4 : Int) (M : JMem) : Option (Int × JMem) := chk (jin v3 6) <| letm (jup M 77 (jw v3).toNat v4) fun M1 => letv 0 fun y2 => f_X8_setOut_L36 n p1 n v2 y2 M1
set_option maxRecDepth 4000 in
theorem t_X8_setOut_L25 {g : JG} {ad : Nat → Nat} (hs : jStr g ad) (n : Nat) (p1 : Nat) (hp1 : jK jNN (0, 4) p1) (v2 v3 v4 : Int) (M : JMem) : jB g D_X8_setOut ad 25 [some (.ref 76), some (.ref p1), some (ji v2), some (ji v3), some (ji v4), none, none, none] [] M (f_X8_setOut_L25 n p1 v2 v3 v4 M) := by
  unfold f_X8_setOut_L25
  refine jo_aload 0 d_X8_setOut_25 rfl rfl ?_
  refine jo_getR (k := 0) cl_8 (Nat.le_of_ble_eq_true rfl) lk_X8_9 rfl kc_76 kr_76_0 d_X8_setOut_26 ?_
  refine jo_iload 3 d_X8_setOut_29 rfl rfl ?_
  refine jo_iloadW 4 d_X8_setOut_30 rfl ?_
  refine jo_iast (N := 6) kc_77 d_X8_setOut_32 (fun M1 => ?_)
  refine jo_iconst 0 d_X8_setOut_33 ?_
  refine jo_istoreW 5 d_X8_setOut_34 (Nat.le_of_ble_eq_true rfl) (fun y2 => ?_)
  exact jO.sub (t_X8_setOut_L36 hs n p1 hp1 n v2 y2 M1) (And.intro rfl (And.intro rfl (And.intro rfl (And.intro rfl True.intro))))
def f_X8_setOut_L3 (n : Nat) (p1 : Nat) : Nat → Int → Int → Int → Int → JMem → Option (Int × JMem)
  | 0, _, _, _, _, _ => none
  | k + 1, v2, v3, v4, v5, M => if jw 6 ≤ jw v5 then (f_X8_setOut_L25 n p1 v2 v3 v4 M) else (chk (jin v5 6) <| letm (jup M 77 (jw v5).toNat 65) fun M1 => letv (v5 + 1) fun y2 => (f_X8_setOut_L3 n p1 k) v2 v3 v4 y2 M1)
set_option maxRecDepth 4000 in
theorem t_X8_setOut_L3 {g : JG} {ad : Nat → Nat} (hs : jStr g ad) (n : Nat) (p1 : Nat) (hp1 : jK jNN (0, 4) p1) : ∀ (k : Nat) (v2 v3 v4 v5 : Int) (M : JMem), jB g D_X8_setOut ad 3 [some (.ref 76), some (.ref p1), some (ji v2), some (ji v3), some (ji v4), some (ji v5), none, none] [] M (f_X8_setOut_L3 n p1 k v2 v3 v4 v5 M) := by
  intro k
  induction k with
  | zero => intro v2 v3 v4 v5 M; exact jO.none
  | succ k ih =>
    intro v2 v3 v4 v5 M
    rw [f_X8_setOut_L3]
    refine jo_iloadW 5 d_X8_setOut_3 rfl ?_
    refine jo_bipush 6 d_X8_setOut_5 (by decide) ?_
    refine jo_icmp_ge 25 d_X8_setOut_7 (by decide) ?_ ?_
    · skip
      exact jO.sub (t_X8_setOut_L25 hs n p1 hp1 v2 v3 v4 M) (And.intro rfl (And.intro rfl (And.intro rfl (And.intro rfl (And.intro rfl True.intro)))))
    · skip
      refine jo_aload 0 d_X8_setOut_10 rfl rfl ?_
      refine jo_getR (k := 0) cl_8 (Nat.le_of_ble_eq_true rfl) lk_X8_9 rfl kc_76 kr_76_0 d_X8_setOut_11 ?_
      refine jo_iloadW 5 d_X8_setOut_14 rfl ?_
      refine jo_bipush 65 d_X8_setOut_16 (by decide) ?_
      refine jo_iast (N := 6) kc_77 d_X8_setOut_18 (fun M1 => ?_)
      refine jo_iinc 5 d_X8_setOut_19 rfl (Nat.le_of_ble_eq_true rfl) (fun y2 => ?_)
      refine jo_goto 3 d_X8_setOut_22 (by decide) ?_
      exact jO.sub (ih v2 v3 v4 y2 M1) (And.intro rfl (And.intro rfl (And.intro rfl (And.intro rfl (And.intro rfl (And.intro rfl True.intro))))))
def f_X8_setOut (n : Nat) (p1 : Nat) (x2 : Int) (x3 : Int) (x4 : Int) (M : JMem) : Option (Int × JMem) := letv 0 fun y1 => f_X8_setOut_L3 n p1 n x2 x3 x4 y1 M
set_option maxRecDepth 4000 in
theorem t_X8_setOut {g : JG} {ad : Nat → Nat} (hs : jStr g ad) (n : Nat) (p1 : Nat) (x2 : Int) (x3 : Int) (x4 : Int) (hp1 : jK jNN (0, 4) p1) (M : JMem) : jB g D_X8_setOut ad 0 [some (.ref 76), some (.ref p1), some (ji x2), some (ji x3), some (ji x4), none, none, none] [] M (f_X8_setOut n p1 x2 x3 x4 M) := by
  unfold f_X8_setOut
  refine jo_iconst 0 d_X8_setOut_0 ?_
  refine jo_istoreW 5 d_X8_setOut_1 (Nat.le_of_ble_eq_true rfl) (fun y1 => ?_)
  exact jO.sub (t_X8_setOut_L3 hs n p1 hp1 n x2 x3 x4 y1 M) (And.intro rfl (And.intro rfl (And.intro rfl (And.intro rfl (And.intro rfl (And.intro rfl True.intro))))))
theorem m_X8_setOut {g : JG} {ad : Nat → Nat} (hs : jStr g ad) (n : Nat) (p1 : Nat) (x2 : Int) (x3 : Int) (x4 : Int) (hp1 : jK jNN (0, 4) p1) (M : JMem) : jMet g jNN ad jR D_X8_setOut yX8_setOut [.ref 76, .ref p1, ji x2, ji x3, ji x4] M (f_X8_setOut n p1 x2 x3 x4 M) :=
  jMet.of (lo0 := [some (.ref 76), some (.ref p1), some (ji x2), some (ji x3), some (ji x4), none, none, none]) (by decide) rfl rfl (Nat.le_of_ble_eq_true rfl) (And.intro rfl (And.intro rfl (And.intro rfl (And.intro rfl (And.intro rfl True.intro))))) (t_X8_setOut hs n p1 x2 x3 x4 hp1 M)
/-! CageLeave$Ways.soon(LCageLeave$Plan;IIII)I -/
def D_X8_soon : JD := (RX8, cX8_soon, 6, some .int, "soon", { frames := 2, cells := 0, slots := 0, locals := 48 })
theorem ok_X8_soon : jOk D_X8_soon yX8_soon 5 := ⟨jTW_mem (k := 1167) (by decide +kernel) rfl, jTW_mem (k := 147) (by decide +kernel) rfl, ⟨by decide +kernel, by decide +kernel⟩, by decide +kernel, rfl, rfl⟩
theorem in_X8_soon : Cond.instanceMethod yX8_soon ∈ jTW := jTW_mem (k := 1165) (by decide +kernel) rfl
theorem se_X8_soon : Cond.selects yX8_soon.cls yX8_soon yX8_soon ∈ jTW := jTW_mem (k := 1166) (by decide +kernel) rfl
theorem lm_X8_40 : Cond.methodLink RX8 40 yX8_setOut ∈ jTW := jTW_mem (k := 1168) (by decide +kernel) rfl
theorem d_X8_soon_0 : decode (D_X8_soon).2.1 0 = .ok (.aload_n 0, 1) := by decide +kernel
theorem d_X8_soon_1 : decode (D_X8_soon).2.1 1 = .ok (.aload_n 1, 1) := by decide +kernel
theorem d_X8_soon_2 : decode (D_X8_soon).2.1 2 = .ok (.iload_n 2, 1) := by decide +kernel
theorem d_X8_soon_3 : decode (D_X8_soon).2.1 3 = .ok (.iload_n 3, 1) := by decide +kernel
theorem d_X8_soon_4 : decode (D_X8_soon).2.1 4 = .ok (.iload 4, 2) := by decide +kernel
theorem d_X8_soon_6 : decode (D_X8_soon).2.1 6 = .ok (.invokevirtual 40, 3) := by decide +kernel
theorem d_X8_soon_9 : decode (D_X8_soon).2.1 9 = .ok (.aload_n 0, 1) := by decide +kernel
theorem d_X8_soon_10 : decode (D_X8_soon).2.1 10 = .ok (.getfield 9, 3) := by decide +kernel
theorem d_X8_soon_13 : decode (D_X8_soon).2.1 13 = .ok (.iload 5, 2) := by decide +kernel
theorem d_X8_soon_15 : decode (D_X8_soon).2.1 15 = .ok (.iaload, 1) := by decide +kernel
theorem d_X8_soon_16 : decode (D_X8_soon).2.1 16 = .ok (.ireturn, 1) := by decide +kernel
def f_X8_soon (n : Nat) (p1 : Nat) (x2 : Int) (x3 : Int) (x4 : Int) (x5 : Int) (M : JMem) : Option (Int × JMem) := bnd (f_X8_setOut n p1 x2 x3 x4 M) fun _ M2 => chk (jin x5 6) <| some ((M2 77 (jw x5).toNat), M2)
set_option maxRecDepth 4000 in
theorem t_X8_soon {g : JG} {ad : Nat → Nat} (hs : jStr g ad) (n : Nat) (p1 : Nat) (x2 : Int) (x3 : Int) (x4 : Int) (x5 : Int) (hp1 : jK jNN (0, 4) p1) (M : JMem) : jB g D_X8_soon ad 0 [some (.ref 76), some (.ref p1), some (ji x2), some (ji x3), some (ji x4), some (ji x5)] [] M (f_X8_soon n p1 x2 x3 x4 x5 M) := by
  unfold f_X8_soon
  refine jo_aload 0 d_X8_soon_0 rfl rfl ?_
  refine jo_aload 1 d_X8_soon_1 rfl rfl ?_
  refine jo_iload 2 d_X8_soon_2 rfl rfl ?_
  refine jo_iload 3 d_X8_soon_3 rfl rfl ?_
  refine jo_iloadW 4 d_X8_soon_4 rfl ?_
  refine jo_callV (st := []) (m_X8_setOut hs n p1 x2 x3 x4 hp1 M) ok_X8_setOut (And.intro (Nat.le_of_ble_eq_true rfl) (Nat.le_of_ble_eq_true rfl)) lm_X8_40 in_X8_setOut se_X8_setOut rfl kc_76 rfl rfl (And.intro (Nat.zero_le _) (Nat.zero_le _)) rfl (Nat.le_of_ble_eq_true rfl) d_X8_soon_6 (fun _ M2 => ?_)
  refine jo_aload 0 d_X8_soon_9 rfl rfl ?_
  refine jo_getR (k := 0) cl_8 (Nat.le_of_ble_eq_true rfl) lk_X8_9 rfl kc_76 kr_76_0 d_X8_soon_10 ?_
  refine jo_iloadW 5 d_X8_soon_13 rfl ?_
  refine jo_iald (N := 6) kc_77 d_X8_soon_15 ?_
  exact jo_iret rfl d_X8_soon_16
theorem m_X8_soon {g : JG} {ad : Nat → Nat} (hs : jStr g ad) (n : Nat) (p1 : Nat) (x2 : Int) (x3 : Int) (x4 : Int) (x5 : Int) (hp1 : jK jNN (0, 4) p1) (M : JMem) : jMet g jNN ad jR D_X8_soon yX8_soon [.ref 76, .ref p1, ji x2, ji x3, ji x4, ji x5] M (f_X8_soon n p1 x2 x3 x4 x5 M) :=
  jMet.of (lo0 := [some (.ref 76), some (.ref p1), some (ji x2), some (ji x3), some (ji x4), some (ji x5)]) (by decide) rfl rfl (Nat.le_of_ble_eq_true rfl) (And.intro rfl (And.intro rfl (And.intro rfl (And.intro rfl (And.intro rfl (And.intro rfl True.intro)))))) (t_X8_soon hs n p1 x2 x3 x4 x5 hp1 M)
/-! CageLeave$Ways.soonWith(LCageLeave$Plan;III)I -/
def D_X8_soonWith : JD := (RX8, cX8_soonWith, 6, some .int, "soonWith", { frames := 3, cells := 0, slots := 0, locals := 73 })
theorem ok_X8_soonWith : jOk D_X8_soonWith yX8_soonWith 4 := ⟨jTW_mem (k := 1185) (by decide +kernel) rfl, jTW_mem (k := 147) (by decide +kernel) rfl, ⟨by decide +kernel, by decide +kernel⟩, by decide +kernel, rfl, rfl⟩
theorem in_X8_soonWith : Cond.instanceMethod yX8_soonWith ∈ jTW := jTW_mem (k := 1184) (by decide +kernel) rfl
theorem se_X8_soonWith : Cond.selects yX8_soonWith.cls yX8_soonWith yX8_soonWith ∈ jTW := jTW_mem (k := 34) (by decide +kernel) rfl
theorem lm_X8_44 : Cond.methodLink RX8 44 yX8_soon ∈ jTW := jTW_mem (k := 1181) (by decide +kernel) rfl
theorem d_X8_soonWith_0 : decode (D_X8_soonWith).2.1 0 = .ok (.aload_n 1, 1) := by decide +kernel
theorem d_X8_soonWith_1 : decode (D_X8_soonWith).2.1 1 = .ok (.getfield 24, 3) := by decide +kernel
theorem d_X8_soonWith_4 : decode (D_X8_soonWith).2.1 4 = .ok (.iload_n 3, 1) := by decide +kernel
theorem d_X8_soonWith_5 : decode (D_X8_soonWith).2.1 5 = .ok (.iaload, 1) := by decide +kernel
theorem d_X8_soonWith_6 : decode (D_X8_soonWith).2.1 6 = .ok (.aload_n 1, 1) := by decide +kernel
theorem d_X8_soonWith_7 : decode (D_X8_soonWith).2.1 7 = .ok (.getfield 27, 3) := by decide +kernel
theorem d_X8_soonWith_10 : decode (D_X8_soonWith).2.1 10 = .ok (.iload_n 3, 1) := by decide +kernel
theorem d_X8_soonWith_11 : decode (D_X8_soonWith).2.1 11 = .ok (.iaload, 1) := by decide +kernel
theorem d_X8_soonWith_12 : decode (D_X8_soonWith).2.1 12 = .ok (.iadd, 1) := by decide +kernel
theorem d_X8_soonWith_13 : decode (D_X8_soonWith).2.1 13 = .ok (.istore 5, 2) := by decide +kernel
theorem d_X8_soonWith_15 : decode (D_X8_soonWith).2.1 15 = .ok (.iload_n 2, 1) := by decide +kernel
theorem d_X8_soonWith_16 : decode (D_X8_soonWith).2.1 16 = .ok (.iload_n 3, 1) := by decide +kernel
theorem d_X8_soonWith_17 : decode (D_X8_soonWith).2.1 17 = .ok (.invokestatic 30, 3) := by decide +kernel
theorem d_X8_soonWith_20 : decode (D_X8_soonWith).2.1 20 = .ok (.ifCond .ne 10, 3) := by decide +kernel
theorem d_X8_soonWith_23 : decode (D_X8_soonWith).2.1 23 = .ok (.iload 5, 2) := by decide +kernel
theorem d_X8_soonWith_25 : decode (D_X8_soonWith).2.1 25 = .ok (.bipush 64, 2) := by decide +kernel
theorem d_X8_soonWith_27 : decode (D_X8_soonWith).2.1 27 = .ok (.if_icmp .le 6, 3) := by decide +kernel
theorem d_X8_soonWith_30 : decode (D_X8_soonWith).2.1 30 = .ok (.bipush 65, 2) := by decide +kernel
theorem d_X8_soonWith_32 : decode (D_X8_soonWith).2.1 32 = .ok (.ireturn, 1) := by decide +kernel
theorem d_X8_soonWith_33 : decode (D_X8_soonWith).2.1 33 = .ok (.aload_n 0, 1) := by decide +kernel
theorem d_X8_soonWith_34 : decode (D_X8_soonWith).2.1 34 = .ok (.aload_n 1, 1) := by decide +kernel
theorem d_X8_soonWith_35 : decode (D_X8_soonWith).2.1 35 = .ok (.iload_n 2, 1) := by decide +kernel
theorem d_X8_soonWith_36 : decode (D_X8_soonWith).2.1 36 = .ok (.aload_n 1, 1) := by decide +kernel
theorem d_X8_soonWith_37 : decode (D_X8_soonWith).2.1 37 = .ok (.getfield 37, 3) := by decide +kernel
theorem d_X8_soonWith_40 : decode (D_X8_soonWith).2.1 40 = .ok (.iload_n 3, 1) := by decide +kernel
theorem d_X8_soonWith_41 : decode (D_X8_soonWith).2.1 41 = .ok (.iaload, 1) := by decide +kernel
theorem d_X8_soonWith_42 : decode (D_X8_soonWith).2.1 42 = .ok (.iload 5, 2) := by decide +kernel
theorem d_X8_soonWith_44 : decode (D_X8_soonWith).2.1 44 = .ok (.iload 4, 2) := by decide +kernel
theorem d_X8_soonWith_46 : decode (D_X8_soonWith).2.1 46 = .ok (.invokevirtual 44, 3) := by decide +kernel
theorem d_X8_soonWith_49 : decode (D_X8_soonWith).2.1 49 = .ok (.ireturn, 1) := by decide +kernel
def f_X8_soonWith (n : Nat) (p1 : Nat) (x2 : Int) (x3 : Int) (x4 : Int) (M : JMem) : Option (Int × JMem) := chk (jin x3 8) <| chk (jin x3 8) <| letv ((M (p1 + 6) (jw x3).toNat) + (M (p1 + 7) (jw x3).toNat)) fun y1 => bnd (f_X11_isIn n x2 x3 M) fun r2 M3 => if jw r2 = 0 then (if jw y1 ≤ jw 64 then (chk (jin x3 8) <| bnd (f_X8_soon n p1 x2 (M3 (p1 + 5) (jw x3).toNat) y1 x4 M3) fun r4 M5 => some (r4, M5)) else (some (65, M3))) else (some (65, M3))
set_option maxRecDepth 4000 in
theorem t_X8_soonWith {g : JG} {ad : Nat → Nat} (hs : jStr g ad) (n : Nat) (p1 : Nat) (x2 : Int) (x3 : Int) (x4 : Int) (hp1 : jK jNN (0, 4) p1) (M : JMem) : jB g D_X8_soonWith ad 0 [some (.ref 76), some (.ref p1), some (ji x2), some (ji x3), some (ji x4), none] [] M (f_X8_soonWith n p1 x2 x3 x4 M) := by
  unfold f_X8_soonWith
  refine jo_aload 1 d_X8_soonWith_0 rfl rfl ?_
  refine jo_getR (k := 10) cl_4 (Nat.le_of_ble_eq_true rfl) lk_X8_24 rfl hp1 (kr_Plan_10 hp1) d_X8_soonWith_1 ?_
  refine jo_iload 3 d_X8_soonWith_4 rfl rfl ?_
  refine jo_iald (N := 8) (ka_Plan_10 hp1) d_X8_soonWith_5 ?_
  refine jo_aload 1 d_X8_soonWith_6 rfl rfl ?_
  refine jo_getR (k := 11) cl_4 (Nat.le_of_ble_eq_true rfl) lk_X8_27 rfl hp1 (kr_Plan_11 hp1) d_X8_soonWith_7 ?_
  refine jo_iload 3 d_X8_soonWith_10 rfl rfl ?_
  refine jo_iald (N := 8) (ka_Plan_11 hp1) d_X8_soonWith_11 ?_
  refine jo_iadd d_X8_soonWith_12 ?_
  refine jo_istoreW 5 d_X8_soonWith_13 (Nat.le_of_ble_eq_true rfl) (fun y1 => ?_)
  refine jo_iload 2 d_X8_soonWith_15 rfl rfl ?_
  refine jo_iload 3 d_X8_soonWith_16 rfl rfl ?_
  refine jo_callSN (st := []) (m_X11_isIn hs n x2 x3 M) ok_X11_isIn (And.intro (Nat.le_of_ble_eq_true rfl) (Nat.le_of_ble_eq_true rfl)) lm_X8_30 st_X11_isIn rfl (And.intro (Nat.zero_le _) (Nat.zero_le _)) rfl (Nat.le_of_ble_eq_true rfl) d_X8_soonWith_17 (fun r2 M3 => ?_)
  refine jo_if_ne 30 d_X8_soonWith_20 (by decide) ?_ ?_
  · skip
    refine jo_bipush 65 d_X8_soonWith_30 (by decide) ?_
    exact jo_iret rfl d_X8_soonWith_32
  · skip
    refine jo_iloadW 5 d_X8_soonWith_23 rfl ?_
    refine jo_bipush 64 d_X8_soonWith_25 (by decide) ?_
    refine jo_icmp_le 33 d_X8_soonWith_27 (by decide) ?_ ?_
    · skip
      refine jo_aload 0 d_X8_soonWith_33 rfl rfl ?_
      refine jo_aload 1 d_X8_soonWith_34 rfl rfl ?_
      refine jo_iload 2 d_X8_soonWith_35 rfl rfl ?_
      refine jo_aload 1 d_X8_soonWith_36 rfl rfl ?_
      refine jo_getR (k := 9) cl_4 (Nat.le_of_ble_eq_true rfl) lk_X8_37 rfl hp1 (kr_Plan_9 hp1) d_X8_soonWith_37 ?_
      refine jo_iload 3 d_X8_soonWith_40 rfl rfl ?_
      refine jo_iald (N := 8) (ka_Plan_9 hp1) d_X8_soonWith_41 ?_
      refine jo_iloadW 5 d_X8_soonWith_42 rfl ?_
      refine jo_iloadW 4 d_X8_soonWith_44 rfl ?_
      refine jo_callV (st := []) (m_X8_soon hs n p1 x2 (M3 (p1 + 5) (jw x3).toNat) y1 x4 hp1 M3) ok_X8_soon (And.intro (Nat.le_of_ble_eq_true rfl) (Nat.le_of_ble_eq_true rfl)) lm_X8_44 in_X8_soon se_X8_soon rfl kc_76 rfl rfl (And.intro (Nat.zero_le _) (Nat.zero_le _)) rfl (Nat.le_of_ble_eq_true rfl) d_X8_soonWith_46 (fun r4 M5 => ?_)
      exact jo_iret rfl d_X8_soonWith_49
    · skip
      refine jo_bipush 65 d_X8_soonWith_30 (by decide) ?_
      exact jo_iret rfl d_X8_soonWith_32
theorem m_X8_soonWith {g : JG} {ad : Nat → Nat} (hs : jStr g ad) (n : Nat) (p1 : Nat) (x2 : Int) (x3 : Int) (x4 : Int) (hp1 : jK jNN (0, 4) p1) (M : JMem) : jMet g jNN ad jR D_X8_soonWith yX8_soonWith [.ref 76, .ref p1, ji x2, ji x3, ji x4] M (f_X8_soonWith n p1 x2 x3 x4 M) :=
  jMet.of (lo0 := [some (.ref 76), some (.ref p1), some (ji x2), some (ji x3), some (ji x4), none]) (by decide) rfl rfl (Nat.le_of_ble_eq_true rfl) (And.intro rfl (And.intro rfl (And.intro rfl (And.intro rfl (And.intro rfl True.intro))))) (t_X8_soonWith hs n p1 x2 x3 x4 hp1 M)
/-! CageLeave$Ways.firstTrain(LCageLeave$Plan;IIII)I -/
def D_X8_firstTrain : JD := (RX8, cX8_firstTrain, 8, some .int, "firstTrain", { frames := 4, cells := 0, slots := 0, locals := 98 })
theorem ok_X8_firstTrain : jOk D_X8_firstTrain yX8_firstTrain 5 := ⟨jTW_mem (k := 1180) (by decide +kernel) rfl, jTW_mem (k := 147) (by decide +kernel) rfl, ⟨by decide +kernel, by decide +kernel⟩, by decide +kernel, rfl, rfl⟩
theorem in_X8_firstTrain : Cond.instanceMethod yX8_firstTrain ∈ jTW := jTW_mem (k := 1178) (by decide +kernel) rfl
theorem se_X8_firstTrain : Cond.selects yX8_firstTrain.cls yX8_firstTrain yX8_firstTrain ∈ jTW := jTW_mem (k := 1179) (by decide +kernel) rfl
theorem lm_X8_48 : Cond.methodLink RX8 48 yX8_soonWith ∈ jTW := jTW_mem (k := 1182) (by decide +kernel) rfl
theorem d_X8_firstTrain_0 : decode (D_X8_firstTrain).2.1 0 = .ok (.aload_n 0, 1) := by decide +kernel
theorem d_X8_firstTrain_1 : decode (D_X8_firstTrain).2.1 1 = .ok (.aload_n 1, 1) := by decide +kernel
theorem d_X8_firstTrain_2 : decode (D_X8_firstTrain).2.1 2 = .ok (.iload_n 2, 1) := by decide +kernel
theorem d_X8_firstTrain_3 : decode (D_X8_firstTrain).2.1 3 = .ok (.iload_n 3, 1) := by decide +kernel
theorem d_X8_firstTrain_4 : decode (D_X8_firstTrain).2.1 4 = .ok (.iload 4, 2) := by decide +kernel
theorem d_X8_firstTrain_6 : decode (D_X8_firstTrain).2.1 6 = .ok (.iload 5, 2) := by decide +kernel
theorem d_X8_firstTrain_8 : decode (D_X8_firstTrain).2.1 8 = .ok (.invokevirtual 44, 3) := by decide +kernel
theorem d_X8_firstTrain_11 : decode (D_X8_firstTrain).2.1 11 = .ok (.istore 6, 2) := by decide +kernel
theorem d_X8_firstTrain_13 : decode (D_X8_firstTrain).2.1 13 = .ok (.iload 6, 2) := by decide +kernel
theorem d_X8_firstTrain_15 : decode (D_X8_firstTrain).2.1 15 = .ok (.bipush 64, 2) := by decide +kernel
theorem d_X8_firstTrain_17 : decode (D_X8_firstTrain).2.1 17 = .ok (.if_icmp .le 5, 3) := by decide +kernel
theorem d_X8_firstTrain_20 : decode (D_X8_firstTrain).2.1 20 = .ok (.iconst (-1), 1) := by decide +kernel
theorem d_X8_firstTrain_21 : decode (D_X8_firstTrain).2.1 21 = .ok (.ireturn, 1) := by decide +kernel
theorem d_X8_firstTrain_22 : decode (D_X8_firstTrain).2.1 22 = .ok (.iconst 0, 1) := by decide +kernel
theorem d_X8_firstTrain_23 : decode (D_X8_firstTrain).2.1 23 = .ok (.istore 7, 2) := by decide +kernel
theorem d_X8_firstTrain_25 : decode (D_X8_firstTrain).2.1 25 = .ok (.iload 7, 2) := by decide +kernel
theorem d_X8_firstTrain_27 : decode (D_X8_firstTrain).2.1 27 = .ok (.aload_n 1, 1) := by decide +kernel
theorem d_X8_firstTrain_28 : decode (D_X8_firstTrain).2.1 28 = .ok (.getfield 18, 3) := by decide +kernel
theorem d_X8_firstTrain_31 : decode (D_X8_firstTrain).2.1 31 = .ok (.if_icmp .ge 50, 3) := by decide +kernel
theorem d_X8_firstTrain_34 : decode (D_X8_firstTrain).2.1 34 = .ok (.aload_n 1, 1) := by decide +kernel
theorem d_X8_firstTrain_35 : decode (D_X8_firstTrain).2.1 35 = .ok (.getfield 34, 3) := by decide +kernel
theorem d_X8_firstTrain_38 : decode (D_X8_firstTrain).2.1 38 = .ok (.iload 7, 2) := by decide +kernel
theorem d_X8_firstTrain_40 : decode (D_X8_firstTrain).2.1 40 = .ok (.iaload, 1) := by decide +kernel
theorem d_X8_firstTrain_41 : decode (D_X8_firstTrain).2.1 41 = .ok (.iload_n 3, 1) := by decide +kernel
theorem d_X8_firstTrain_42 : decode (D_X8_firstTrain).2.1 42 = .ok (.if_icmp .ne 33, 3) := by decide +kernel
theorem d_X8_firstTrain_45 : decode (D_X8_firstTrain).2.1 45 = .ok (.aload_n 1, 1) := by decide +kernel
theorem d_X8_firstTrain_46 : decode (D_X8_firstTrain).2.1 46 = .ok (.getfield 24, 3) := by decide +kernel
theorem d_X8_firstTrain_49 : decode (D_X8_firstTrain).2.1 49 = .ok (.iload 7, 2) := by decide +kernel
theorem d_X8_firstTrain_51 : decode (D_X8_firstTrain).2.1 51 = .ok (.iaload, 1) := by decide +kernel
theorem d_X8_firstTrain_52 : decode (D_X8_firstTrain).2.1 52 = .ok (.iload 4, 2) := by decide +kernel
theorem d_X8_firstTrain_54 : decode (D_X8_firstTrain).2.1 54 = .ok (.if_icmp .lt 21, 3) := by decide +kernel
theorem d_X8_firstTrain_57 : decode (D_X8_firstTrain).2.1 57 = .ok (.aload_n 0, 1) := by decide +kernel
theorem d_X8_firstTrain_58 : decode (D_X8_firstTrain).2.1 58 = .ok (.aload_n 1, 1) := by decide +kernel
theorem d_X8_firstTrain_59 : decode (D_X8_firstTrain).2.1 59 = .ok (.iload_n 2, 1) := by decide +kernel
theorem d_X8_firstTrain_60 : decode (D_X8_firstTrain).2.1 60 = .ok (.iload 7, 2) := by decide +kernel
theorem d_X8_firstTrain_62 : decode (D_X8_firstTrain).2.1 62 = .ok (.iload 5, 2) := by decide +kernel
theorem d_X8_firstTrain_64 : decode (D_X8_firstTrain).2.1 64 = .ok (.invokevirtual 48, 3) := by decide +kernel
theorem d_X8_firstTrain_67 : decode (D_X8_firstTrain).2.1 67 = .ok (.iload 6, 2) := by decide +kernel
theorem d_X8_firstTrain_69 : decode (D_X8_firstTrain).2.1 69 = .ok (.if_icmp .ne 6, 3) := by decide +kernel
theorem d_X8_firstTrain_72 : decode (D_X8_firstTrain).2.1 72 = .ok (.iload 7, 2) := by decide +kernel
theorem d_X8_firstTrain_74 : decode (D_X8_firstTrain).2.1 74 = .ok (.ireturn, 1) := by decide +kernel
theorem d_X8_firstTrain_75 : decode (D_X8_firstTrain).2.1 75 = .ok (.iinc 7 1, 3) := by decide +kernel
theorem d_X8_firstTrain_78 : decode (D_X8_firstTrain).2.1 78 = .ok (.goto (-53), 3) := by decide +kernel
theorem d_X8_firstTrain_81 : decode (D_X8_firstTrain).2.1 81 = .ok (.iconst (-1), 1) := by decide +kernel
theorem d_X8_firstTrain_82 : decode (D_X8_firstTrain).2.1 82 = .ok (.ireturn, 1) := by decide +kernel
def f_X8_firstTrain_L72 (n : Nat) (p1 : Nat) (v7 : Int) (M : JMem) : Option (Int × JMem) := some (v7, M)
set_option maxRecDepth 4000 in
theorem t_X8_firstTrain_L72 {g : JG} {ad : Nat → Nat} (hs : jStr g ad) (n : Nat) (p1 : Nat) (hp1 : jK jNN (0, 4) p1) (v7 : Int) (M : JMem) : jB g D_X8_firstTrain ad 72 [none, none, none, none, none, none, none, some (ji v7)] [] M (f_X8_firstTrain_L72 n p1 v7 M) := by
  unfold f_X8_firstTrain_L72
  refine jo_iloadW 7 d_X8_firstTrain_72 rfl ?_
  exact jo_iret rfl d_X8_firstTrain_74
def f_X8_firstTrain_L75 (n : Nat) (p1 : Nat) (r25 : Int → Int → Int → Int → Int → Int → JMem → Option (Int × JMem)) (v2 v3 v4 v5 v6 v7 : Int) (M : JMem) : Option (Int × JMem) := letv (v7 + 1) fun y1 => r25 v2 v3 v4 v5 v6 y1 M
set_option maxRecDepth 4000 in
theorem t_X8_firstTrain_L75 {g : JG} {ad : Nat → Nat} (hs : jStr g ad) (n : Nat) (p1 : Nat) (hp1 : jK jNN (0, 4) p1) (r25 : Int → Int → Int → Int → Int → Int → JMem → Option (Int × JMem)) (hr25 : ∀ (v2 v3 v4 v5 v6 v7 : Int) (M : JMem), jB g D_X8_firstTrain ad 25 [some (.ref 76), some (.ref p1), some (ji v2), some (ji v3), some (ji v4), some (ji v5), some (ji v6), some (ji v7)] [] M (r25 v2 v3 v4 v5 v6 v7 M)) (v2 v3 v4 v5 v6 v7 : Int) (M : JMem) : jB g D_X8_firstTrain ad 75 [some (.ref 76), some (.ref p1), some (ji v2), some (ji v3), some (ji v4), some (ji v5), some (ji v6), some (ji v7)] [] M (f_X8_firstTrain_L75 n p1 r25 v2 v3 v4 v5 v6 v7 M) := by
  unfold f_X8_firstTrain_L75
  refine jo_iinc 7 d_X8_firstTrain_75 rfl (Nat.le_of_ble_eq_true rfl) (fun y1 => ?_)
  refine jo_goto 25 d_X8_firstTrain_78 (by decide) ?_
  exact jO.sub (hr25 v2 v3 v4 v5 v6 y1 M) (And.intro rfl (And.intro rfl (And.intro rfl (And.intro rfl (And.intro rfl (And.intro rfl (And.intro rfl (And.intro rfl True.intro))))))))
def f_X8_firstTrain_L25 (n : Nat) (p1 : Nat) : Nat → Int → Int → Int → Int → Int → Int → JMem → Option (Int × JMem)
  | 0, _, _, _, _, _, _, _ => none
  | k + 1, v2, v3, v4, v5, v6, v7, M => if jw (M p1 1) ≤ jw v7 then (some ((-1), M)) else (chk (jin v7 8) <| if jw (M (p1 + 4) (jw v7).toNat) = jw v3 then (chk (jin v7 8) <| if jw (M (p1 + 6) (jw v7).toNat) < jw v4 then (f_X8_firstTrain_L75 n p1 (f_X8_firstTrain_L25 n p1 k) v2 v3 v4 v5 v6 v7 M) else (bnd (f_X8_soonWith n p1 v2 v7 v5 M) fun r1 M2 => if jw r1 = jw v6 then (f_X8_firstTrain_L72 n p1 v7 M2) else (f_X8_firstTrain_L75 n p1 (f_X8_firstTrain_L25 n p1 k) v2 v3 v4 v5 v6 v7 M2))) else (f_X8_firstTrain_L75 n p1 (f_X8_firstTrain_L25 n p1 k) v2 v3 v4 v5 v6 v7 M))
set_option maxRecDepth 4000 in
theorem t_X8_firstTrain_L25 {g : JG} {ad : Nat → Nat} (hs : jStr g ad) (n : Nat) (p1 : Nat) (hp1 : jK jNN (0, 4) p1) : ∀ (k : Nat) (v2 v3 v4 v5 v6 v7 : Int) (M : JMem), jB g D_X8_firstTrain ad 25 [some (.ref 76), some (.ref p1), some (ji v2), some (ji v3), some (ji v4), some (ji v5), some (ji v6), some (ji v7)] [] M (f_X8_firstTrain_L25 n p1 k v2 v3 v4 v5 v6 v7 M) := by
  intro k
  induction k with
  | zero => intro v2 v3 v4 v5 v6 v7 M; exact jO.none
  | succ k ih =>
    intro v2 v3 v4 v5 v6 v7 M
    rw [f_X8_firstTrain_L25]
    refine jo_iloadW 7 d_X8_firstTrain_25 rfl ?_
    refine jo_aload 1 d_X8_firstTrain_27 rfl rfl ?_
    refine jo_getI (k := 1) cl_4 (Nat.le_of_ble_eq_true rfl) lk_X8_18 (Or.inl rfl) hp1 d_X8_firstTrain_28 ?_
    refine jo_icmp_ge 81 d_X8_firstTrain_31 (by decide) ?_ ?_
    · skip
      refine jo_iconst (-1) d_X8_firstTrain_81 ?_
      exact jo_iret rfl d_X8_firstTrain_82
    · skip
      refine jo_aload 1 d_X8_firstTrain_34 rfl rfl ?_
      refine jo_getR (k := 8) cl_4 (Nat.le_of_ble_eq_true rfl) lk_X8_34 rfl hp1 (kr_Plan_8 hp1) d_X8_firstTrain_35 ?_
      refine jo_iloadW 7 d_X8_firstTrain_38 rfl ?_
      refine jo_iald (N := 8) (ka_Plan_8 hp1) d_X8_firstTrain_40 ?_
      refine jo_iload 3 d_X8_firstTrain_41 rfl rfl ?_
      refine jo_icmp_ne 75 d_X8_firstTrain_42 (by decide) ?_ ?_
      · skip
        exact jO.sub (t_X8_firstTrain_L75 hs n p1 hp1 (f_X8_firstTrain_L25 n p1 k) ih v2 v3 v4 v5 v6 v7 M) (And.intro rfl (And.intro rfl (And.intro rfl (And.intro rfl (And.intro rfl (And.intro rfl (And.intro rfl (And.intro rfl True.intro))))))))
      · skip
        refine jo_aload 1 d_X8_firstTrain_45 rfl rfl ?_
        refine jo_getR (k := 10) cl_4 (Nat.le_of_ble_eq_true rfl) lk_X8_24 rfl hp1 (kr_Plan_10 hp1) d_X8_firstTrain_46 ?_
        refine jo_iloadW 7 d_X8_firstTrain_49 rfl ?_
        refine jo_iald (N := 8) (ka_Plan_10 hp1) d_X8_firstTrain_51 ?_
        refine jo_iloadW 4 d_X8_firstTrain_52 rfl ?_
        refine jo_icmp_lt 75 d_X8_firstTrain_54 (by decide) ?_ ?_
        · skip
          exact jO.sub (t_X8_firstTrain_L75 hs n p1 hp1 (f_X8_firstTrain_L25 n p1 k) ih v2 v3 v4 v5 v6 v7 M) (And.intro rfl (And.intro rfl (And.intro rfl (And.intro rfl (And.intro rfl (And.intro rfl (And.intro rfl (And.intro rfl True.intro))))))))
        · skip
          refine jo_aload 0 d_X8_firstTrain_57 rfl rfl ?_
          refine jo_aload 1 d_X8_firstTrain_58 rfl rfl ?_
          refine jo_iload 2 d_X8_firstTrain_59 rfl rfl ?_
          refine jo_iloadW 7 d_X8_firstTrain_60 rfl ?_
          refine jo_iloadW 5 d_X8_firstTrain_62 rfl ?_
          refine jo_callV (st := []) (m_X8_soonWith hs n p1 v2 v7 v5 hp1 M) ok_X8_soonWith (And.intro (Nat.le_of_ble_eq_true rfl) (Nat.le_of_ble_eq_true rfl)) lm_X8_48 in_X8_soonWith se_X8_soonWith rfl kc_76 rfl rfl (And.intro (Nat.zero_le _) (Nat.zero_le _)) rfl (Nat.le_of_ble_eq_true rfl) d_X8_firstTrain_64 (fun r1 M2 => ?_)
          refine jo_iloadW 6 d_X8_firstTrain_67 rfl ?_
          refine jo_icmp_ne 75 d_X8_firstTrain_69 (by decide) ?_ ?_
          · skip
            exact jO.sub (t_X8_firstTrain_L75 hs n p1 hp1 (f_X8_firstTrain_L25 n p1 k) ih v2 v3 v4 v5 v6 v7 M2) (And.intro rfl (And.intro rfl (And.intro rfl (And.intro rfl (And.intro rfl (And.intro rfl (And.intro rfl (And.intro rfl True.intro))))))))
          · skip
            exact jO.sub (t_X8_firstTrain_L72 hs n p1 hp1 v7 M2) (And.intro rfl True.intro)
def f_X8_firstTrain (n : Nat) (p1 : Nat) (x2 : Int) (x3 : Int) (x4 : Int) (x5 : Int) (M : JMem) : Option (Int × JMem) := bnd (f_X8_soon n p1 x2 x3 x4 x5 M) fun r1 M2 => letv r1 fun y3 => if jw y3 ≤ jw 64 then (letv 0 fun y4 => f_X8_firstTrain_L25 n p1 n x2 x3 x4 x5 y3 y4 M2) else (some ((-1), M2))
set_option maxRecDepth 4000 in
theorem t_X8_firstTrain {g : JG} {ad : Nat → Nat} (hs : jStr g ad) (n : Nat) (p1 : Nat) (x2 : Int) (x3 : Int) (x4 : Int) (x5 : Int) (hp1 : jK jNN (0, 4) p1) (M : JMem) : jB g D_X8_firstTrain ad 0 [some (.ref 76), some (.ref p1), some (ji x2), some (ji x3), some (ji x4), some (ji x5), none, none] [] M (f_X8_firstTrain n p1 x2 x3 x4 x5 M) := by
  unfold f_X8_firstTrain
  refine jo_aload 0 d_X8_firstTrain_0 rfl rfl ?_
  refine jo_aload 1 d_X8_firstTrain_1 rfl rfl ?_
  refine jo_iload 2 d_X8_firstTrain_2 rfl rfl ?_
  refine jo_iload 3 d_X8_firstTrain_3 rfl rfl ?_
  refine jo_iloadW 4 d_X8_firstTrain_4 rfl ?_
  refine jo_iloadW 5 d_X8_firstTrain_6 rfl ?_
  refine jo_callV (st := []) (m_X8_soon hs n p1 x2 x3 x4 x5 hp1 M) ok_X8_soon (And.intro (Nat.le_of_ble_eq_true rfl) (Nat.le_of_ble_eq_true rfl)) lm_X8_44 in_X8_soon se_X8_soon rfl kc_76 rfl rfl (And.intro (Nat.zero_le _) (Nat.zero_le _)) rfl (Nat.le_of_ble_eq_true rfl) d_X8_firstTrain_8 (fun r1 M2 => ?_)
  refine jo_istoreW 6 d_X8_firstTrain_11 (Nat.le_of_ble_eq_true rfl) (fun y3 => ?_)
  refine jo_iloadW 6 d_X8_firstTrain_13 rfl ?_
  refine jo_bipush 64 d_X8_firstTrain_15 (by decide) ?_
  refine jo_icmp_le 22 d_X8_firstTrain_17 (by decide) ?_ ?_
  · skip
    refine jo_iconst 0 d_X8_firstTrain_22 ?_
    refine jo_istoreW 7 d_X8_firstTrain_23 (Nat.le_of_ble_eq_true rfl) (fun y4 => ?_)
    exact jO.sub (t_X8_firstTrain_L25 hs n p1 hp1 n x2 x3 x4 x5 y3 y4 M2) (And.intro rfl (And.intro rfl (And.intro rfl (And.intro rfl (And.intro rfl (And.intro rfl (And.intro rfl (And.intro rfl True.intro))))))))
  · skip
    refine jo_iconst (-1) d_X8_firstTrain_20 ?_
    exact jo_iret rfl d_X8_firstTrain_21
theorem m_X8_firstTrain {g : JG} {ad : Nat → Nat} (hs : jStr g ad) (n : Nat) (p1 : Nat) (x2 : Int) (x3 : Int) (x4 : Int) (x5 : Int) (hp1 : jK jNN (0, 4) p1) (M : JMem) : jMet g jNN ad jR D_X8_firstTrain yX8_firstTrain [.ref 76, .ref p1, ji x2, ji x3, ji x4, ji x5] M (f_X8_firstTrain n p1 x2 x3 x4 x5 M) :=
  jMet.of (lo0 := [some (.ref 76), some (.ref p1), some (ji x2), some (ji x3), some (ji x4), some (ji x5), none, none]) (by decide) rfl rfl (Nat.le_of_ble_eq_true rfl) (And.intro rfl (And.intro rfl (And.intro rfl (And.intro rfl (And.intro rfl (And.intro rfl True.intro)))))) (t_X8_firstTrain hs n p1 x2 x3 x4 x5 hp1 M)
/-! CageLeave$Ways.lastStart(LCageLeave$Plan;IIII)I -/
def D_X8_lastStart : JD := (RX8, cX8_lastStart, 8, some .int, "lastStart", { frames := 4, cells := 0, slots := 0, locals := 98 })
theorem ok_X8_lastStart : jOk D_X8_lastStart yX8_lastStart 5 := ⟨jTW_mem (k := 1193) (by decide +kernel) rfl, jTW_mem (k := 147) (by decide +kernel) rfl, ⟨by decide +kernel, by decide +kernel⟩, by decide +kernel, rfl, rfl⟩
theorem in_X8_lastStart : Cond.instanceMethod yX8_lastStart ∈ jTW := jTW_mem (k := 1191) (by decide +kernel) rfl
theorem se_X8_lastStart : Cond.selects yX8_lastStart.cls yX8_lastStart yX8_lastStart ∈ jTW := jTW_mem (k := 1192) (by decide +kernel) rfl
theorem d_X8_lastStart_0 : decode (D_X8_lastStart).2.1 0 = .ok (.iconst (-1), 1) := by decide +kernel
theorem d_X8_lastStart_1 : decode (D_X8_lastStart).2.1 1 = .ok (.istore 6, 2) := by decide +kernel
theorem d_X8_lastStart_3 : decode (D_X8_lastStart).2.1 3 = .ok (.iconst 0, 1) := by decide +kernel
theorem d_X8_lastStart_4 : decode (D_X8_lastStart).2.1 4 = .ok (.istore 7, 2) := by decide +kernel
theorem d_X8_lastStart_6 : decode (D_X8_lastStart).2.1 6 = .ok (.iload 7, 2) := by decide +kernel
theorem d_X8_lastStart_8 : decode (D_X8_lastStart).2.1 8 = .ok (.aload_n 1, 1) := by decide +kernel
theorem d_X8_lastStart_9 : decode (D_X8_lastStart).2.1 9 = .ok (.getfield 18, 3) := by decide +kernel
theorem d_X8_lastStart_12 : decode (D_X8_lastStart).2.1 12 = .ok (.if_icmp .ge 56, 3) := by decide +kernel
theorem d_X8_lastStart_15 : decode (D_X8_lastStart).2.1 15 = .ok (.aload_n 1, 1) := by decide +kernel
theorem d_X8_lastStart_16 : decode (D_X8_lastStart).2.1 16 = .ok (.getfield 34, 3) := by decide +kernel
theorem d_X8_lastStart_19 : decode (D_X8_lastStart).2.1 19 = .ok (.iload 7, 2) := by decide +kernel
theorem d_X8_lastStart_21 : decode (D_X8_lastStart).2.1 21 = .ok (.iaload, 1) := by decide +kernel
theorem d_X8_lastStart_22 : decode (D_X8_lastStart).2.1 22 = .ok (.iload_n 3, 1) := by decide +kernel
theorem d_X8_lastStart_23 : decode (D_X8_lastStart).2.1 23 = .ok (.if_icmp .ne 39, 3) := by decide +kernel
theorem d_X8_lastStart_26 : decode (D_X8_lastStart).2.1 26 = .ok (.aload_n 1, 1) := by decide +kernel
theorem d_X8_lastStart_27 : decode (D_X8_lastStart).2.1 27 = .ok (.getfield 24, 3) := by decide +kernel
theorem d_X8_lastStart_30 : decode (D_X8_lastStart).2.1 30 = .ok (.iload 7, 2) := by decide +kernel
theorem d_X8_lastStart_32 : decode (D_X8_lastStart).2.1 32 = .ok (.iaload, 1) := by decide +kernel
theorem d_X8_lastStart_33 : decode (D_X8_lastStart).2.1 33 = .ok (.iload 6, 2) := by decide +kernel
theorem d_X8_lastStart_35 : decode (D_X8_lastStart).2.1 35 = .ok (.if_icmp .le 27, 3) := by decide +kernel
theorem d_X8_lastStart_38 : decode (D_X8_lastStart).2.1 38 = .ok (.aload_n 0, 1) := by decide +kernel
theorem d_X8_lastStart_39 : decode (D_X8_lastStart).2.1 39 = .ok (.aload_n 1, 1) := by decide +kernel
theorem d_X8_lastStart_40 : decode (D_X8_lastStart).2.1 40 = .ok (.iload_n 2, 1) := by decide +kernel
theorem d_X8_lastStart_41 : decode (D_X8_lastStart).2.1 41 = .ok (.iload 7, 2) := by decide +kernel
theorem d_X8_lastStart_43 : decode (D_X8_lastStart).2.1 43 = .ok (.iload 4, 2) := by decide +kernel
theorem d_X8_lastStart_45 : decode (D_X8_lastStart).2.1 45 = .ok (.invokevirtual 48, 3) := by decide +kernel
theorem d_X8_lastStart_48 : decode (D_X8_lastStart).2.1 48 = .ok (.iload 5, 2) := by decide +kernel
theorem d_X8_lastStart_50 : decode (D_X8_lastStart).2.1 50 = .ok (.if_icmp .gt 12, 3) := by decide +kernel
theorem d_X8_lastStart_53 : decode (D_X8_lastStart).2.1 53 = .ok (.aload_n 1, 1) := by decide +kernel
theorem d_X8_lastStart_54 : decode (D_X8_lastStart).2.1 54 = .ok (.getfield 24, 3) := by decide +kernel
theorem d_X8_lastStart_57 : decode (D_X8_lastStart).2.1 57 = .ok (.iload 7, 2) := by decide +kernel
theorem d_X8_lastStart_59 : decode (D_X8_lastStart).2.1 59 = .ok (.iaload, 1) := by decide +kernel
theorem d_X8_lastStart_60 : decode (D_X8_lastStart).2.1 60 = .ok (.istore 6, 2) := by decide +kernel
theorem d_X8_lastStart_62 : decode (D_X8_lastStart).2.1 62 = .ok (.iinc 7 1, 3) := by decide +kernel
theorem d_X8_lastStart_65 : decode (D_X8_lastStart).2.1 65 = .ok (.goto (-59), 3) := by decide +kernel
theorem d_X8_lastStart_68 : decode (D_X8_lastStart).2.1 68 = .ok (.iload 6, 2) := by decide +kernel
theorem d_X8_lastStart_70 : decode (D_X8_lastStart).2.1 70 = .ok (.ireturn, 1) := by decide +kernel
def f_X8_lastStart_L62 (n : Nat) (p1 : Nat) (r6 : Int → Int → Int → Int → Int → Int → JMem → Option (Int × JMem)) (v2 v3 v4 v5 v6 v7 : Int) (M : JMem) : Option (Int × JMem) := letv (v7 + 1) fun y1 => r6 v2 v3 v4 v5 v6 y1 M
set_option maxRecDepth 4000 in
theorem t_X8_lastStart_L62 {g : JG} {ad : Nat → Nat} (hs : jStr g ad) (n : Nat) (p1 : Nat) (hp1 : jK jNN (0, 4) p1) (r6 : Int → Int → Int → Int → Int → Int → JMem → Option (Int × JMem)) (hr6 : ∀ (v2 v3 v4 v5 v6 v7 : Int) (M : JMem), jB g D_X8_lastStart ad 6 [some (.ref 76), some (.ref p1), some (ji v2), some (ji v3), some (ji v4), some (ji v5), some (ji v6), some (ji v7)] [] M (r6 v2 v3 v4 v5 v6 v7 M)) (v2 v3 v4 v5 v6 v7 : Int) (M : JMem) : jB g D_X8_lastStart ad 62 [some (.ref 76), some (.ref p1), some (ji v2), some (ji v3), some (ji v4), some (ji v5), some (ji v6), some (ji v7)] [] M (f_X8_lastStart_L62 n p1 r6 v2 v3 v4 v5 v6 v7 M) := by
  unfold f_X8_lastStart_L62
  refine jo_iinc 7 d_X8_lastStart_62 rfl (Nat.le_of_ble_eq_true rfl) (fun y1 => ?_)
  refine jo_goto 6 d_X8_lastStart_65 (by decide) ?_
  exact jO.sub (hr6 v2 v3 v4 v5 v6 y1 M) (And.intro rfl (And.intro rfl (And.intro rfl (And.intro rfl (And.intro rfl (And.intro rfl (And.intro rfl (And.intro rfl True.intro))))))))
def f_X8_lastStart_L68 (n : Nat) (p1 : Nat) (v6 : Int) (M : JMem) : Option (Int × JMem) := some (v6, M)
set_option maxRecDepth 4000 in
theorem t_X8_lastStart_L68 {g : JG} {ad : Nat → Nat} (hs : jStr g ad) (n : Nat) (p1 : Nat) (hp1 : jK jNN (0, 4) p1) (v6 : Int) (M : JMem) : jB g D_X8_lastStart ad 68 [none, none, none, none, none, none, some (ji v6), none] [] M (f_X8_lastStart_L68 n p1 v6 M) := by
  unfold f_X8_lastStart_L68
  refine jo_iloadW 6 d_X8_lastStart_68 rfl ?_
  exact jo_iret rfl d_X8_lastStart_70
def f_X8_lastStart_L6 (n : Nat) (p1 : Nat) : Nat → Int → Int → Int → Int → Int → Int → JMem → Option (Int × JMem)
  | 0, _, _, _, _, _, _, _ => none
  | k + 1, v2, v3, v4, v5, v6, v7, M => if jw (M p1 1) ≤ jw v7 then (f_X8_lastStart_L68 n p1 v6 M) else (chk (jin v7 8) <| if jw (M (p1 + 4) (jw v7).toNat) = jw v3 then (chk (jin v7 8) <| if jw (M (p1 + 6) (jw v7).toNat) ≤ jw v6 then (f_X8_lastStart_L62 n p1 (f_X8_lastStart_L6 n p1 k) v2 v3 v4 v5 v6 v7 M) else (bnd (f_X8_soonWith n p1 v2 v7 v4 M) fun r1 M2 => if jw v5 < jw r1 then (f_X8_lastStart_L62 n p1 (f_X8_lastStart_L6 n p1 k) v2 v3 v4 v5 v6 v7 M2) else (chk (jin v7 8) <| letv (M2 (p1 + 6) (jw v7).toNat) fun y3 => f_X8_lastStart_L62 n p1 (f_X8_lastStart_L6 n p1 k) v2 v3 v4 v5 y3 v7 M2))) else (f_X8_lastStart_L62 n p1 (f_X8_lastStart_L6 n p1 k) v2 v3 v4 v5 v6 v7 M))
set_option maxRecDepth 4000 in
theorem t_X8_lastStart_L6 {g : JG} {ad : Nat → Nat} (hs : jStr g ad) (n : Nat) (p1 : Nat) (hp1 : jK jNN (0, 4) p1) : ∀ (k : Nat) (v2 v3 v4 v5 v6 v7 : Int) (M : JMem), jB g D_X8_lastStart ad 6 [some (.ref 76), some (.ref p1), some (ji v2), some (ji v3), some (ji v4), some (ji v5), some (ji v6), some (ji v7)] [] M (f_X8_lastStart_L6 n p1 k v2 v3 v4 v5 v6 v7 M) := by
  intro k
  induction k with
  | zero => intro v2 v3 v4 v5 v6 v7 M; exact jO.none
  | succ k ih =>
    intro v2 v3 v4 v5 v6 v7 M
    rw [f_X8_lastStart_L6]
    refine jo_iloadW 7 d_X8_lastStart_6 rfl ?_
    refine jo_aload 1 d_X8_lastStart_8 rfl rfl ?_
    refine jo_getI (k := 1) cl_4 (Nat.le_of_ble_eq_true rfl) lk_X8_18 (Or.inl rfl) hp1 d_X8_lastStart_9 ?_
    refine jo_icmp_ge 68 d_X8_lastStart_12 (by decide) ?_ ?_
    · skip
      exact jO.sub (t_X8_lastStart_L68 hs n p1 hp1 v6 M) (And.intro rfl True.intro)
    · skip
      refine jo_aload 1 d_X8_lastStart_15 rfl rfl ?_
      refine jo_getR (k := 8) cl_4 (Nat.le_of_ble_eq_true rfl) lk_X8_34 rfl hp1 (kr_Plan_8 hp1) d_X8_lastStart_16 ?_
      refine jo_iloadW 7 d_X8_lastStart_19 rfl ?_
      refine jo_iald (N := 8) (ka_Plan_8 hp1) d_X8_lastStart_21 ?_
      refine jo_iload 3 d_X8_lastStart_22 rfl rfl ?_
      refine jo_icmp_ne 62 d_X8_lastStart_23 (by decide) ?_ ?_
      · skip
        exact jO.sub (t_X8_lastStart_L62 hs n p1 hp1 (f_X8_lastStart_L6 n p1 k) ih v2 v3 v4 v5 v6 v7 M) (And.intro rfl (And.intro rfl (And.intro rfl (And.intro rfl (And.intro rfl (And.intro rfl (And.intro rfl (And.intro rfl True.intro))))))))
      · skip
        refine jo_aload 1 d_X8_lastStart_26 rfl rfl ?_
        refine jo_getR (k := 10) cl_4 (Nat.le_of_ble_eq_true rfl) lk_X8_24 rfl hp1 (kr_Plan_10 hp1) d_X8_lastStart_27 ?_
        refine jo_iloadW 7 d_X8_lastStart_30 rfl ?_
        refine jo_iald (N := 8) (ka_Plan_10 hp1) d_X8_lastStart_32 ?_
        refine jo_iloadW 6 d_X8_lastStart_33 rfl ?_
        refine jo_icmp_le 62 d_X8_lastStart_35 (by decide) ?_ ?_
        · skip
          exact jO.sub (t_X8_lastStart_L62 hs n p1 hp1 (f_X8_lastStart_L6 n p1 k) ih v2 v3 v4 v5 v6 v7 M) (And.intro rfl (And.intro rfl (And.intro rfl (And.intro rfl (And.intro rfl (And.intro rfl (And.intro rfl (And.intro rfl True.intro))))))))
        · skip
          refine jo_aload 0 d_X8_lastStart_38 rfl rfl ?_
          refine jo_aload 1 d_X8_lastStart_39 rfl rfl ?_
          refine jo_iload 2 d_X8_lastStart_40 rfl rfl ?_
          refine jo_iloadW 7 d_X8_lastStart_41 rfl ?_
          refine jo_iloadW 4 d_X8_lastStart_43 rfl ?_
          refine jo_callV (st := []) (m_X8_soonWith hs n p1 v2 v7 v4 hp1 M) ok_X8_soonWith (And.intro (Nat.le_of_ble_eq_true rfl) (Nat.le_of_ble_eq_true rfl)) lm_X8_48 in_X8_soonWith se_X8_soonWith rfl kc_76 rfl rfl (And.intro (Nat.zero_le _) (Nat.zero_le _)) rfl (Nat.le_of_ble_eq_true rfl) d_X8_lastStart_45 (fun r1 M2 => ?_)
          refine jo_iloadW 5 d_X8_lastStart_48 rfl ?_
          refine jo_icmp_gt 62 d_X8_lastStart_50 (by decide) ?_ ?_
          · skip
            exact jO.sub (t_X8_lastStart_L62 hs n p1 hp1 (f_X8_lastStart_L6 n p1 k) ih v2 v3 v4 v5 v6 v7 M2) (And.intro rfl (And.intro rfl (And.intro rfl (And.intro rfl (And.intro rfl (And.intro rfl (And.intro rfl (And.intro rfl True.intro))))))))
          · skip
            refine jo_aload 1 d_X8_lastStart_53 rfl rfl ?_
            refine jo_getR (k := 10) cl_4 (Nat.le_of_ble_eq_true rfl) lk_X8_24 rfl hp1 (kr_Plan_10 hp1) d_X8_lastStart_54 ?_
            refine jo_iloadW 7 d_X8_lastStart_57 rfl ?_
            refine jo_iald (N := 8) (ka_Plan_10 hp1) d_X8_lastStart_59 ?_
            refine jo_istoreW 6 d_X8_lastStart_60 (Nat.le_of_ble_eq_true rfl) (fun y3 => ?_)
            exact jO.sub (t_X8_lastStart_L62 hs n p1 hp1 (f_X8_lastStart_L6 n p1 k) ih v2 v3 v4 v5 y3 v7 M2) (And.intro rfl (And.intro rfl (And.intro rfl (And.intro rfl (And.intro rfl (And.intro rfl (And.intro rfl (And.intro rfl True.intro))))))))
def f_X8_lastStart (n : Nat) (p1 : Nat) (x2 : Int) (x3 : Int) (x4 : Int) (x5 : Int) (M : JMem) : Option (Int × JMem) := letv (-1) fun y1 => letv 0 fun y2 => f_X8_lastStart_L6 n p1 n x2 x3 x4 x5 y1 y2 M
set_option maxRecDepth 4000 in
theorem t_X8_lastStart {g : JG} {ad : Nat → Nat} (hs : jStr g ad) (n : Nat) (p1 : Nat) (x2 : Int) (x3 : Int) (x4 : Int) (x5 : Int) (hp1 : jK jNN (0, 4) p1) (M : JMem) : jB g D_X8_lastStart ad 0 [some (.ref 76), some (.ref p1), some (ji x2), some (ji x3), some (ji x4), some (ji x5), none, none] [] M (f_X8_lastStart n p1 x2 x3 x4 x5 M) := by
  unfold f_X8_lastStart
  refine jo_iconst (-1) d_X8_lastStart_0 ?_
  refine jo_istoreW 6 d_X8_lastStart_1 (Nat.le_of_ble_eq_true rfl) (fun y1 => ?_)
  refine jo_iconst 0 d_X8_lastStart_3 ?_
  refine jo_istoreW 7 d_X8_lastStart_4 (Nat.le_of_ble_eq_true rfl) (fun y2 => ?_)
  exact jO.sub (t_X8_lastStart_L6 hs n p1 hp1 n x2 x3 x4 x5 y1 y2 M) (And.intro rfl (And.intro rfl (And.intro rfl (And.intro rfl (And.intro rfl (And.intro rfl (And.intro rfl (And.intro rfl True.intro))))))))
theorem m_X8_lastStart {g : JG} {ad : Nat → Nat} (hs : jStr g ad) (n : Nat) (p1 : Nat) (x2 : Int) (x3 : Int) (x4 : Int) (x5 : Int) (hp1 : jK jNN (0, 4) p1) (M : JMem) : jMet g jNN ad jR D_X8_lastStart yX8_lastStart [.ref 76, .ref p1, ji x2, ji x3, ji x4, ji x5] M (f_X8_lastStart n p1 x2 x3 x4 x5 M) :=
  jMet.of (lo0 := [some (.ref 76), some (.ref p1), some (ji x2), some (ji x3), some (ji x4), some (ji x5), none, none]) (by decide) rfl rfl (Nat.le_of_ble_eq_true rfl) (And.intro rfl (And.intro rfl (And.intro rfl (And.intro rfl (And.intro rfl (And.intro rfl True.intro)))))) (t_X8_lastStart hs n p1 x2 x3 x4 x5 hp1 M)
/-! CageLeave$Ways.order(LCageLeave$Plan;)V -/
def D_X8_order : JD := (RX8, cX8_order, 4, none, "order", { frames := 0, cells := 0, slots := 0, locals := 0 })
theorem ok_X8_order : jOk D_X8_order yX8_order 1 := ⟨jTW_mem (k := 1163) (by decide +kernel) rfl, jTW_mem (k := 147) (by decide +kernel) rfl, ⟨by decide +kernel, by decide +kernel⟩, by decide +kernel, rfl, rfl⟩
theorem in_X8_order : Cond.instanceMethod yX8_order ∈ jTW := jTW_mem (k := 1161) (by decide +kernel) rfl
theorem se_X8_order : Cond.selects yX8_order.cls yX8_order yX8_order ∈ jTW := jTW_mem (k := 1162) (by decide +kernel) rfl
theorem d_X8_order_0 : decode (D_X8_order).2.1 0 = .ok (.iconst 0, 1) := by decide +kernel
theorem d_X8_order_1 : decode (D_X8_order).2.1 1 = .ok (.istore_n 2, 1) := by decide +kernel
theorem d_X8_order_2 : decode (D_X8_order).2.1 2 = .ok (.iload_n 2, 1) := by decide +kernel
theorem d_X8_order_3 : decode (D_X8_order).2.1 3 = .ok (.aload_n 1, 1) := by decide +kernel
theorem d_X8_order_4 : decode (D_X8_order).2.1 4 = .ok (.getfield 18, 3) := by decide +kernel
theorem d_X8_order_7 : decode (D_X8_order).2.1 7 = .ok (.if_icmp .ge 64, 3) := by decide +kernel
theorem d_X8_order_10 : decode (D_X8_order).2.1 10 = .ok (.iload_n 2, 1) := by decide +kernel
theorem d_X8_order_11 : decode (D_X8_order).2.1 11 = .ok (.istore_n 3, 1) := by decide +kernel
theorem d_X8_order_12 : decode (D_X8_order).2.1 12 = .ok (.iload_n 3, 1) := by decide +kernel
theorem d_X8_order_13 : decode (D_X8_order).2.1 13 = .ok (.ifCond .le 45, 3) := by decide +kernel
theorem d_X8_order_16 : decode (D_X8_order).2.1 16 = .ok (.aload_n 1, 1) := by decide +kernel
theorem d_X8_order_17 : decode (D_X8_order).2.1 17 = .ok (.getfield 24, 3) := by decide +kernel
theorem d_X8_order_20 : decode (D_X8_order).2.1 20 = .ok (.aload_n 0, 1) := by decide +kernel
theorem d_X8_order_21 : decode (D_X8_order).2.1 21 = .ok (.getfield 15, 3) := by decide +kernel
theorem d_X8_order_24 : decode (D_X8_order).2.1 24 = .ok (.iload_n 3, 1) := by decide +kernel
theorem d_X8_order_25 : decode (D_X8_order).2.1 25 = .ok (.iconst 1, 1) := by decide +kernel
theorem d_X8_order_26 : decode (D_X8_order).2.1 26 = .ok (.isub, 1) := by decide +kernel
theorem d_X8_order_27 : decode (D_X8_order).2.1 27 = .ok (.iaload, 1) := by decide +kernel
theorem d_X8_order_28 : decode (D_X8_order).2.1 28 = .ok (.iaload, 1) := by decide +kernel
theorem d_X8_order_29 : decode (D_X8_order).2.1 29 = .ok (.aload_n 1, 1) := by decide +kernel
theorem d_X8_order_30 : decode (D_X8_order).2.1 30 = .ok (.getfield 24, 3) := by decide +kernel
theorem d_X8_order_33 : decode (D_X8_order).2.1 33 = .ok (.iload_n 2, 1) := by decide +kernel
theorem d_X8_order_34 : decode (D_X8_order).2.1 34 = .ok (.iaload, 1) := by decide +kernel
theorem d_X8_order_35 : decode (D_X8_order).2.1 35 = .ok (.if_icmp .le 23, 3) := by decide +kernel
theorem d_X8_order_38 : decode (D_X8_order).2.1 38 = .ok (.aload_n 0, 1) := by decide +kernel
theorem d_X8_order_39 : decode (D_X8_order).2.1 39 = .ok (.getfield 15, 3) := by decide +kernel
theorem d_X8_order_42 : decode (D_X8_order).2.1 42 = .ok (.iload_n 3, 1) := by decide +kernel
theorem d_X8_order_43 : decode (D_X8_order).2.1 43 = .ok (.aload_n 0, 1) := by decide +kernel
theorem d_X8_order_44 : decode (D_X8_order).2.1 44 = .ok (.getfield 15, 3) := by decide +kernel
theorem d_X8_order_47 : decode (D_X8_order).2.1 47 = .ok (.iload_n 3, 1) := by decide +kernel
theorem d_X8_order_48 : decode (D_X8_order).2.1 48 = .ok (.iconst 1, 1) := by decide +kernel
theorem d_X8_order_49 : decode (D_X8_order).2.1 49 = .ok (.isub, 1) := by decide +kernel
theorem d_X8_order_50 : decode (D_X8_order).2.1 50 = .ok (.iaload, 1) := by decide +kernel
theorem d_X8_order_51 : decode (D_X8_order).2.1 51 = .ok (.iastore, 1) := by decide +kernel
theorem d_X8_order_52 : decode (D_X8_order).2.1 52 = .ok (.iinc 3 (-1), 3) := by decide +kernel
theorem d_X8_order_55 : decode (D_X8_order).2.1 55 = .ok (.goto (-43), 3) := by decide +kernel
theorem d_X8_order_58 : decode (D_X8_order).2.1 58 = .ok (.aload_n 0, 1) := by decide +kernel
theorem d_X8_order_59 : decode (D_X8_order).2.1 59 = .ok (.getfield 15, 3) := by decide +kernel
theorem d_X8_order_62 : decode (D_X8_order).2.1 62 = .ok (.iload_n 3, 1) := by decide +kernel
theorem d_X8_order_63 : decode (D_X8_order).2.1 63 = .ok (.iload_n 2, 1) := by decide +kernel
theorem d_X8_order_64 : decode (D_X8_order).2.1 64 = .ok (.iastore, 1) := by decide +kernel
theorem d_X8_order_65 : decode (D_X8_order).2.1 65 = .ok (.iinc 2 1, 3) := by decide +kernel
theorem d_X8_order_68 : decode (D_X8_order).2.1 68 = .ok (.goto (-66), 3) := by decide +kernel
theorem d_X8_order_71 : decode (D_X8_order).2.1 71 = .ok (.return_, 1) := by decide +kernel
def f_X8_order_L58 (n : Nat) (p1 : Nat) (r2 : Int → JMem → Option (Int × JMem)) (v2 v3 : Int) (M : JMem) : Option (Int × JMem) := chk (jin v3 8) <| letm (jup M 78 (jw v3).toNat v2) fun M1 => letv (v2 + 1) fun y2 => r2 y2 M1
set_option maxRecDepth 4000 in
theorem t_X8_order_L58 {g : JG} {ad : Nat → Nat} (hs : jStr g ad) (n : Nat) (p1 : Nat) (hp1 : jK jNN (0, 4) p1) (r2 : Int → JMem → Option (Int × JMem)) (hr2 : ∀ (v2 : Int) (M : JMem), jB g D_X8_order ad 2 [some (.ref 76), some (.ref p1), some (ji v2), none] [] M (r2 v2 M)) (v2 v3 : Int) (M : JMem) : jB g D_X8_order ad 58 [some (.ref 76), some (.ref p1), some (ji v2), some (ji v3)] [] M (f_X8_order_L58 n p1 r2 v2 v3 M) := by
  unfold f_X8_order_L58
  refine jo_aload 0 d_X8_order_58 rfl rfl ?_
  refine jo_getR (k := 1) cl_8 (Nat.le_of_ble_eq_true rfl) lk_X8_15 rfl kc_76 kr_76_1 d_X8_order_59 ?_
  refine jo_iload 3 d_X8_order_62 rfl rfl ?_
  refine jo_iload 2 d_X8_order_63 rfl rfl ?_
  refine jo_iast (N := 8) kc_78 d_X8_order_64 (fun M1 => ?_)
  refine jo_iinc 2 d_X8_order_65 rfl (Nat.le_of_ble_eq_true rfl) (fun y2 => ?_)
  refine jo_goto 2 d_X8_order_68 (by decide) ?_
  exact jO.sub (hr2 y2 M1) (And.intro rfl (And.intro rfl (And.intro rfl True.intro)))
def f_X8_order_L12 (n : Nat) (p1 : Nat) (r2 : Int → JMem → Option (Int × JMem)) : Nat → Int → Int → JMem → Option (Int × JMem)
  | 0, _, _, _ => none
  | k + 1, v2, v3, M => if jw v3 ≤ 0 then (f_X8_order_L58 n p1 r2 v2 v3 M) else (chk (jin (v3 - 1) 8) <| chk (jin (M 78 (jw (v3 - 1)).toNat) 8) <| chk (jin v2 8) <| if jw (M (p1 + 6) (jw (M 78 (jw (v3 - 1)).toNat)).toNat) ≤ jw (M (p1 + 6) (jw v2).toNat) then (f_X8_order_L58 n p1 r2 v2 v3 M) else (chk (jin (v3 - 1) 8) <| chk (jin v3 8) <| letm (jup M 78 (jw v3).toNat (M 78 (jw (v3 - 1)).toNat)) fun M1 => letv (v3 + (-1)) fun y2 => (f_X8_order_L12 n p1 r2 k) v2 y2 M1))
set_option maxRecDepth 4000 in
theorem t_X8_order_L12 {g : JG} {ad : Nat → Nat} (hs : jStr g ad) (n : Nat) (p1 : Nat) (hp1 : jK jNN (0, 4) p1) (r2 : Int → JMem → Option (Int × JMem)) (hr2 : ∀ (v2 : Int) (M : JMem), jB g D_X8_order ad 2 [some (.ref 76), some (.ref p1), some (ji v2), none] [] M (r2 v2 M)) : ∀ (k : Nat) (v2 v3 : Int) (M : JMem), jB g D_X8_order ad 12 [some (.ref 76), some (.ref p1), some (ji v2), some (ji v3)] [] M (f_X8_order_L12 n p1 r2 k v2 v3 M) := by
  intro k
  induction k with
  | zero => intro v2 v3 M; exact jO.none
  | succ k ih =>
    intro v2 v3 M
    rw [f_X8_order_L12]
    refine jo_iload 3 d_X8_order_12 rfl rfl ?_
    refine jo_if_le 58 d_X8_order_13 (by decide) ?_ ?_
    · skip
      exact jO.sub (t_X8_order_L58 hs n p1 hp1 r2 hr2 v2 v3 M) (And.intro rfl (And.intro rfl (And.intro rfl (And.intro rfl True.intro))))
    · skip
      refine jo_aload 1 d_X8_order_16 rfl rfl ?_
      refine jo_getR (k := 10) cl_4 (Nat.le_of_ble_eq_true rfl) lk_X8_24 rfl hp1 (kr_Plan_10 hp1) d_X8_order_17 ?_
      refine jo_aload 0 d_X8_order_20 rfl rfl ?_
      refine jo_getR (k := 1) cl_8 (Nat.le_of_ble_eq_true rfl) lk_X8_15 rfl kc_76 kr_76_1 d_X8_order_21 ?_
      refine jo_iload 3 d_X8_order_24 rfl rfl ?_
      refine jo_iconst 1 d_X8_order_25 ?_
      refine jo_isub d_X8_order_26 ?_
      refine jo_iald (N := 8) kc_78 d_X8_order_27 ?_
      refine jo_iald (N := 8) (ka_Plan_10 hp1) d_X8_order_28 ?_
      refine jo_aload 1 d_X8_order_29 rfl rfl ?_
      refine jo_getR (k := 10) cl_4 (Nat.le_of_ble_eq_true rfl) lk_X8_24 rfl hp1 (kr_Plan_10 hp1) d_X8_order_30 ?_
      refine jo_iload 2 d_X8_order_33 rfl rfl ?_
      refine jo_iald (N := 8) (ka_Plan_10 hp1) d_X8_order_34 ?_
      refine jo_icmp_le 58 d_X8_order_35 (by decide) ?_ ?_
      · skip
        exact jO.sub (t_X8_order_L58 hs n p1 hp1 r2 hr2 v2 v3 M) (And.intro rfl (And.intro rfl (And.intro rfl (And.intro rfl True.intro))))
      · skip
        refine jo_aload 0 d_X8_order_38 rfl rfl ?_
        refine jo_getR (k := 1) cl_8 (Nat.le_of_ble_eq_true rfl) lk_X8_15 rfl kc_76 kr_76_1 d_X8_order_39 ?_
        refine jo_iload 3 d_X8_order_42 rfl rfl ?_
        refine jo_aload 0 d_X8_order_43 rfl rfl ?_
        refine jo_getR (k := 1) cl_8 (Nat.le_of_ble_eq_true rfl) lk_X8_15 rfl kc_76 kr_76_1 d_X8_order_44 ?_
        refine jo_iload 3 d_X8_order_47 rfl rfl ?_
        refine jo_iconst 1 d_X8_order_48 ?_
        refine jo_isub d_X8_order_49 ?_
        refine jo_iald (N := 8) kc_78 d_X8_order_50 ?_
        refine jo_iast (N := 8) kc_78 d_X8_order_51 (fun M1 => ?_)
        refine jo_iinc 3 d_X8_order_52 rfl (Nat.le_of_ble_eq_true rfl) (fun y2 => ?_)
        refine jo_goto 12 d_X8_order_55 (by decide) ?_
        exact jO.sub (ih v2 y2 M1) (And.intro rfl (And.intro rfl (And.intro rfl (And.intro rfl True.intro))))
def f_X8_order_L2 (n : Nat) (p1 : Nat) : Nat → Int → JMem → Option (Int × JMem)
  | 0, _, _ => none
  | k + 1, v2, M => if jw (M p1 1) ≤ jw v2 then (some (0, M)) else (letv v2 fun y1 => f_X8_order_L12 n p1 (f_X8_order_L2 n p1 k) n v2 y1 M)
set_option maxRecDepth 4000 in
theorem t_X8_order_L2 {g : JG} {ad : Nat → Nat} (hs : jStr g ad) (n : Nat) (p1 : Nat) (hp1 : jK jNN (0, 4) p1) : ∀ (k : Nat) (v2 : Int) (M : JMem), jB g D_X8_order ad 2 [some (.ref 76), some (.ref p1), some (ji v2), none] [] M (f_X8_order_L2 n p1 k v2 M) := by
  intro k
  induction k with
  | zero => intro v2 M; exact jO.none
  | succ k ih =>
    intro v2 M
    rw [f_X8_order_L2]
    refine jo_iload 2 d_X8_order_2 rfl rfl ?_
    refine jo_aload 1 d_X8_order_3 rfl rfl ?_
    refine jo_getI (k := 1) cl_4 (Nat.le_of_ble_eq_true rfl) lk_X8_18 (Or.inl rfl) hp1 d_X8_order_4 ?_
    refine jo_icmp_ge 71 d_X8_order_7 (by decide) ?_ ?_
    · skip
      exact jo_vret rfl d_X8_order_71
    · skip
      refine jo_iload 2 d_X8_order_10 rfl rfl ?_
      refine jo_istore 3 d_X8_order_11 rfl (Nat.le_of_ble_eq_true rfl) (fun y1 => ?_)
      exact jO.sub (t_X8_order_L12 hs n p1 hp1 (f_X8_order_L2 n p1 k) ih n v2 y1 M) (And.intro rfl (And.intro rfl (And.intro rfl (And.intro rfl True.intro))))
def f_X8_order (n : Nat) (p1 : Nat) (M : JMem) : Option (Int × JMem) := letv 0 fun y1 => f_X8_order_L2 n p1 n y1 M
set_option maxRecDepth 4000 in
theorem t_X8_order {g : JG} {ad : Nat → Nat} (hs : jStr g ad) (n : Nat) (p1 : Nat) (hp1 : jK jNN (0, 4) p1) (M : JMem) : jB g D_X8_order ad 0 [some (.ref 76), some (.ref p1), none, none] [] M (f_X8_order n p1 M) := by
  unfold f_X8_order
  refine jo_iconst 0 d_X8_order_0 ?_
  refine jo_istore 2 d_X8_order_1 rfl (Nat.le_of_ble_eq_true rfl) (fun y1 => ?_)
  exact jO.sub (t_X8_order_L2 hs n p1 hp1 n y1 M) (And.intro rfl (And.intro rfl (And.intro rfl True.intro)))
theorem m_X8_order {g : JG} {ad : Nat → Nat} (hs : jStr g ad) (n : Nat) (p1 : Nat) (hp1 : jK jNN (0, 4) p1) (M : JMem) : jMet g jNN ad jR D_X8_order yX8_order [.ref 76, .ref p1] M (f_X8_order n p1 M) :=
  jMet.of (lo0 := [some (.ref 76), some (.ref p1), none, none]) (by decide) rfl rfl (Nat.le_of_ble_eq_true rfl) (And.intro rfl (And.intro rfl True.intro)) (t_X8_order hs n p1 hp1 M)
end

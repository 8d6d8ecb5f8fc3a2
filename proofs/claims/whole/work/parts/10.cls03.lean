section
/-! CageLeave$Weeks.add(III)V -/
def D_X9_add : JD := (RX9, cX9_add, 4, none, "add", { frames := 0, cells := 0, slots := 0, locals := 0 })
theorem ok_X9_add : jOk D_X9_add yX9_add 3 := ⟨jTW_mem (k := 910) (by decide +kernel) rfl, jTW_mem (k := 146) (by decide +kernel) rfl, ⟨by decide +kernel, by decide +kernel⟩, by decide +kernel, rfl, rfl⟩
theorem in_X9_add : Cond.instanceMethod yX9_add ∈ jTW := jTW_mem (k := 908) (by decide +kernel) rfl
theorem se_X9_add : Cond.selects yX9_add.cls yX9_add yX9_add ∈ jTW := jTW_mem (k := 909) (by decide +kernel) rfl
theorem d_X9_add_0 : decode (D_X9_add).2.1 0 = .ok (.aload_n 0, 1) := by decide +kernel
theorem d_X9_add_1 : decode (D_X9_add).2.1 1 = .ok (.getfield 17, 3) := by decide +kernel
theorem d_X9_add_4 : decode (D_X9_add).2.1 4 = .ok (.bipush 60, 2) := by decide +kernel
theorem d_X9_add_6 : decode (D_X9_add).2.1 6 = .ok (.if_icmp .ge 56, 3) := by decide +kernel
theorem d_X9_add_9 : decode (D_X9_add).2.1 9 = .ok (.aload_n 0, 1) := by decide +kernel
theorem d_X9_add_10 : decode (D_X9_add).2.1 10 = .ok (.getfield 20, 3) := by decide +kernel
theorem d_X9_add_13 : decode (D_X9_add).2.1 13 = .ok (.aload_n 0, 1) := by decide +kernel
theorem d_X9_add_14 : decode (D_X9_add).2.1 14 = .ok (.getfield 17, 3) := by decide +kernel
theorem d_X9_add_17 : decode (D_X9_add).2.1 17 = .ok (.iload_n 1, 1) := by decide +kernel
theorem d_X9_add_18 : decode (D_X9_add).2.1 18 = .ok (.iastore, 1) := by decide +kernel
theorem d_X9_add_19 : decode (D_X9_add).2.1 19 = .ok (.aload_n 0, 1) := by decide +kernel
theorem d_X9_add_20 : decode (D_X9_add).2.1 20 = .ok (.getfield 24, 3) := by decide +kernel
theorem d_X9_add_23 : decode (D_X9_add).2.1 23 = .ok (.aload_n 0, 1) := by decide +kernel
theorem d_X9_add_24 : decode (D_X9_add).2.1 24 = .ok (.getfield 17, 3) := by decide +kernel
theorem d_X9_add_27 : decode (D_X9_add).2.1 27 = .ok (.iload_n 2, 1) := by decide +kernel
theorem d_X9_add_28 : decode (D_X9_add).2.1 28 = .ok (.iastore, 1) := by decide +kernel
theorem d_X9_add_29 : decode (D_X9_add).2.1 29 = .ok (.aload_n 0, 1) := by decide +kernel
theorem d_X9_add_30 : decode (D_X9_add).2.1 30 = .ok (.getfield 27, 3) := by decide +kernel
theorem d_X9_add_33 : decode (D_X9_add).2.1 33 = .ok (.aload_n 0, 1) := by decide +kernel
theorem d_X9_add_34 : decode (D_X9_add).2.1 34 = .ok (.getfield 17, 3) := by decide +kernel
theorem d_X9_add_37 : decode (D_X9_add).2.1 37 = .ok (.iload_n 3, 1) := by decide +kernel
theorem d_X9_add_38 : decode (D_X9_add).2.1 38 = .ok (.iastore, 1) := by decide +kernel
theorem d_X9_add_39 : decode (D_X9_add).2.1 39 = .ok (.aload_n 0, 1) := by decide +kernel
theorem d_X9_add_40 : decode (D_X9_add).2.1 40 = .ok (.getfield 30, 3) := by decide +kernel
theorem d_X9_add_43 : decode (D_X9_add).2.1 43 = .ok (.aload_n 0, 1) := by decide +kernel
theorem d_X9_add_44 : decode (D_X9_add).2.1 44 = .ok (.getfield 17, 3) := by decide +kernel
theorem d_X9_add_47 : decode (D_X9_add).2.1 47 = .ok (.aload_n 0, 1) := by decide +kernel
theorem d_X9_add_48 : decode (D_X9_add).2.1 48 = .ok (.getfield 17, 3) := by decide +kernel
theorem d_X9_add_51 : decode (D_X9_add).2.1 51 = .ok (.iastore, 1) := by decide +kernel
theorem d_X9_add_52 : decode (D_X9_add).2.1 52 = .ok (.aload_n 0, 1) := by decide +kernel
theorem d_X9_add_53 : decode (D_X9_add).2.1 53 = .ok (.dup, 1) := by decide +kernel
theorem d_X9_add_54 : decode (D_X9_add).2.1 54 = .ok (.getfield 17, 3) := by decide +kernel
theorem d_X9_add_57 : decode (D_X9_add).2.1 57 = .ok (.iconst 1, 1) := by decide +kernel
theorem d_X9_add_58 : decode (D_X9_add).2.1 58 = .ok (.iadd, 1) := by decide +kernel
theorem d_X9_add_59 : decode (D_X9_add).2.1 59 = .ok (.putfield 17, 3) := by decide +kernel
theorem d_X9_add_62 : decode (D_X9_add).2.1 62 = .ok (.return_, 1) := by decide +kernel
def f_X9_add (n : Nat) (th : Nat) (x1 : Int) (x2 : Int) (x3 : Int) (M : JMem) : Option (Int × JMem) := if jw 60 ≤ jw (M th 2) then (some (0, M)) else (chk (jin (M th 2) 60) <| letm (jup M (th + 1) (jw (M th 2)).toNat x1) fun M1 => chk (jin (M1 th 2) 60) <| letm (jup M1 (th + 2) (jw (M1 th 2)).toNat x2) fun M2 => chk (jin (M2 th 2) 60) <| letm (jup M2 (th + 3) (jw (M2 th 2)).toNat x3) fun M3 => chk (jin (M3 th 2) 60) <| letm (jup M3 (th + 4) (jw (M3 th 2)).toNat (M3 th 2)) fun M4 => letm (jup M4 th 2 ((M4 th 2) + 1)) fun M5 => some (0, M5))
set_option maxRecDepth 4000 in
theorem t_X9_add {g : JG} {ad : Nat → Nat} (hs : jStr g ad) (n : Nat) (th : Nat) (x1 : Int) (x2 : Int) (x3 : Int) (hth : jK jNN (0, 9) th) (M : JMem) : jB g D_X9_add ad 0 [some (.ref th), some (ji x1), some (ji x2), some (ji x3)] [] M (f_X9_add n th x1 x2 x3 M) := by
  unfold f_X9_add
  refine jo_aload 0 d_X9_add_0 rfl rfl ?_
  refine jo_getI (k := 2) cl_9 (Nat.le_of_ble_eq_true rfl) lk_X9_17 (Or.inl rfl) hth d_X9_add_1 ?_
  refine jo_bipush 60 d_X9_add_4 (by decide) ?_
  refine jo_icmp_ge 62 d_X9_add_6 (by decide) ?_ ?_
  · skip
    exact jo_vret rfl d_X9_add_62
  · skip
    refine jo_aload 0 d_X9_add_9 rfl rfl ?_
    refine jo_getR (k := 3) cl_9 (Nat.le_of_ble_eq_true rfl) lk_X9_20 rfl hth (kr_Weeks_3 hth) d_X9_add_10 ?_
    refine jo_aload 0 d_X9_add_13 rfl rfl ?_
    refine jo_getI (k := 2) cl_9 (Nat.le_of_ble_eq_true rfl) lk_X9_17 (Or.inl rfl) hth d_X9_add_14 ?_
    refine jo_iload 1 d_X9_add_17 rfl rfl ?_
    refine jo_iast (N := 60) (ka_Weeks_3 hth) d_X9_add_18 (fun M1 => ?_)
    refine jo_aload 0 d_X9_add_19 rfl rfl ?_
    refine jo_getR (k := 4) cl_9 (Nat.le_of_ble_eq_true rfl) lk_X9_24 rfl hth (kr_Weeks_4 hth) d_X9_add_20 ?_
    refine jo_aload 0 d_X9_add_23 rfl rfl ?_
    refine jo_getI (k := 2) cl_9 (Nat.le_of_ble_eq_true rfl) lk_X9_17 (Or.inl rfl) hth d_X9_add_24 ?_
    refine jo_iload 2 d_X9_add_27 rfl rfl ?_
    refine jo_iast (N := 60) (ka_Weeks_4 hth) d_X9_add_28 (fun M2 => ?_)
    refine jo_aload 0 d_X9_add_29 rfl rfl ?_
    refine jo_getR (k := 5) cl_9 (Nat.le_of_ble_eq_true rfl) lk_X9_27 rfl hth (kr_Weeks_5 hth) d_X9_add_30 ?_
    refine jo_aload 0 d_X9_add_33 rfl rfl ?_
    refine jo_getI (k := 2) cl_9 (Nat.le_of_ble_eq_true rfl) lk_X9_17 (Or.inl rfl) hth d_X9_add_34 ?_
    refine jo_iload 3 d_X9_add_37 rfl rfl ?_
    refine jo_iast (N := 60) (ka_Weeks_5 hth) d_X9_add_38 (fun M3 => ?_)
    refine jo_aload 0 d_X9_add_39 rfl rfl ?_
    refine jo_getR (k := 6) cl_9 (Nat.le_of_ble_eq_true rfl) lk_X9_30 rfl hth (kr_Weeks_6 hth) d_X9_add_40 ?_
    refine jo_aload 0 d_X9_add_43 rfl rfl ?_
    refine jo_getI (k := 2) cl_9 (Nat.le_of_ble_eq_true rfl) lk_X9_17 (Or.inl rfl) hth d_X9_add_44 ?_
    refine jo_aload 0 d_X9_add_47 rfl rfl ?_
    refine jo_getI (k := 2) cl_9 (Nat.le_of_ble_eq_true rfl) lk_X9_17 (Or.inl rfl) hth d_X9_add_48 ?_
    refine jo_iast (N := 60) (ka_Weeks_6 hth) d_X9_add_51 (fun M4 => ?_)
    refine jo_aload 0 d_X9_add_52 rfl rfl ?_
    refine jo_dup d_X9_add_53 rfl ?_
    refine jo_getI (k := 2) cl_9 (Nat.le_of_ble_eq_true rfl) lk_X9_17 (Or.inl rfl) hth d_X9_add_54 ?_
    refine jo_iconst 1 d_X9_add_57 ?_
    refine jo_iadd d_X9_add_58 ?_
    refine jo_putI (k := 2) cl_9 (Nat.le_of_ble_eq_true rfl) lk_X9_17 rfl rfl hth d_X9_add_59 (fun M5 => ?_)
    exact jo_vret rfl d_X9_add_62
theorem m_X9_add {g : JG} {ad : Nat → Nat} (hs : jStr g ad) (n : Nat) (th : Nat) (x1 : Int) (x2 : Int) (x3 : Int) (hth : jK jNN (0, 9) th) (M : JMem) : jMet g jNN ad jR D_X9_add yX9_add [.ref th, ji x1, ji x2, ji x3] M (f_X9_add n th x1 x2 x3 M) :=
  jMet.of (lo0 := [some (.ref th), some (ji x1), some (ji x2), some (ji x3)]) (by decide) rfl rfl (Nat.le_of_ble_eq_true rfl) (And.intro rfl (And.intro rfl (And.intro rfl (And.intro rfl True.intro)))) (t_X9_add hs n th x1 x2 x3 hth M)
/-! CageLeave$Weeks.copyFrom(LCageLeave$Weeks;)V -/
def D_X9_copyFrom : JD := (RX9, cX9_copyFrom, 2, none, "copyFrom", { frames := 1, cells := 0, slots := 0, locals := 60 })
theorem ok_X9_copyFrom : jOk D_X9_copyFrom yX9_copyFrom 1 := ⟨jTW_mem (k := 939) (by decide +kernel) rfl, jTW_mem (k := 146) (by decide +kernel) rfl, ⟨by decide +kernel, by decide +kernel⟩, by decide +kernel, rfl, rfl⟩
theorem in_X9_copyFrom : Cond.instanceMethod yX9_copyFrom ∈ jTW := jTW_mem (k := 937) (by decide +kernel) rfl
theorem se_X9_copyFrom : Cond.selects yX9_copyFrom.cls yX9_copyFrom yX9_copyFrom ∈ jTW := jTW_mem (k := 938) (by decide +kernel) rfl
theorem lm_X9_33 : Cond.methodLink RX9 33 arraycopyName ∈ jTW := jTW_mem (k := 940) (by decide +kernel) rfl
theorem d_X9_copyFrom_0 : decode (D_X9_copyFrom).2.1 0 = .ok (.aload_n 0, 1) := by decide +kernel
theorem d_X9_copyFrom_1 : decode (D_X9_copyFrom).2.1 1 = .ok (.aload_n 1, 1) := by decide +kernel
theorem d_X9_copyFrom_2 : decode (D_X9_copyFrom).2.1 2 = .ok (.getfield 9, 3) := by decide +kernel
theorem d_X9_copyFrom_5 : decode (D_X9_copyFrom).2.1 5 = .ok (.putfield 9, 3) := by decide +kernel
theorem d_X9_copyFrom_8 : decode (D_X9_copyFrom).2.1 8 = .ok (.aload_n 0, 1) := by decide +kernel
theorem d_X9_copyFrom_9 : decode (D_X9_copyFrom).2.1 9 = .ok (.aload_n 1, 1) := by decide +kernel
theorem d_X9_copyFrom_10 : decode (D_X9_copyFrom).2.1 10 = .ok (.getfield 13, 3) := by decide +kernel
theorem d_X9_copyFrom_13 : decode (D_X9_copyFrom).2.1 13 = .ok (.putfield 13, 3) := by decide +kernel
theorem d_X9_copyFrom_16 : decode (D_X9_copyFrom).2.1 16 = .ok (.aload_n 0, 1) := by decide +kernel
theorem d_X9_copyFrom_17 : decode (D_X9_copyFrom).2.1 17 = .ok (.aload_n 1, 1) := by decide +kernel
theorem d_X9_copyFrom_18 : decode (D_X9_copyFrom).2.1 18 = .ok (.getfield 17, 3) := by decide +kernel
theorem d_X9_copyFrom_21 : decode (D_X9_copyFrom).2.1 21 = .ok (.putfield 17, 3) := by decide +kernel
theorem d_X9_copyFrom_24 : decode (D_X9_copyFrom).2.1 24 = .ok (.aload_n 1, 1) := by decide +kernel
theorem d_X9_copyFrom_25 : decode (D_X9_copyFrom).2.1 25 = .ok (.getfield 20, 3) := by decide +kernel
theorem d_X9_copyFrom_28 : decode (D_X9_copyFrom).2.1 28 = .ok (.iconst 0, 1) := by decide +kernel
theorem d_X9_copyFrom_29 : decode (D_X9_copyFrom).2.1 29 = .ok (.aload_n 0, 1) := by decide +kernel
theorem d_X9_copyFrom_30 : decode (D_X9_copyFrom).2.1 30 = .ok (.getfield 20, 3) := by decide +kernel
theorem d_X9_copyFrom_33 : decode (D_X9_copyFrom).2.1 33 = .ok (.iconst 0, 1) := by decide +kernel
theorem d_X9_copyFrom_34 : decode (D_X9_copyFrom).2.1 34 = .ok (.bipush 60, 2) := by decide +kernel
theorem d_X9_copyFrom_36 : decode (D_X9_copyFrom).2.1 36 = .ok (.invokestatic 33, 3) := by decide +kernel
theorem d_X9_copyFrom_39 : decode (D_X9_copyFrom).2.1 39 = .ok (.aload_n 1, 1) := by decide +kernel
theorem d_X9_copyFrom_40 : decode (D_X9_copyFrom).2.1 40 = .ok (.getfield 24, 3) := by decide +kernel
theorem d_X9_copyFrom_43 : decode (D_X9_copyFrom).2.1 43 = .ok (.iconst 0, 1) := by decide +kernel
theorem d_X9_copyFrom_44 : decode (D_X9_copyFrom).2.1 44 = .ok (.aload_n 0, 1) := by decide +kernel
theorem d_X9_copyFrom_45 : decode (D_X9_copyFrom).2.1 45 = .ok (.getfield 24, 3) := by decide +kernel
theorem d_X9_copyFrom_48 : decode (D_X9_copyFrom).2.1 48 = .ok (.iconst 0, 1) := by decide +kernel
theorem d_X9_copyFrom_49 : decode (D_X9_copyFrom).2.1 49 = .ok (.bipush 60, 2) := by decide +kernel
theorem d_X9_copyFrom_51 : decode (D_X9_copyFrom).2.1 51 = .ok (.invokestatic 33, 3) := by decide +kernel
theorem d_X9_copyFrom_54 : decode (D_X9_copyFrom).2.1 54 = .ok (.aload_n 1, 1) := by decide +kernel
theorem d_X9_copyFrom_55 : decode (D_X9_copyFrom).2.1 55 = .ok (.getfield 27, 3) := by decide +kernel
theorem d_X9_copyFrom_58 : decode (D_X9_copyFrom).2.1 58 = .ok (.iconst 0, 1) := by decide +kernel
theorem d_X9_copyFrom_59 : decode (D_X9_copyFrom).2.1 59 = .ok (.aload_n 0, 1) := by decide +kernel
theorem d_X9_copyFrom_60 : decode (D_X9_copyFrom).2.1 60 = .ok (.getfield 27, 3) := by decide +kernel
theorem d_X9_copyFrom_63 : decode (D_X9_copyFrom).2.1 63 = .ok (.iconst 0, 1) := by decide +kernel
theorem d_X9_copyFrom_64 : decode (D_X9_copyFrom).2.1 64 = .ok (.bipush 60, 2) := by decide +kernel
theorem d_X9_copyFrom_66 : decode (D_X9_copyFrom).2.1 66 = .ok (.invokestatic 33, 3) := by decide +kernel
theorem d_X9_copyFrom_69 : decode (D_X9_copyFrom).2.1 69 = .ok (.aload_n 1, 1) := by decide +kernel
theorem d_X9_copyFrom_70 : decode (D_X9_copyFrom).2.1 70 = .ok (.getfield 30, 3) := by decide +kernel
theorem d_X9_copyFrom_73 : decode (D_X9_copyFrom).2.1 73 = .ok (.iconst 0, 1) := by decide +kernel
theorem d_X9_copyFrom_74 : decode (D_X9_copyFrom).2.1 74 = .ok (.aload_n 0, 1) := by decide +kernel
theorem d_X9_copyFrom_75 : decode (D_X9_copyFrom).2.1 75 = .ok (.getfield 30, 3) := by decide +kernel
theorem d_X9_copyFrom_78 : decode (D_X9_copyFrom).2.1 78 = .ok (.iconst 0, 1) := by decide +kernel
theorem d_X9_copyFrom_79 : decode (D_X9_copyFrom).2.1 79 = .ok (.bipush 60, 2) := by decide +kernel
theorem d_X9_copyFrom_81 : decode (D_X9_copyFrom).2.1 81 = .ok (.invokestatic 33, 3) := by decide +kernel
theorem d_X9_copyFrom_84 : decode (D_X9_copyFrom).2.1 84 = .ok (.return_, 1) := by decide +kernel
def f_X9_copyFrom (n : Nat) (th : Nat) (p1 : Nat) (M : JMem) : Option (Int × JMem) := chk (jw (M p1 0) = 0 ∨ jw (M p1 0) = 1) <| letm (jup M th 0 (M p1 0)) fun M1 => letm (jup M1 th 1 (M1 p1 1)) fun M2 => letm (jup M2 th 2 (M2 p1 2)) fun M3 => chk (jcpok 0 0 60 60 60) <| letm (jcpy M3 (p1 + 1) 0 (th + 1) 0 60) fun M4 => chk (jcpok 0 0 60 60 60) <| letm (jcpy M4 (p1 + 2) 0 (th + 2) 0 60) fun M5 => chk (jcpok 0 0 60 60 60) <| letm (jcpy M5 (p1 + 3) 0 (th + 3) 0 60) fun M6 => chk (jcpok 0 0 60 60 60) <| letm (jcpy M6 (p1 + 4) 0 (th + 4) 0 60) fun M7 => some (0, M7)
set_option maxRecDepth 4000 in
theorem t_X9_copyFrom {g : JG} {ad : Nat → Nat} (hs : jStr g ad) (n : Nat) (th : Nat) (p1 : Nat) (hth : jK jNN (0, 9) th) (hp1 : jK jNN (0, 9) p1) (M : JMem) : jB g D_X9_copyFrom ad 0 [some (.ref th), some (.ref p1)] [] M (f_X9_copyFrom n th p1 M) := by
  unfold f_X9_copyFrom
  refine jo_aload 0 d_X9_copyFrom_0 rfl rfl ?_
  refine jo_aload 1 d_X9_copyFrom_1 rfl rfl ?_
  refine jo_getI (k := 0) cl_9 (Nat.le_of_ble_eq_true rfl) lk_X9_9 (Or.inr rfl) hp1 d_X9_copyFrom_2 ?_
  refine jo_putZ (k := 0) cl_9 (Nat.le_of_ble_eq_true rfl) lk_X9_9 rfl rfl hth d_X9_copyFrom_5 (fun M1 => ?_)
  refine jo_aload 0 d_X9_copyFrom_8 rfl rfl ?_
  refine jo_aload 1 d_X9_copyFrom_9 rfl rfl ?_
  refine jo_getI (k := 1) cl_9 (Nat.le_of_ble_eq_true rfl) lk_X9_13 (Or.inl rfl) hp1 d_X9_copyFrom_10 ?_
  refine jo_putI (k := 1) cl_9 (Nat.le_of_ble_eq_true rfl) lk_X9_13 rfl rfl hth d_X9_copyFrom_13 (fun M2 => ?_)
  refine jo_aload 0 d_X9_copyFrom_16 rfl rfl ?_
  refine jo_aload 1 d_X9_copyFrom_17 rfl rfl ?_
  refine jo_getI (k := 2) cl_9 (Nat.le_of_ble_eq_true rfl) lk_X9_17 (Or.inl rfl) hp1 d_X9_copyFrom_18 ?_
  refine jo_putI (k := 2) cl_9 (Nat.le_of_ble_eq_true rfl) lk_X9_17 rfl rfl hth d_X9_copyFrom_21 (fun M3 => ?_)
  refine jo_aload 1 d_X9_copyFrom_24 rfl rfl ?_
  refine jo_getR (k := 3) cl_9 (Nat.le_of_ble_eq_true rfl) lk_X9_20 rfl hp1 (kr_Weeks_3 hp1) d_X9_copyFrom_25 ?_
  refine jo_iconst 0 d_X9_copyFrom_28 ?_
  refine jo_aload 0 d_X9_copyFrom_29 rfl rfl ?_
  refine jo_getR (k := 3) cl_9 (Nat.le_of_ble_eq_true rfl) lk_X9_20 rfl hth (kr_Weeks_3 hth) d_X9_copyFrom_30 ?_
  refine jo_iconst 0 d_X9_copyFrom_33 ?_
  refine jo_bipush 60 d_X9_copyFrom_34 (by decide) ?_
  refine jo_cpyI lm_X9_33 (ka_Weeks_3 hp1) (ka_Weeks_3 hth) (Nat.le_of_ble_eq_true rfl) (Nat.le_of_ble_eq_true rfl) d_X9_copyFrom_36 (fun M4 => ?_)
  refine jo_aload 1 d_X9_copyFrom_39 rfl rfl ?_
  refine jo_getR (k := 4) cl_9 (Nat.le_of_ble_eq_true rfl) lk_X9_24 rfl hp1 (kr_Weeks_4 hp1) d_X9_copyFrom_40 ?_
  refine jo_iconst 0 d_X9_copyFrom_43 ?_
  refine jo_aload 0 d_X9_copyFrom_44 rfl rfl ?_
  refine jo_getR (k := 4) cl_9 (Nat.le_of_ble_eq_true rfl) lk_X9_24 rfl hth (kr_Weeks_4 hth) d_X9_copyFrom_45 ?_
  refine jo_iconst 0 d_X9_copyFrom_48 ?_
  refine jo_bipush 60 d_X9_copyFrom_49 (by decide) ?_
  refine jo_cpyI lm_X9_33 (ka_Weeks_4 hp1) (ka_Weeks_4 hth) (Nat.le_of_ble_eq_true rfl) (Nat.le_of_ble_eq_true rfl) d_X9_copyFrom_51 (fun M5 => ?_)
  refine jo_aload 1 d_X9_copyFrom_54 rfl rfl ?_
  refine jo_getR (k := 5) cl_9 (Nat.le_of_ble_eq_true rfl) lk_X9_27 rfl hp1 (kr_Weeks_5 hp1) d_X9_copyFrom_55 ?_
  refine jo_iconst 0 d_X9_copyFrom_58 ?_
  refine jo_aload 0 d_X9_copyFrom_59 rfl rfl ?_
  refine jo_getR (k := 5) cl_9 (Nat.le_of_ble_eq_true rfl) lk_X9_27 rfl hth (kr_Weeks_5 hth) d_X9_copyFrom_60 ?_
  refine jo_iconst 0 d_X9_copyFrom_63 ?_
  refine jo_bipush 60 d_X9_copyFrom_64 (by decide) ?_
  refine jo_cpyI lm_X9_33 (ka_Weeks_5 hp1) (ka_Weeks_5 hth) (Nat.le_of_ble_eq_true rfl) (Nat.le_of_ble_eq_true rfl) d_X9_copyFrom_66 (fun M6 => ?_)
  refine jo_aload 1 d_X9_copyFrom_69 rfl rfl ?_
  refine jo_getR (k := 6) cl_9 (Nat.le_of_ble_eq_true rfl) lk_X9_30 rfl hp1 (kr_Weeks_6 hp1) d_X9_copyFrom_70 ?_
  refine jo_iconst 0 d_X9_copyFrom_73 ?_
  refine jo_aload 0 d_X9_copyFrom_74 rfl rfl ?_
  refine jo_getR (k := 6) cl_9 (Nat.le_of_ble_eq_true rfl) lk_X9_30 rfl hth (kr_Weeks_6 hth) d_X9_copyFrom_75 ?_
  refine jo_iconst 0 d_X9_copyFrom_78 ?_
  refine jo_bipush 60 d_X9_copyFrom_79 (by decide) ?_
  refine jo_cpyI lm_X9_33 (ka_Weeks_6 hp1) (ka_Weeks_6 hth) (Nat.le_of_ble_eq_true rfl) (Nat.le_of_ble_eq_true rfl) d_X9_copyFrom_81 (fun M7 => ?_)
  exact jo_vret rfl d_X9_copyFrom_84
theorem m_X9_copyFrom {g : JG} {ad : Nat → Nat} (hs : jStr g ad) (n : Nat) (th : Nat) (p1 : Nat) (hth : jK jNN (0, 9) th) (hp1 : jK jNN (0, 9) p1) (M : JMem) : jMet g jNN ad jR D_X9_copyFrom yX9_copyFrom [.ref th, .ref p1] M (f_X9_copyFrom n th p1 M) :=
  jMet.of (lo0 := [some (.ref th), some (.ref p1)]) (by decide) rfl rfl (Nat.le_of_ble_eq_true rfl) (And.intro rfl (And.intro rfl True.intro)) (t_X9_copyFrom hs n th p1 hth hp1 M)
/-! CageLeave$Weeks.forget()V -/
def D_X9_forget : JD := (RX9, cX9_forget, 1, none, "forget", { frames := 0, cells := 0, slots := 0, locals := 0 })
theorem ok_X9_forget : jOk D_X9_forget yX9_forget 0 := ⟨jTW_mem (k := 886) (by decide +kernel) rfl, jTW_mem (k := 146) (by decide +kernel) rfl, ⟨by decide +kernel, by decide +kernel⟩, by decide +kernel, rfl, rfl⟩
theorem in_X9_forget : Cond.instanceMethod yX9_forget ∈ jTW := jTW_mem (k := 884) (by decide +kernel) rfl
theorem se_X9_forget : Cond.selects yX9_forget.cls yX9_forget yX9_forget ∈ jTW := jTW_mem (k := 885) (by decide +kernel) rfl
theorem d_X9_forget_0 : decode (D_X9_forget).2.1 0 = .ok (.aload_n 0, 1) := by decide +kernel
theorem d_X9_forget_1 : decode (D_X9_forget).2.1 1 = .ok (.iconst 0, 1) := by decide +kernel
theorem d_X9_forget_2 : decode (D_X9_forget).2.1 2 = .ok (.putfield 9, 3) := by decide +kernel
theorem d_X9_forget_5 : decode (D_X9_forget).2.1 5 = .ok (.aload_n 0, 1) := by decide +kernel
theorem d_X9_forget_6 : decode (D_X9_forget).2.1 6 = .ok (.iconst 0, 1) := by decide +kernel
theorem d_X9_forget_7 : decode (D_X9_forget).2.1 7 = .ok (.putfield 13, 3) := by decide +kernel
theorem d_X9_forget_10 : decode (D_X9_forget).2.1 10 = .ok (.aload_n 0, 1) := by decide +kernel
theorem d_X9_forget_11 : decode (D_X9_forget).2.1 11 = .ok (.iconst 0, 1) := by decide +kernel
theorem d_X9_forget_12 : decode (D_X9_forget).2.1 12 = .ok (.putfield 17, 3) := by decide +kernel
theorem d_X9_forget_15 : decode (D_X9_forget).2.1 15 = .ok (.return_, 1) := by decide +kernel
def f_X9_forget (n : Nat) (th : Nat) (M : JMem) : Option (Int × JMem) := chk (jw 0 = 0 ∨ jw 0 = 1) <| letm (jup M th 0 0) fun M1 => letm (jup M1 th 1 0) fun M2 => letm (jup M2 th 2 0) fun M3 => some (0, M3)
set_option maxRecDepth 4000 in
theorem t_X9_forget {g : JG} {ad : Nat → Nat} (hs : jStr g ad) (n : Nat) (th : Nat) (hth : jK jNN (0, 9) th) (M : JMem) : jB g D_X9_forget ad 0 [some (.ref th)] [] M (f_X9_forget n th M) := by
  unfold f_X9_forget
  refine jo_aload 0 d_X9_forget_0 rfl rfl ?_
  refine jo_iconst 0 d_X9_forget_1 ?_
  refine jo_putZ (k := 0) cl_9 (Nat.le_of_ble_eq_true rfl) lk_X9_9 rfl rfl hth d_X9_forget_2 (fun M1 => ?_)
  refine jo_aload 0 d_X9_forget_5 rfl rfl ?_
  refine jo_iconst 0 d_X9_forget_6 ?_
  refine jo_putI (k := 1) cl_9 (Nat.le_of_ble_eq_true rfl) lk_X9_13 rfl rfl hth d_X9_forget_7 (fun M2 => ?_)
  refine jo_aload 0 d_X9_forget_10 rfl rfl ?_
  refine jo_iconst 0 d_X9_forget_11 ?_
  refine jo_putI (k := 2) cl_9 (Nat.le_of_ble_eq_true rfl) lk_X9_17 rfl rfl hth d_X9_forget_12 (fun M3 => ?_)
  exact jo_vret rfl d_X9_forget_15
theorem m_X9_forget {g : JG} {ad : Nat → Nat} (hs : jStr g ad) (n : Nat) (th : Nat) (hth : jK jNN (0, 9) th) (M : JMem) : jMet g jNN ad jR D_X9_forget yX9_forget [.ref th] M (f_X9_forget n th M) :=
  jMet.of (lo0 := [some (.ref th)]) (by decide) rfl rfl (Nat.le_of_ble_eq_true rfl) (And.intro rfl True.intro) (t_X9_forget hs n th hth M)
/-! CageLeave$WeeksReader.isStep(I)Z -/
def D_X10_isStep : JD := (RX10, cX10_isStep, 1, some .boolean, "isStep", { frames := 0, cells := 0, slots := 0, locals := 0 })
theorem ok_X10_isStep : jOk D_X10_isStep yX10_isStep 1 := ⟨jTW_mem (k := 923) (by decide +kernel) rfl, jTW_mem (k := 145) (by decide +kernel) rfl, ⟨by decide +kernel, by decide +kernel⟩, by decide +kernel, rfl, rfl⟩
theorem st_X10_isStep : Cond.static yX10_isStep ∈ jTW := jTW_mem (k := 922) (by decide +kernel) rfl
theorem d_X10_isStep_0 : decode (D_X10_isStep).2.1 0 = .ok (.iload_n 0, 1) := by decide +kernel
theorem d_X10_isStep_1 : decode (D_X10_isStep).2.1 1 = .ok (.tableswitch 69 14 26 #[67, 67, 67, 67, 67, 67, 67, 69, 69, 69, 67, 69, 67], 67) := by decide +kernel
theorem d_X10_isStep_68 : decode (D_X10_isStep).2.1 68 = .ok (.iconst 1, 1) := by decide +kernel
theorem d_X10_isStep_69 : decode (D_X10_isStep).2.1 69 = .ok (.ireturn, 1) := by decide +kernel
theorem d_X10_isStep_70 : decode (D_X10_isStep).2.1 70 = .ok (.iconst 0, 1) := by decide +kernel
theorem d_X10_isStep_71 : decode (D_X10_isStep).2.1 71 = .ok (.ireturn, 1) := by decide +kernel
def f_X10_isStep (n : Nat) (x0 : Int) (M : JMem) : Option (Int × JMem) := if jw x0 = 14 then (some (1, M)) else (if jw x0 = 15 then (some (1, M)) else (if jw x0 = 16 then (some (1, M)) else (if jw x0 = 17 then (some (1, M)) else (if jw x0 = 18 then (some (1, M)) else (if jw x0 = 19 then (some (1, M)) else (if jw x0 = 20 then (some (1, M)) else (if jw x0 = 24 then (some (1, M)) else (if jw x0 = 26 then (some (1, M)) else (some (0, M))))))))))
set_option maxRecDepth 4000 in
theorem t_X10_isStep {g : JG} {ad : Nat → Nat} (hs : jStr g ad) (n : Nat) (x0 : Int) (M : JMem) : jB g D_X10_isStep ad 0 [some (ji x0)] [] M (f_X10_isStep n x0 M) := by
  unfold f_X10_isStep
  refine jo_iload 0 d_X10_isStep_0 rfl rfl ?_
  refine jo_if (fun c1_14 => ?_) (fun c1_14 => ?_)
  · skip
    refine jo_tabIn 68 d_X10_isStep_1 14 c1_14 (by decide) (by decide) rfl (by decide) ?_
    refine jo_iconst 1 d_X10_isStep_68 ?_
    exact jo_zret rfl (by decide) d_X10_isStep_69
  refine jo_if (fun c1_15 => ?_) (fun c1_15 => ?_)
  · skip
    refine jo_tabIn 68 d_X10_isStep_1 15 c1_15 (by decide) (by decide) rfl (by decide) ?_
    refine jo_iconst 1 d_X10_isStep_68 ?_
    exact jo_zret rfl (by decide) d_X10_isStep_69
  refine jo_if (fun c1_16 => ?_) (fun c1_16 => ?_)
  · skip
    refine jo_tabIn 68 d_X10_isStep_1 16 c1_16 (by decide) (by decide) rfl (by decide) ?_
    refine jo_iconst 1 d_X10_isStep_68 ?_
    exact jo_zret rfl (by decide) d_X10_isStep_69
  refine jo_if (fun c1_17 => ?_) (fun c1_17 => ?_)
  · skip
    refine jo_tabIn 68 d_X10_isStep_1 17 c1_17 (by decide) (by decide) rfl (by decide) ?_
    refine jo_iconst 1 d_X10_isStep_68 ?_
    exact jo_zret rfl (by decide) d_X10_isStep_69
  refine jo_if (fun c1_18 => ?_) (fun c1_18 => ?_)
  · skip
    refine jo_tabIn 68 d_X10_isStep_1 18 c1_18 (by decide) (by decide) rfl (by decide) ?_
    refine jo_iconst 1 d_X10_isStep_68 ?_
    exact jo_zret rfl (by decide) d_X10_isStep_69
  refine jo_if (fun c1_19 => ?_) (fun c1_19 => ?_)
  · skip
    refine jo_tabIn 68 d_X10_isStep_1 19 c1_19 (by decide) (by decide) rfl (by decide) ?_
    refine jo_iconst 1 d_X10_isStep_68 ?_
    exact jo_zret rfl (by decide) d_X10_isStep_69
  refine jo_if (fun c1_20 => ?_) (fun c1_20 => ?_)
  · skip
    refine jo_tabIn 68 d_X10_isStep_1 20 c1_20 (by decide) (by decide) rfl (by decide) ?_
    refine jo_iconst 1 d_X10_isStep_68 ?_
    exact jo_zret rfl (by decide) d_X10_isStep_69
  refine jo_if (fun c1_24 => ?_) (fun c1_24 => ?_)
  · skip
    refine jo_tabIn 68 d_X10_isStep_1 24 c1_24 (by decide) (by decide) rfl (by decide) ?_
    refine jo_iconst 1 d_X10_isStep_68 ?_
    exact jo_zret rfl (by decide) d_X10_isStep_69
  refine jo_if (fun c1_26 => ?_) (fun c1_26 => ?_)
  · skip
    refine jo_tabIn 68 d_X10_isStep_1 26 c1_26 (by decide) (by decide) rfl (by decide) ?_
    refine jo_iconst 1 d_X10_isStep_68 ?_
    exact jo_zret rfl (by decide) d_X10_isStep_69
  refine jo_tabAny 70 d_X10_isStep_1 (by rcases (show (jw x0 < 14 ∨ 26 < jw x0) ∨ jw x0 = 21 ∨ jw x0 = 22 ∨ jw x0 = 23 ∨ jw x0 = 25 by omega) with h | h | h | h | h; exact Or.inl h; exact Or.inr ⟨21, h, by decide, by decide, rfl⟩; exact Or.inr ⟨22, h, by decide, by decide, rfl⟩; exact Or.inr ⟨23, h, by decide, by decide, rfl⟩; exact Or.inr ⟨25, h, by decide, by decide, rfl⟩) (by decide) ?_
  refine jo_iconst 0 d_X10_isStep_70 ?_
  exact jo_zret rfl (by decide) d_X10_isStep_71
theorem m_X10_isStep {g : JG} {ad : Nat → Nat} (hs : jStr g ad) (n : Nat) (x0 : Int) (M : JMem) : jMet g jNN ad jR D_X10_isStep yX10_isStep [ji x0] M (f_X10_isStep n x0 M) :=
  jMet.of (lo0 := [some (ji x0)]) (by decide) rfl rfl (Nat.le_of_ble_eq_true rfl) (And.intro rfl True.intro) (t_X10_isStep hs n x0 M)
/-! CageLeave$WeeksReader.mayBegin(I)Z -/
def D_X10_mayBegin : JD := (RX10, cX10_mayBegin, 3, some .boolean, "mayBegin", { frames := 1, cells := 0, slots := 0, locals := 21 })
theorem ok_X10_mayBegin : jOk D_X10_mayBegin yX10_mayBegin 1 := ⟨jTW_mem (k := 920) (by decide +kernel) rfl, jTW_mem (k := 145) (by decide +kernel) rfl, ⟨by decide +kernel, by decide +kernel⟩, by decide +kernel, rfl, rfl⟩
theorem in_X10_mayBegin : Cond.instanceMethod yX10_mayBegin ∈ jTW := jTW_mem (k := 919) (by decide +kernel) rfl
theorem se_X10_mayBegin : Cond.selects yX10_mayBegin.cls yX10_mayBegin yX10_mayBegin ∈ jTW := jTW_mem (k := 16) (by decide +kernel) rfl
theorem lm_X10_100 : Cond.methodLink RX10 100 yX10_isStep ∈ jTW := jTW_mem (k := 921) (by decide +kernel) rfl
theorem lk_X10_86 : Cond.fieldLink RX10 86 (TX9 1).1 (TX9 1).2.1 (TX9 1).2.2.1 ∈ jTW := jTW_mem (k := 485) (by decide +kernel) rfl
theorem lm_X10_63 : Cond.methodLink RX10 63 yX6_fail ∈ jTW := jTW_mem (k := 906) (by decide +kernel) rfl
theorem lk_X10_42 : Cond.fieldLink RX10 42 (TX6 2).1 (TX6 2).2.1 (TX6 2).2.2.1 ∈ jTW := jTW_mem (k := 247) (by decide +kernel) rfl
theorem lk_X10_69 : Cond.fieldLink RX10 69 (TX9 2).1 (TX9 2).2.1 (TX9 2).2.2.1 ∈ jTW := jTW_mem (k := 489) (by decide +kernel) rfl
theorem d_X10_mayBegin_0 : decode (D_X10_mayBegin).2.1 0 = .ok (.iload_n 1, 1) := by decide +kernel
theorem d_X10_mayBegin_1 : decode (D_X10_mayBegin).2.1 1 = .ok (.bipush 20, 2) := by decide +kernel
theorem d_X10_mayBegin_3 : decode (D_X10_mayBegin).2.1 3 = .ok (.if_icmp .eq 9, 3) := by decide +kernel
theorem d_X10_mayBegin_6 : decode (D_X10_mayBegin).2.1 6 = .ok (.iload_n 1, 1) := by decide +kernel
theorem d_X10_mayBegin_7 : decode (D_X10_mayBegin).2.1 7 = .ok (.bipush 24, 2) := by decide +kernel
theorem d_X10_mayBegin_9 : decode (D_X10_mayBegin).2.1 9 = .ok (.if_icmp .ne 7, 3) := by decide +kernel
theorem d_X10_mayBegin_12 : decode (D_X10_mayBegin).2.1 12 = .ok (.iconst 1, 1) := by decide +kernel
theorem d_X10_mayBegin_13 : decode (D_X10_mayBegin).2.1 13 = .ok (.goto 4, 3) := by decide +kernel
theorem d_X10_mayBegin_16 : decode (D_X10_mayBegin).2.1 16 = .ok (.iconst 0, 1) := by decide +kernel
theorem d_X10_mayBegin_17 : decode (D_X10_mayBegin).2.1 17 = .ok (.istore_n 2, 1) := by decide +kernel
theorem d_X10_mayBegin_18 : decode (D_X10_mayBegin).2.1 18 = .ok (.iload_n 1, 1) := by decide +kernel
theorem d_X10_mayBegin_19 : decode (D_X10_mayBegin).2.1 19 = .ok (.invokestatic 100, 3) := by decide +kernel
theorem d_X10_mayBegin_22 : decode (D_X10_mayBegin).2.1 22 = .ok (.ifCond .ne 14, 3) := by decide +kernel
theorem d_X10_mayBegin_25 : decode (D_X10_mayBegin).2.1 25 = .ok (.aload_n 0, 1) := by decide +kernel
theorem d_X10_mayBegin_26 : decode (D_X10_mayBegin).2.1 26 = .ok (.getfield 26, 3) := by decide +kernel
theorem d_X10_mayBegin_29 : decode (D_X10_mayBegin).2.1 29 = .ok (.iconst 2, 1) := by decide +kernel
theorem d_X10_mayBegin_30 : decode (D_X10_mayBegin).2.1 30 = .ok (.invokevirtual 63, 3) := by decide +kernel
theorem d_X10_mayBegin_33 : decode (D_X10_mayBegin).2.1 33 = .ok (.goto 81, 3) := by decide +kernel
theorem d_X10_mayBegin_36 : decode (D_X10_mayBegin).2.1 36 = .ok (.aload_n 0, 1) := by decide +kernel
theorem d_X10_mayBegin_37 : decode (D_X10_mayBegin).2.1 37 = .ok (.getfield 12, 3) := by decide +kernel
theorem d_X10_mayBegin_40 : decode (D_X10_mayBegin).2.1 40 = .ok (.getfield 86, 3) := by decide +kernel
theorem d_X10_mayBegin_43 : decode (D_X10_mayBegin).2.1 43 = .ok (.bipush 30, 2) := by decide +kernel
theorem d_X10_mayBegin_45 : decode (D_X10_mayBegin).2.1 45 = .ok (.if_icmp .lt 15, 3) := by decide +kernel
theorem d_X10_mayBegin_48 : decode (D_X10_mayBegin).2.1 48 = .ok (.aload_n 0, 1) := by decide +kernel
theorem d_X10_mayBegin_49 : decode (D_X10_mayBegin).2.1 49 = .ok (.getfield 26, 3) := by decide +kernel
theorem d_X10_mayBegin_52 : decode (D_X10_mayBegin).2.1 52 = .ok (.bipush 6, 2) := by decide +kernel
theorem d_X10_mayBegin_54 : decode (D_X10_mayBegin).2.1 54 = .ok (.invokevirtual 63, 3) := by decide +kernel
theorem d_X10_mayBegin_57 : decode (D_X10_mayBegin).2.1 57 = .ok (.goto 57, 3) := by decide +kernel
theorem d_X10_mayBegin_60 : decode (D_X10_mayBegin).2.1 60 = .ok (.iload_n 2, 1) := by decide +kernel
theorem d_X10_mayBegin_61 : decode (D_X10_mayBegin).2.1 61 = .ok (.ifCond .eq 23, 3) := by decide +kernel
theorem d_X10_mayBegin_64 : decode (D_X10_mayBegin).2.1 64 = .ok (.aload_n 0, 1) := by decide +kernel
theorem d_X10_mayBegin_65 : decode (D_X10_mayBegin).2.1 65 = .ok (.getfield 22, 3) := by decide +kernel
theorem d_X10_mayBegin_68 : decode (D_X10_mayBegin).2.1 68 = .ok (.iconst 3, 1) := by decide +kernel
theorem d_X10_mayBegin_69 : decode (D_X10_mayBegin).2.1 69 = .ok (.if_icmp .lt 15, 3) := by decide +kernel
theorem d_X10_mayBegin_72 : decode (D_X10_mayBegin).2.1 72 = .ok (.aload_n 0, 1) := by decide +kernel
theorem d_X10_mayBegin_73 : decode (D_X10_mayBegin).2.1 73 = .ok (.getfield 26, 3) := by decide +kernel
theorem d_X10_mayBegin_76 : decode (D_X10_mayBegin).2.1 76 = .ok (.bipush 7, 2) := by decide +kernel
theorem d_X10_mayBegin_78 : decode (D_X10_mayBegin).2.1 78 = .ok (.invokevirtual 63, 3) := by decide +kernel
theorem d_X10_mayBegin_81 : decode (D_X10_mayBegin).2.1 81 = .ok (.goto 33, 3) := by decide +kernel
theorem d_X10_mayBegin_84 : decode (D_X10_mayBegin).2.1 84 = .ok (.iload_n 2, 1) := by decide +kernel
theorem d_X10_mayBegin_85 : decode (D_X10_mayBegin).2.1 85 = .ok (.ifCond .eq 29, 3) := by decide +kernel
theorem d_X10_mayBegin_88 : decode (D_X10_mayBegin).2.1 88 = .ok (.aload_n 0, 1) := by decide +kernel
theorem d_X10_mayBegin_89 : decode (D_X10_mayBegin).2.1 89 = .ok (.getfield 18, 3) := by decide +kernel
theorem d_X10_mayBegin_92 : decode (D_X10_mayBegin).2.1 92 = .ok (.aload_n 0, 1) := by decide +kernel
theorem d_X10_mayBegin_93 : decode (D_X10_mayBegin).2.1 93 = .ok (.getfield 22, 3) := by decide +kernel
theorem d_X10_mayBegin_96 : decode (D_X10_mayBegin).2.1 96 = .ok (.aload_n 0, 1) := by decide +kernel
theorem d_X10_mayBegin_97 : decode (D_X10_mayBegin).2.1 97 = .ok (.getfield 12, 3) := by decide +kernel
theorem d_X10_mayBegin_100 : decode (D_X10_mayBegin).2.1 100 = .ok (.getfield 69, 3) := by decide +kernel
theorem d_X10_mayBegin_103 : decode (D_X10_mayBegin).2.1 103 = .ok (.iastore, 1) := by decide +kernel
theorem d_X10_mayBegin_104 : decode (D_X10_mayBegin).2.1 104 = .ok (.aload_n 0, 1) := by decide +kernel
theorem d_X10_mayBegin_105 : decode (D_X10_mayBegin).2.1 105 = .ok (.dup, 1) := by decide +kernel
theorem d_X10_mayBegin_106 : decode (D_X10_mayBegin).2.1 106 = .ok (.getfield 22, 3) := by decide +kernel
theorem d_X10_mayBegin_109 : decode (D_X10_mayBegin).2.1 109 = .ok (.iconst 1, 1) := by decide +kernel
theorem d_X10_mayBegin_110 : decode (D_X10_mayBegin).2.1 110 = .ok (.iadd, 1) := by decide +kernel
theorem d_X10_mayBegin_111 : decode (D_X10_mayBegin).2.1 111 = .ok (.putfield 22, 3) := by decide +kernel
theorem d_X10_mayBegin_114 : decode (D_X10_mayBegin).2.1 114 = .ok (.aload_n 0, 1) := by decide +kernel
theorem d_X10_mayBegin_115 : decode (D_X10_mayBegin).2.1 115 = .ok (.getfield 26, 3) := by decide +kernel
theorem d_X10_mayBegin_118 : decode (D_X10_mayBegin).2.1 118 = .ok (.getfield 42, 3) := by decide +kernel
theorem d_X10_mayBegin_121 : decode (D_X10_mayBegin).2.1 121 = .ok (.ifCond .ne 7, 3) := by decide +kernel
theorem d_X10_mayBegin_124 : decode (D_X10_mayBegin).2.1 124 = .ok (.iconst 1, 1) := by decide +kernel
theorem d_X10_mayBegin_125 : decode (D_X10_mayBegin).2.1 125 = .ok (.goto 4, 3) := by decide +kernel
theorem d_X10_mayBegin_128 : decode (D_X10_mayBegin).2.1 128 = .ok (.iconst 0, 1) := by decide +kernel
theorem d_X10_mayBegin_129 : decode (D_X10_mayBegin).2.1 129 = .ok (.ireturn, 1) := by decide +kernel
def f_X10_mayBegin_L114 (n : Nat) (M : JMem) : Option (Int × JMem) := if jw (M 9 2) = 0 then (some (1, M)) else (some (0, M))
set_option maxRecDepth 4000 in
theorem t_X10_mayBegin_L114 {g : JG} {ad : Nat → Nat} (hs : jStr g ad) (n : Nat) (M : JMem) : jB g D_X10_mayBegin ad 114 [some (.ref 33), none, none] [] M (f_X10_mayBegin_L114 n M) := by
  unfold f_X10_mayBegin_L114
  refine jo_aload 0 d_X10_mayBegin_114 rfl rfl ?_
  refine jo_getR (k := 0) cl_10 (Nat.le_of_ble_eq_true rfl) lk_X10_26 rfl kc_33 kr_33_0 d_X10_mayBegin_115 ?_
  refine jo_getI (k := 2) cl_6 (Nat.le_of_ble_eq_true rfl) lk_X10_42 (Or.inl rfl) kc_9 d_X10_mayBegin_118 ?_
  refine jo_if_ne 128 d_X10_mayBegin_121 (by decide) ?_ ?_
  · skip
    refine jo_iconst 0 d_X10_mayBegin_128 ?_
    exact jo_zret rfl (by decide) d_X10_mayBegin_129
  · skip
    refine jo_iconst 1 d_X10_mayBegin_124 ?_
    refine jo_goto 129 d_X10_mayBegin_125 (by decide) ?_
    exact jo_zret rfl (by decide) d_X10_mayBegin_129
def f_X10_mayBegin_L84 (n : Nat) (v2 : Int) (M : JMem) : Option (Int × JMem) := if jw v2 = 0 then (f_X10_mayBegin_L114 n M) else (chk (jin (M 33 3) 3) <| letm (jup M 39 (jw (M 33 3)).toNat (M 34 2)) fun M1 => letm (jup M1 33 3 ((M1 33 3) + 1)) fun M2 => f_X10_mayBegin_L114 n M2)
set_option maxRecDepth 4000 in
theorem t_X10_mayBegin_L84 {g : JG} {ad : Nat → Nat} (hs : jStr g ad) (n : Nat) (v2 : Int) (M : JMem) : jB g D_X10_mayBegin ad 84 [some (.ref 33), none, some (ji v2)] [] M (f_X10_mayBegin_L84 n v2 M) := by
  unfold f_X10_mayBegin_L84
  refine jo_iload 2 d_X10_mayBegin_84 rfl rfl ?_
  refine jo_if_eq 114 d_X10_mayBegin_85 (by decide) ?_ ?_
  · skip
    exact jO.sub (t_X10_mayBegin_L114 hs n M) (And.intro rfl True.intro)
  · skip
    refine jo_aload 0 d_X10_mayBegin_88 rfl rfl ?_
    refine jo_getR (k := 2) cl_10 (Nat.le_of_ble_eq_true rfl) lk_X10_18 rfl kc_33 kr_33_2 d_X10_mayBegin_89 ?_
    refine jo_aload 0 d_X10_mayBegin_92 rfl rfl ?_
    refine jo_getI (k := 3) cl_10 (Nat.le_of_ble_eq_true rfl) lk_X10_22 (Or.inl rfl) kc_33 d_X10_mayBegin_93 ?_
    refine jo_aload 0 d_X10_mayBegin_96 rfl rfl ?_
    refine jo_getR (k := 1) cl_10 (Nat.le_of_ble_eq_true rfl) lk_X10_12 rfl kc_33 kr_33_1 d_X10_mayBegin_97 ?_
    refine jo_getI (k := 2) cl_9 (Nat.le_of_ble_eq_true rfl) lk_X10_69 (Or.inl rfl) kc_34 d_X10_mayBegin_100 ?_
    refine jo_iast (N := 3) kc_39 d_X10_mayBegin_103 (fun M1 => ?_)
    refine jo_aload 0 d_X10_mayBegin_104 rfl rfl ?_
    refine jo_dup d_X10_mayBegin_105 rfl ?_
    refine jo_getI (k := 3) cl_10 (Nat.le_of_ble_eq_true rfl) lk_X10_22 (Or.inl rfl) kc_33 d_X10_mayBegin_106 ?_
    refine jo_iconst 1 d_X10_mayBegin_109 ?_
    refine jo_iadd d_X10_mayBegin_110 ?_
    refine jo_putI (k := 3) cl_10 (Nat.le_of_ble_eq_true rfl) lk_X10_22 rfl rfl kc_33 d_X10_mayBegin_111 (fun M2 => ?_)
    exact jO.sub (t_X10_mayBegin_L114 hs n M2) (And.intro rfl True.intro)
def f_X10_mayBegin_L17 (n : Nat) (v1 w0 : Int) (M : JMem) : Option (Int × JMem) := letv w0 fun y1 => bnd (f_X10_isStep n v1 M) fun r2 M3 => if jw r2 = 0 then (bnd (f_X6_fail n 2 M3) fun _ M9 => f_X10_mayBegin_L114 n M9) else (if jw (M3 34 1) < jw 30 then (if jw y1 = 0 then (f_X10_mayBegin_L84 n y1 M3) else (if jw (M3 33 3) < jw 3 then (f_X10_mayBegin_L84 n y1 M3) else (bnd (f_X6_fail n 7 M3) fun _ M5 => f_X10_mayBegin_L114 n M5))) else (bnd (f_X6_fail n 6 M3) fun _ M7 => f_X10_mayBegin_L114 n M7))
set_option maxRecDepth 4000 in
theorem t_X10_mayBegin_L17 {g : JG} {ad : Nat → Nat} (hs : jStr g ad) (n : Nat) (v1 w0 : Int) (M : JMem) : jB g D_X10_mayBegin ad 17 [some (.ref 33), some (ji v1), none] [ji w0] M (f_X10_mayBegin_L17 n v1 w0 M) := by
  unfold f_X10_mayBegin_L17
  refine jo_istore 2 d_X10_mayBegin_17 rfl (Nat.le_of_ble_eq_true rfl) (fun y1 => ?_)
  refine jo_iload 1 d_X10_mayBegin_18 rfl rfl ?_
  refine jo_callS (st := []) (m_X10_isStep hs n v1 M) ok_X10_isStep (And.intro (Nat.le_of_ble_eq_true rfl) (Nat.le_of_ble_eq_true rfl)) lm_X10_100 st_X10_isStep rfl (And.intro (Nat.zero_le _) (Nat.zero_le _)) rfl (Nat.le_of_ble_eq_true rfl) d_X10_mayBegin_19 (fun r2 M3 => ?_)
  refine jo_if_ne 36 d_X10_mayBegin_22 (by decide) ?_ ?_
  · skip
    refine jo_aload 0 d_X10_mayBegin_36 rfl rfl ?_
    refine jo_getR (k := 1) cl_10 (Nat.le_of_ble_eq_true rfl) lk_X10_12 rfl kc_33 kr_33_1 d_X10_mayBegin_37 ?_
    refine jo_getI (k := 1) cl_9 (Nat.le_of_ble_eq_true rfl) lk_X10_86 (Or.inl rfl) kc_34 d_X10_mayBegin_40 ?_
    refine jo_bipush 30 d_X10_mayBegin_43 (by decide) ?_
    refine jo_icmp_lt 60 d_X10_mayBegin_45 (by decide) ?_ ?_
    · skip
      refine jo_iload 2 d_X10_mayBegin_60 rfl rfl ?_
      refine jo_if_eq 84 d_X10_mayBegin_61 (by decide) ?_ ?_
      · skip
        exact jO.sub (t_X10_mayBegin_L84 hs n y1 M3) (And.intro rfl (And.intro rfl True.intro))
      · skip
        refine jo_aload 0 d_X10_mayBegin_64 rfl rfl ?_
        refine jo_getI (k := 3) cl_10 (Nat.le_of_ble_eq_true rfl) lk_X10_22 (Or.inl rfl) kc_33 d_X10_mayBegin_65 ?_
        refine jo_iconst 3 d_X10_mayBegin_68 ?_
        refine jo_icmp_lt 84 d_X10_mayBegin_69 (by decide) ?_ ?_
        · skip
          exact jO.sub (t_X10_mayBegin_L84 hs n y1 M3) (And.intro rfl (And.intro rfl True.intro))
        · skip
          refine jo_aload 0 d_X10_mayBegin_72 rfl rfl ?_
          refine jo_getR (k := 0) cl_10 (Nat.le_of_ble_eq_true rfl) lk_X10_26 rfl kc_33 kr_33_0 d_X10_mayBegin_73 ?_
          refine jo_bipush 7 d_X10_mayBegin_76 (by decide) ?_
          refine jo_callV (st := []) (m_X6_fail hs n 7 M3) ok_X6_fail (And.intro (Nat.le_of_ble_eq_true rfl) (Nat.le_of_ble_eq_true rfl)) lm_X10_63 in_X6_fail se_X6_fail rfl kc_9 rfl rfl (And.intro (Nat.zero_le _) (Nat.zero_le _)) rfl (Nat.le_of_ble_eq_true rfl) d_X10_mayBegin_78 (fun _ M5 => ?_)
          refine jo_goto 114 d_X10_mayBegin_81 (by decide) ?_
          exact jO.sub (t_X10_mayBegin_L114 hs n M5) (And.intro rfl True.intro)
    · skip
      refine jo_aload 0 d_X10_mayBegin_48 rfl rfl ?_
      refine jo_getR (k := 0) cl_10 (Nat.le_of_ble_eq_true rfl) lk_X10_26 rfl kc_33 kr_33_0 d_X10_mayBegin_49 ?_
      refine jo_bipush 6 d_X10_mayBegin_52 (by decide) ?_
      refine jo_callV (st := []) (m_X6_fail hs n 6 M3) ok_X6_fail (And.intro (Nat.le_of_ble_eq_true rfl) (Nat.le_of_ble_eq_true rfl)) lm_X10_63 in_X6_fail se_X6_fail rfl kc_9 rfl rfl (And.intro (Nat.zero_le _) (Nat.zero_le _)) rfl (Nat.le_of_ble_eq_true rfl) d_X10_mayBegin_54 (fun _ M7 => ?_)
      refine jo_goto 114 d_X10_mayBegin_57 (by decide) ?_
      exact jO.sub (t_X10_mayBegin_L114 hs n M7) (And.intro rfl True.intro)
  · skip
    refine jo_aload 0 d_X10_mayBegin_25 rfl rfl ?_
    refine jo_getR (k := 0) cl_10 (Nat.le_of_ble_eq_true rfl) lk_X10_26 rfl kc_33 kr_33_0 d_X10_mayBegin_26 ?_
    refine jo_iconst 2 d_X10_mayBegin_29 ?_
    refine jo_callV (st := []) (m_X6_fail hs n 2 M3) ok_X6_fail (And.intro (Nat.le_of_ble_eq_true rfl) (Nat.le_of_ble_eq_true rfl)) lm_X10_63 in_X6_fail se_X6_fail rfl kc_9 rfl rfl (And.intro (Nat.zero_le _) (Nat.zero_le _)) rfl (Nat.le_of_ble_eq_true rfl) d_X10_mayBegin_30 (fun _ M9 => ?_)
    refine jo_goto 114 d_X10_mayBegin_33 (by decide) ?_
    exact jO.sub (t_X10_mayBegin_L114 hs n M9) (And.intro rfl True.intro)
def f_X10_mayBegin_L12 (n : Nat) (v1 : Int) (M : JMem) : Option (Int × JMem) := f_X10_mayBegin_L17 n v1 1 M
set_option maxRecDepth 4000 in
theorem t_X10_mayBegin_L12 {g : JG} {ad : Nat → Nat} (hs : jStr g ad) (n : Nat) (v1 : Int) (M : JMem) : jB g D_X10_mayBegin ad 12 [some (.ref 33), some (ji v1), none] [] M (f_X10_mayBegin_L12 n v1 M) := by
  unfold f_X10_mayBegin_L12
  refine jo_iconst 1 d_X10_mayBegin_12 ?_
  refine jo_goto 17 d_X10_mayBegin_13 (by decide) ?_
  exact jO.sub (t_X10_mayBegin_L17 hs n v1 1 M) (And.intro rfl (And.intro rfl True.intro))
def f_X10_mayBegin (n : Nat) (x1 : Int) (M : JMem) : Option (Int × JMem) := if jw x1 = jw 20 then (f_X10_mayBegin_L12 n x1 M) else (if jw x1 = jw 24 then (f_X10_mayBegin_L12 n x1 M) else (f_X10_mayBegin_L17 n x1 0 M))
set_option maxRecDepth 4000 in
theorem t_X10_mayBegin {g : JG} {ad : Nat → Nat} (hs : jStr g ad) (n : Nat) (x1 : Int) (M : JMem) : jB g D_X10_mayBegin ad 0 [some (.ref 33), some (ji x1), none] [] M (f_X10_mayBegin n x1 M) := by
  unfold f_X10_mayBegin
  refine jo_iload 1 d_X10_mayBegin_0 rfl rfl ?_
  refine jo_bipush 20 d_X10_mayBegin_1 (by decide) ?_
  refine jo_icmp_eq 12 d_X10_mayBegin_3 (by decide) ?_ ?_
  · skip
    exact jO.sub (t_X10_mayBegin_L12 hs n x1 M) (And.intro rfl (And.intro rfl True.intro))
  · skip
    refine jo_iload 1 d_X10_mayBegin_6 rfl rfl ?_
    refine jo_bipush 24 d_X10_mayBegin_7 (by decide) ?_
    refine jo_icmp_ne 16 d_X10_mayBegin_9 (by decide) ?_ ?_
    · skip
      refine jo_iconst 0 d_X10_mayBegin_16 ?_
      exact jO.sub (t_X10_mayBegin_L17 hs n x1 0 M) (And.intro rfl (And.intro rfl True.intro))
    · skip
      exact jO.sub (t_X10_mayBegin_L12 hs n x1 M) (And.intro rfl (And.intro rfl True.intro))
theorem m_X10_mayBegin {g : JG} {ad : Nat → Nat} (hs : jStr g ad) (n : Nat) (x1 : Int) (M : JMem) : jMet g jNN ad jR D_X10_mayBegin yX10_mayBegin [.ref 33, ji x1] M (f_X10_mayBegin n x1 M) :=
  jMet.of (lo0 := [some (.ref 33), some (ji x1), none]) (by decide) rfl rfl (Nat.le_of_ble_eq_true rfl) (And.intro rfl (And.intro rfl True.intro)) (t_X10_mayBegin hs n x1 M)
/-! CageLeave$WeeksReader.takeEnd()V -/
def D_X10_takeEnd : JD := (RX10, cX10_takeEnd, 2, none, "takeEnd", { frames := 3, cells := 0, slots := 0, locals := 66 })
theorem ok_X10_takeEnd : jOk D_X10_takeEnd yX10_takeEnd 0 := ⟨jTW_mem (k := 905) (by decide +kernel) rfl, jTW_mem (k := 145) (by decide +kernel) rfl, ⟨by decide +kernel, by decide +kernel⟩, by decide +kernel, rfl, rfl⟩
theorem in_X10_takeEnd : Cond.instanceMethod yX10_takeEnd ∈ jTW := jTW_mem (k := 904) (by decide +kernel) rfl
theorem se_X10_takeEnd : Cond.selects yX10_takeEnd.cls yX10_takeEnd yX10_takeEnd ∈ jTW := jTW_mem (k := 14) (by decide +kernel) rfl
theorem lm_X10_76 : Cond.methodLink RX10 76 yX6_advance ∈ jTW := jTW_mem (k := 911) (by decide +kernel) rfl
theorem lk_X10_66 : Cond.fieldLink RX10 66 (TX9 6).1 (TX9 6).2.1 (TX9 6).2.2.1 ∈ jTW := jTW_mem (k := 498) (by decide +kernel) rfl
theorem lm_X10_72 : Cond.methodLink RX10 72 yX9_add ∈ jTW := jTW_mem (k := 907) (by decide +kernel) rfl
theorem d_X10_takeEnd_0 : decode (D_X10_takeEnd).2.1 0 = .ok (.aload_n 0, 1) := by decide +kernel
theorem d_X10_takeEnd_1 : decode (D_X10_takeEnd).2.1 1 = .ok (.getfield 22, 3) := by decide +kernel
theorem d_X10_takeEnd_4 : decode (D_X10_takeEnd).2.1 4 = .ok (.ifCond .gt 12, 3) := by decide +kernel
theorem d_X10_takeEnd_7 : decode (D_X10_takeEnd).2.1 7 = .ok (.aload_n 0, 1) := by decide +kernel
theorem d_X10_takeEnd_8 : decode (D_X10_takeEnd).2.1 8 = .ok (.getfield 26, 3) := by decide +kernel
theorem d_X10_takeEnd_11 : decode (D_X10_takeEnd).2.1 11 = .ok (.iconst 2, 1) := by decide +kernel
theorem d_X10_takeEnd_12 : decode (D_X10_takeEnd).2.1 12 = .ok (.invokevirtual 63, 3) := by decide +kernel
theorem d_X10_takeEnd_15 : decode (D_X10_takeEnd).2.1 15 = .ok (.return_, 1) := by decide +kernel
theorem d_X10_takeEnd_16 : decode (D_X10_takeEnd).2.1 16 = .ok (.aload_n 0, 1) := by decide +kernel
theorem d_X10_takeEnd_17 : decode (D_X10_takeEnd).2.1 17 = .ok (.dup, 1) := by decide +kernel
theorem d_X10_takeEnd_18 : decode (D_X10_takeEnd).2.1 18 = .ok (.getfield 22, 3) := by decide +kernel
theorem d_X10_takeEnd_21 : decode (D_X10_takeEnd).2.1 21 = .ok (.iconst 1, 1) := by decide +kernel
theorem d_X10_takeEnd_22 : decode (D_X10_takeEnd).2.1 22 = .ok (.isub, 1) := by decide +kernel
theorem d_X10_takeEnd_23 : decode (D_X10_takeEnd).2.1 23 = .ok (.putfield 22, 3) := by decide +kernel
theorem d_X10_takeEnd_26 : decode (D_X10_takeEnd).2.1 26 = .ok (.aload_n 0, 1) := by decide +kernel
theorem d_X10_takeEnd_27 : decode (D_X10_takeEnd).2.1 27 = .ok (.getfield 18, 3) := by decide +kernel
theorem d_X10_takeEnd_30 : decode (D_X10_takeEnd).2.1 30 = .ok (.aload_n 0, 1) := by decide +kernel
theorem d_X10_takeEnd_31 : decode (D_X10_takeEnd).2.1 31 = .ok (.getfield 22, 3) := by decide +kernel
theorem d_X10_takeEnd_34 : decode (D_X10_takeEnd).2.1 34 = .ok (.iaload, 1) := by decide +kernel
theorem d_X10_takeEnd_35 : decode (D_X10_takeEnd).2.1 35 = .ok (.istore_n 1, 1) := by decide +kernel
theorem d_X10_takeEnd_36 : decode (D_X10_takeEnd).2.1 36 = .ok (.aload_n 0, 1) := by decide +kernel
theorem d_X10_takeEnd_37 : decode (D_X10_takeEnd).2.1 37 = .ok (.getfield 12, 3) := by decide +kernel
theorem d_X10_takeEnd_40 : decode (D_X10_takeEnd).2.1 40 = .ok (.getfield 66, 3) := by decide +kernel
theorem d_X10_takeEnd_43 : decode (D_X10_takeEnd).2.1 43 = .ok (.iload_n 1, 1) := by decide +kernel
theorem d_X10_takeEnd_44 : decode (D_X10_takeEnd).2.1 44 = .ok (.aload_n 0, 1) := by decide +kernel
theorem d_X10_takeEnd_45 : decode (D_X10_takeEnd).2.1 45 = .ok (.getfield 12, 3) := by decide +kernel
theorem d_X10_takeEnd_48 : decode (D_X10_takeEnd).2.1 48 = .ok (.getfield 69, 3) := by decide +kernel
theorem d_X10_takeEnd_51 : decode (D_X10_takeEnd).2.1 51 = .ok (.iastore, 1) := by decide +kernel
theorem d_X10_takeEnd_52 : decode (D_X10_takeEnd).2.1 52 = .ok (.aload_n 0, 1) := by decide +kernel
theorem d_X10_takeEnd_53 : decode (D_X10_takeEnd).2.1 53 = .ok (.getfield 12, 3) := by decide +kernel
theorem d_X10_takeEnd_56 : decode (D_X10_takeEnd).2.1 56 = .ok (.bipush 25, 2) := by decide +kernel
theorem d_X10_takeEnd_58 : decode (D_X10_takeEnd).2.1 58 = .ok (.iconst 0, 1) := by decide +kernel
theorem d_X10_takeEnd_59 : decode (D_X10_takeEnd).2.1 59 = .ok (.iconst 0, 1) := by decide +kernel
theorem d_X10_takeEnd_60 : decode (D_X10_takeEnd).2.1 60 = .ok (.invokevirtual 72, 3) := by decide +kernel
theorem d_X10_takeEnd_63 : decode (D_X10_takeEnd).2.1 63 = .ok (.aload_n 0, 1) := by decide +kernel
theorem d_X10_takeEnd_64 : decode (D_X10_takeEnd).2.1 64 = .ok (.getfield 12, 3) := by decide +kernel
theorem d_X10_takeEnd_67 : decode (D_X10_takeEnd).2.1 67 = .ok (.getfield 69, 3) := by decide +kernel
theorem d_X10_takeEnd_70 : decode (D_X10_takeEnd).2.1 70 = .ok (.ifCond .le 21, 3) := by decide +kernel
theorem d_X10_takeEnd_73 : decode (D_X10_takeEnd).2.1 73 = .ok (.aload_n 0, 1) := by decide +kernel
theorem d_X10_takeEnd_74 : decode (D_X10_takeEnd).2.1 74 = .ok (.getfield 12, 3) := by decide +kernel
theorem d_X10_takeEnd_77 : decode (D_X10_takeEnd).2.1 77 = .ok (.getfield 66, 3) := by decide +kernel
theorem d_X10_takeEnd_80 : decode (D_X10_takeEnd).2.1 80 = .ok (.aload_n 0, 1) := by decide +kernel
theorem d_X10_takeEnd_81 : decode (D_X10_takeEnd).2.1 81 = .ok (.getfield 12, 3) := by decide +kernel
theorem d_X10_takeEnd_84 : decode (D_X10_takeEnd).2.1 84 = .ok (.getfield 69, 3) := by decide +kernel
theorem d_X10_takeEnd_87 : decode (D_X10_takeEnd).2.1 87 = .ok (.iconst 1, 1) := by decide +kernel
theorem d_X10_takeEnd_88 : decode (D_X10_takeEnd).2.1 88 = .ok (.isub, 1) := by decide +kernel
theorem d_X10_takeEnd_89 : decode (D_X10_takeEnd).2.1 89 = .ok (.iload_n 1, 1) := by decide +kernel
theorem d_X10_takeEnd_90 : decode (D_X10_takeEnd).2.1 90 = .ok (.iastore, 1) := by decide +kernel
theorem d_X10_takeEnd_91 : decode (D_X10_takeEnd).2.1 91 = .ok (.aload_n 0, 1) := by decide +kernel
theorem d_X10_takeEnd_92 : decode (D_X10_takeEnd).2.1 92 = .ok (.getfield 26, 3) := by decide +kernel
theorem d_X10_takeEnd_95 : decode (D_X10_takeEnd).2.1 95 = .ok (.invokevirtual 76, 3) := by decide +kernel
theorem d_X10_takeEnd_98 : decode (D_X10_takeEnd).2.1 98 = .ok (.return_, 1) := by decide +kernel
def f_X10_takeEnd_L91 (n : Nat) (M : JMem) : Option (Int × JMem) := bnd (f_X6_advance n M) fun _ M2 => some (0, M2)
set_option maxRecDepth 4000 in
theorem t_X10_takeEnd_L91 {g : JG} {ad : Nat → Nat} (hs : jStr g ad) (n : Nat) (M : JMem) : jB g D_X10_takeEnd ad 91 [some (.ref 33), none] [] M (f_X10_takeEnd_L91 n M) := by
  unfold f_X10_takeEnd_L91
  refine jo_aload 0 d_X10_takeEnd_91 rfl rfl ?_
  refine jo_getR (k := 0) cl_10 (Nat.le_of_ble_eq_true rfl) lk_X10_26 rfl kc_33 kr_33_0 d_X10_takeEnd_92 ?_
  refine jo_callV (st := []) (m_X6_advance hs n M) ok_X6_advance (And.intro (Nat.le_of_ble_eq_true rfl) (Nat.le_of_ble_eq_true rfl)) lm_X10_76 in_X6_advance se_X6_advance rfl kc_9 rfl rfl (And.intro (Nat.zero_le _) (Nat.zero_le _)) rfl (Nat.le_of_ble_eq_true rfl) d_X10_takeEnd_95 (fun _ M2 => ?_)
  exact jo_vret rfl d_X10_takeEnd_98
def f_X10_takeEnd (n : Nat) (M : JMem) : Option (Int × JMem) := if 0 < jw (M 33 3) then (letm (jup M 33 3 ((M 33 3) - 1)) fun M1 => chk (jin (M1 33 3) 3) <| letv (M1 39 (jw (M1 33 3)).toNat) fun y2 => chk (jin y2 60) <| letm (jup M1 (34 + 4) (jw y2).toNat (M1 34 2)) fun M3 => bnd (f_X9_add n 34 25 0 0 M3) fun _ M5 => if jw (M5 34 2) ≤ 0 then (f_X10_takeEnd_L91 n M5) else (chk (jin ((M5 34 2) - 1) 60) <| letm (jup M5 (34 + 4) (jw ((M5 34 2) - 1)).toNat y2) fun M6 => f_X10_takeEnd_L91 n M6)) else (bnd (f_X6_fail n 2 M) fun _ M8 => some (0, M8))
set_option maxRecDepth 4000 in
theorem t_X10_takeEnd {g : JG} {ad : Nat → Nat} (hs : jStr g ad) (n : Nat) (M : JMem) : jB g D_X10_takeEnd ad 0 [some (.ref 33), none] [] M (f_X10_takeEnd n M) := by
  unfold f_X10_takeEnd
  refine jo_aload 0 d_X10_takeEnd_0 rfl rfl ?_
  refine jo_getI (k := 3) cl_10 (Nat.le_of_ble_eq_true rfl) lk_X10_22 (Or.inl rfl) kc_33 d_X10_takeEnd_1 ?_
  refine jo_if_gt 16 d_X10_takeEnd_4 (by decide) ?_ ?_
  · skip
    refine jo_aload 0 d_X10_takeEnd_16 rfl rfl ?_
    refine jo_dup d_X10_takeEnd_17 rfl ?_
    refine jo_getI (k := 3) cl_10 (Nat.le_of_ble_eq_true rfl) lk_X10_22 (Or.inl rfl) kc_33 d_X10_takeEnd_18 ?_
    refine jo_iconst 1 d_X10_takeEnd_21 ?_
    refine jo_isub d_X10_takeEnd_22 ?_
    refine jo_putI (k := 3) cl_10 (Nat.le_of_ble_eq_true rfl) lk_X10_22 rfl rfl kc_33 d_X10_takeEnd_23 (fun M1 => ?_)
    refine jo_aload 0 d_X10_takeEnd_26 rfl rfl ?_
    refine jo_getR (k := 2) cl_10 (Nat.le_of_ble_eq_true rfl) lk_X10_18 rfl kc_33 kr_33_2 d_X10_takeEnd_27 ?_
    refine jo_aload 0 d_X10_takeEnd_30 rfl rfl ?_
    refine jo_getI (k := 3) cl_10 (Nat.le_of_ble_eq_true rfl) lk_X10_22 (Or.inl rfl) kc_33 d_X10_takeEnd_31 ?_
    refine jo_iald (N := 3) kc_39 d_X10_takeEnd_34 ?_
    refine jo_istore 1 d_X10_takeEnd_35 rfl (Nat.le_of_ble_eq_true rfl) (fun y2 => ?_)
    refine jo_aload 0 d_X10_takeEnd_36 rfl rfl ?_
    refine jo_getR (k := 1) cl_10 (Nat.le_of_ble_eq_true rfl) lk_X10_12 rfl kc_33 kr_33_1 d_X10_takeEnd_37 ?_
    refine jo_getR (k := 6) cl_9 (Nat.le_of_ble_eq_true rfl) lk_X10_66 rfl kc_34 (kr_Weeks_6 kc_34) d_X10_takeEnd_40 ?_
    refine jo_iload 1 d_X10_takeEnd_43 rfl rfl ?_
    refine jo_aload 0 d_X10_takeEnd_44 rfl rfl ?_
    refine jo_getR (k := 1) cl_10 (Nat.le_of_ble_eq_true rfl) lk_X10_12 rfl kc_33 kr_33_1 d_X10_takeEnd_45 ?_
    refine jo_getI (k := 2) cl_9 (Nat.le_of_ble_eq_true rfl) lk_X10_69 (Or.inl rfl) kc_34 d_X10_takeEnd_48 ?_
    refine jo_iast (N := 60) (ka_Weeks_6 kc_34) d_X10_takeEnd_51 (fun M3 => ?_)
    refine jo_aload 0 d_X10_takeEnd_52 rfl rfl ?_
    refine jo_getR (k := 1) cl_10 (Nat.le_of_ble_eq_true rfl) lk_X10_12 rfl kc_33 kr_33_1 d_X10_takeEnd_53 ?_
    refine jo_bipush 25 d_X10_takeEnd_56 (by decide) ?_
    refine jo_iconst 0 d_X10_takeEnd_58 ?_
    refine jo_iconst 0 d_X10_takeEnd_59 ?_
    refine jo_callV (st := []) (m_X9_add hs n 34 25 0 0 kc_34 M3) ok_X9_add (And.intro (Nat.le_of_ble_eq_true rfl) (Nat.le_of_ble_eq_true rfl)) lm_X10_72 in_X9_add se_X9_add rfl kc_34 rfl rfl (And.intro (Nat.zero_le _) (Nat.zero_le _)) rfl (Nat.le_of_ble_eq_true rfl) d_X10_takeEnd_60 (fun _ M5 => ?_)
    refine jo_aload 0 d_X10_takeEnd_63 rfl rfl ?_
    refine jo_getR (k := 1) cl_10 (Nat.le_of_ble_eq_true rfl) lk_X10_12 rfl kc_33 kr_33_1 d_X10_takeEnd_64 ?_
    refine jo_getI (k := 2) cl_9 (Nat.le_of_ble_eq_true rfl) lk_X10_69 (Or.inl rfl) kc_34 d_X10_takeEnd_67 ?_
    refine jo_if_le 91 d_X10_takeEnd_70 (by decide) ?_ ?_
    · skip
      exact jO.sub (t_X10_takeEnd_L91 hs n M5) (And.intro rfl True.intro)
    · skip
      refine jo_aload 0 d_X10_takeEnd_73 rfl rfl ?_
      refine jo_getR (k := 1) cl_10 (Nat.le_of_ble_eq_true rfl) lk_X10_12 rfl kc_33 kr_33_1 d_X10_takeEnd_74 ?_
      refine jo_getR (k := 6) cl_9 (Nat.le_of_ble_eq_true rfl) lk_X10_66 rfl kc_34 (kr_Weeks_6 kc_34) d_X10_takeEnd_77 ?_
      refine jo_aload 0 d_X10_takeEnd_80 rfl rfl ?_
      refine jo_getR (k := 1) cl_10 (Nat.le_of_ble_eq_true rfl) lk_X10_12 rfl kc_33 kr_33_1 d_X10_takeEnd_81 ?_
      refine jo_getI (k := 2) cl_9 (Nat.le_of_ble_eq_true rfl) lk_X10_69 (Or.inl rfl) kc_34 d_X10_takeEnd_84 ?_
      refine jo_iconst 1 d_X10_takeEnd_87 ?_
      refine jo_isub d_X10_takeEnd_88 ?_
      refine jo_iload 1 d_X10_takeEnd_89 rfl rfl ?_
      refine jo_iast (N := 60) (ka_Weeks_6 kc_34) d_X10_takeEnd_90 (fun M6 => ?_)
      exact jO.sub (t_X10_takeEnd_L91 hs n M6) (And.intro rfl True.intro)
  · skip
    refine jo_aload 0 d_X10_takeEnd_7 rfl rfl ?_
    refine jo_getR (k := 0) cl_10 (Nat.le_of_ble_eq_true rfl) lk_X10_26 rfl kc_33 kr_33_0 d_X10_takeEnd_8 ?_
    refine jo_iconst 2 d_X10_takeEnd_11 ?_
    refine jo_callV (st := []) (m_X6_fail hs n 2 M) ok_X6_fail (And.intro (Nat.le_of_ble_eq_true rfl) (Nat.le_of_ble_eq_true rfl)) lm_X10_63 in_X6_fail se_X6_fail rfl kc_9 rfl rfl (And.intro (Nat.zero_le _) (Nat.zero_le _)) rfl (Nat.le_of_ble_eq_true rfl) d_X10_takeEnd_12 (fun _ M8 => ?_)
    exact jo_vret rfl d_X10_takeEnd_15
theorem m_X10_takeEnd {g : JG} {ad : Nat → Nat} (hs : jStr g ad) (n : Nat) (M : JMem) : jMet g jNN ad jR D_X10_takeEnd yX10_takeEnd [.ref 33] M (f_X10_takeEnd n M) :=
  jMet.of (lo0 := [some (.ref 33), none]) (by decide) rfl rfl (Nat.le_of_ble_eq_true rfl) (And.intro rfl True.intro) (t_X10_takeEnd hs n M)
/-! CageLeave$WeeksReader.takeNames(LCageLeave$Plan;III)V -/
def D_X10_takeNames : JD := (RX10, cX10_takeNames, 7, none, "takeNames", { frames := 3, cells := 0, slots := 0, locals := 66 })
theorem ok_X10_takeNames : jOk D_X10_takeNames yX10_takeNames 4 := ⟨jTW_mem (k := 928) (by decide +kernel) rfl, jTW_mem (k := 145) (by decide +kernel) rfl, ⟨by decide +kernel, by decide +kernel⟩, by decide +kernel, rfl, rfl⟩
theorem in_X10_takeNames : Cond.instanceMethod yX10_takeNames ∈ jTW := jTW_mem (k := 927) (by decide +kernel) rfl
theorem se_X10_takeNames : Cond.selects yX10_takeNames.cls yX10_takeNames yX10_takeNames ∈ jTW := jTW_mem (k := 17) (by decide +kernel) rfl
theorem lm_X10_109 : Cond.methodLink RX10 109 yX4_numberAt ∈ jTW := jTW_mem (k := 929) (by decide +kernel) rfl
theorem d_X10_takeNames_0 : decode (D_X10_takeNames).2.1 0 = .ok (.aload_n 1, 1) := by decide +kernel
theorem d_X10_takeNames_1 : decode (D_X10_takeNames).2.1 1 = .ok (.aload_n 0, 1) := by decide +kernel
theorem d_X10_takeNames_2 : decode (D_X10_takeNames).2.1 2 = .ok (.getfield 26, 3) := by decide +kernel
theorem d_X10_takeNames_5 : decode (D_X10_takeNames).2.1 5 = .ok (.iload_n 3, 1) := by decide +kernel
theorem d_X10_takeNames_6 : decode (D_X10_takeNames).2.1 6 = .ok (.invokevirtual 109, 3) := by decide +kernel
theorem d_X10_takeNames_9 : decode (D_X10_takeNames).2.1 9 = .ok (.istore 5, 2) := by decide +kernel
theorem d_X10_takeNames_11 : decode (D_X10_takeNames).2.1 11 = .ok (.aload_n 0, 1) := by decide +kernel
theorem d_X10_takeNames_12 : decode (D_X10_takeNames).2.1 12 = .ok (.getfield 26, 3) := by decide +kernel
theorem d_X10_takeNames_15 : decode (D_X10_takeNames).2.1 15 = .ok (.invokevirtual 76, 3) := by decide +kernel
theorem d_X10_takeNames_18 : decode (D_X10_takeNames).2.1 18 = .ok (.iconst (-1), 1) := by decide +kernel
theorem d_X10_takeNames_19 : decode (D_X10_takeNames).2.1 19 = .ok (.istore 6, 2) := by decide +kernel
theorem d_X10_takeNames_21 : decode (D_X10_takeNames).2.1 21 = .ok (.iload 4, 2) := by decide +kernel
theorem d_X10_takeNames_23 : decode (D_X10_takeNames).2.1 23 = .ok (.iconst (-1), 1) := by decide +kernel
theorem d_X10_takeNames_24 : decode (D_X10_takeNames).2.1 24 = .ok (.if_icmp .eq 22, 3) := by decide +kernel
theorem d_X10_takeNames_27 : decode (D_X10_takeNames).2.1 27 = .ok (.aload_n 1, 1) := by decide +kernel
theorem d_X10_takeNames_28 : decode (D_X10_takeNames).2.1 28 = .ok (.aload_n 0, 1) := by decide +kernel
theorem d_X10_takeNames_29 : decode (D_X10_takeNames).2.1 29 = .ok (.getfield 26, 3) := by decide +kernel
theorem d_X10_takeNames_32 : decode (D_X10_takeNames).2.1 32 = .ok (.iload 4, 2) := by decide +kernel
theorem d_X10_takeNames_34 : decode (D_X10_takeNames).2.1 34 = .ok (.invokevirtual 109, 3) := by decide +kernel
theorem d_X10_takeNames_37 : decode (D_X10_takeNames).2.1 37 = .ok (.istore 6, 2) := by decide +kernel
theorem d_X10_takeNames_39 : decode (D_X10_takeNames).2.1 39 = .ok (.aload_n 0, 1) := by decide +kernel
theorem d_X10_takeNames_40 : decode (D_X10_takeNames).2.1 40 = .ok (.getfield 26, 3) := by decide +kernel
theorem d_X10_takeNames_43 : decode (D_X10_takeNames).2.1 43 = .ok (.invokevirtual 76, 3) := by decide +kernel
theorem d_X10_takeNames_46 : decode (D_X10_takeNames).2.1 46 = .ok (.aload_n 0, 1) := by decide +kernel
theorem d_X10_takeNames_47 : decode (D_X10_takeNames).2.1 47 = .ok (.getfield 12, 3) := by decide +kernel
theorem d_X10_takeNames_50 : decode (D_X10_takeNames).2.1 50 = .ok (.iload_n 2, 1) := by decide +kernel
theorem d_X10_takeNames_51 : decode (D_X10_takeNames).2.1 51 = .ok (.iload 5, 2) := by decide +kernel
theorem d_X10_takeNames_53 : decode (D_X10_takeNames).2.1 53 = .ok (.iload 6, 2) := by decide +kernel
theorem d_X10_takeNames_55 : decode (D_X10_takeNames).2.1 55 = .ok (.invokevirtual 72, 3) := by decide +kernel
theorem d_X10_takeNames_58 : decode (D_X10_takeNames).2.1 58 = .ok (.return_, 1) := by decide +kernel
def f_X10_takeNames_L46 (n : Nat) (p1 : Nat) (v2 v5 v6 : Int) (M : JMem) : Option (Int × JMem) := bnd (f_X9_add n 34 v2 v5 v6 M) fun _ M2 => some (0, M2)
set_option maxRecDepth 4000 in
theorem t_X10_takeNames_L46 {g : JG} {ad : Nat → Nat} (hs : jStr g ad) (n : Nat) (p1 : Nat) (hp1 : jK jNN (0, 4) p1) (v2 v5 v6 : Int) (M : JMem) : jB g D_X10_takeNames ad 46 [some (.ref 33), none, some (ji v2), none, none, some (ji v5), some (ji v6)] [] M (f_X10_takeNames_L46 n p1 v2 v5 v6 M) := by
  unfold f_X10_takeNames_L46
  refine jo_aload 0 d_X10_takeNames_46 rfl rfl ?_
  refine jo_getR (k := 1) cl_10 (Nat.le_of_ble_eq_true rfl) lk_X10_12 rfl kc_33 kr_33_1 d_X10_takeNames_47 ?_
  refine jo_iload 2 d_X10_takeNames_50 rfl rfl ?_
  refine jo_iloadW 5 d_X10_takeNames_51 rfl ?_
  refine jo_iloadW 6 d_X10_takeNames_53 rfl ?_
  refine jo_callV (st := []) (m_X9_add hs n 34 v2 v5 v6 kc_34 M) ok_X9_add (And.intro (Nat.le_of_ble_eq_true rfl) (Nat.le_of_ble_eq_true rfl)) lm_X10_72 in_X9_add se_X9_add rfl kc_34 rfl rfl (And.intro (Nat.zero_le _) (Nat.zero_le _)) rfl (Nat.le_of_ble_eq_true rfl) d_X10_takeNames_55 (fun _ M2 => ?_)
  exact jo_vret rfl d_X10_takeNames_58
def f_X10_takeNames (n : Nat) (p1 : Nat) (x2 : Int) (x3 : Int) (x4 : Int) (M : JMem) : Option (Int × JMem) := bnd (f_X4_numberAt n p1 x3 M) fun r1 M2 => letv r1 fun y3 => bnd (f_X6_advance n M2) fun _ M5 => letv (-1) fun y6 => if jw x4 = jw (-1) then (f_X10_takeNames_L46 n p1 x2 y3 y6 M5) else (bnd (f_X4_numberAt n p1 x4 M5) fun r7 M8 => letv r7 fun y9 => bnd (f_X6_advance n M8) fun _ M11 => f_X10_takeNames_L46 n p1 x2 y3 y9 M11)
set_option maxRecDepth 4000 in
theorem t_X10_takeNames {g : JG} {ad : Nat → Nat} (hs : jStr g ad) (n : Nat) (p1 : Nat) (x2 : Int) (x3 : Int) (x4 : Int) (hp1 : jK jNN (0, 4) p1) (M : JMem) : jB g D_X10_takeNames ad 0 [some (.ref 33), some (.ref p1), some (ji x2), some (ji x3), some (ji x4), none, none] [] M (f_X10_takeNames n p1 x2 x3 x4 M) := by
  unfold f_X10_takeNames
  refine jo_aload 1 d_X10_takeNames_0 rfl rfl ?_
  refine jo_aload 0 d_X10_takeNames_1 rfl rfl ?_
  refine jo_getR (k := 0) cl_10 (Nat.le_of_ble_eq_true rfl) lk_X10_26 rfl kc_33 kr_33_0 d_X10_takeNames_2 ?_
  refine jo_iload 3 d_X10_takeNames_5 rfl rfl ?_
  refine jo_callV (st := []) (m_X4_numberAt hs n p1 x3 hp1 M) ok_X4_numberAt (And.intro (Nat.le_of_ble_eq_true rfl) (Nat.le_of_ble_eq_true rfl)) lm_X10_109 in_X4_numberAt se_X4_numberAt rfl hp1 rfl rfl (And.intro (Nat.zero_le _) (Nat.zero_le _)) rfl (Nat.le_of_ble_eq_true rfl) d_X10_takeNames_6 (fun r1 M2 => ?_)
  refine jo_istoreW 5 d_X10_takeNames_9 (Nat.le_of_ble_eq_true rfl) (fun y3 => ?_)
  refine jo_aload 0 d_X10_takeNames_11 rfl rfl ?_
  refine jo_getR (k := 0) cl_10 (Nat.le_of_ble_eq_true rfl) lk_X10_26 rfl kc_33 kr_33_0 d_X10_takeNames_12 ?_
  refine jo_callV (st := []) (m_X6_advance hs n M2) ok_X6_advance (And.intro (Nat.le_of_ble_eq_true rfl) (Nat.le_of_ble_eq_true rfl)) lm_X10_76 in_X6_advance se_X6_advance rfl kc_9 rfl rfl (And.intro (Nat.zero_le _) (Nat.zero_le _)) rfl (Nat.le_of_ble_eq_true rfl) d_X10_takeNames_15 (fun _ M5 => ?_)
  refine jo_iconst (-1) d_X10_takeNames_18 ?_
  refine jo_istoreW 6 d_X10_takeNames_19 (Nat.le_of_ble_eq_true rfl) (fun y6 => ?_)
  refine jo_iloadW 4 d_X10_takeNames_21 rfl ?_
  refine jo_iconst (-1) d_X10_takeNames_23 ?_
  refine jo_icmp_eq 46 d_X10_takeNames_24 (by decide) ?_ ?_
  · skip
    exact jO.sub (t_X10_takeNames_L46 hs n p1 hp1 x2 y3 y6 M5) (And.intro rfl (And.intro rfl (And.intro rfl (And.intro rfl True.intro))))
  · skip
    refine jo_aload 1 d_X10_takeNames_27 rfl rfl ?_
    refine jo_aload 0 d_X10_takeNames_28 rfl rfl ?_
    refine jo_getR (k := 0) cl_10 (Nat.le_of_ble_eq_true rfl) lk_X10_26 rfl kc_33 kr_33_0 d_X10_takeNames_29 ?_
    refine jo_iloadW 4 d_X10_takeNames_32 rfl ?_
    refine jo_callV (st := []) (m_X4_numberAt hs n p1 x4 hp1 M5) ok_X4_numberAt (And.intro (Nat.le_of_ble_eq_true rfl) (Nat.le_of_ble_eq_true rfl)) lm_X10_109 in_X4_numberAt se_X4_numberAt rfl hp1 rfl rfl (And.intro (Nat.zero_le _) (Nat.zero_le _)) rfl (Nat.le_of_ble_eq_true rfl) d_X10_takeNames_34 (fun r7 M8 => ?_)
    refine jo_istoreW 6 d_X10_takeNames_37 (Nat.le_of_ble_eq_true rfl) (fun y9 => ?_)
    refine jo_aload 0 d_X10_takeNames_39 rfl rfl ?_
    refine jo_getR (k := 0) cl_10 (Nat.le_of_ble_eq_true rfl) lk_X10_26 rfl kc_33 kr_33_0 d_X10_takeNames_40 ?_
    refine jo_callV (st := []) (m_X6_advance hs n M8) ok_X6_advance (And.intro (Nat.le_of_ble_eq_true rfl) (Nat.le_of_ble_eq_true rfl)) lm_X10_76 in_X6_advance se_X6_advance rfl kc_9 rfl rfl (And.intro (Nat.zero_le _) (Nat.zero_le _)) rfl (Nat.le_of_ble_eq_true rfl) d_X10_takeNames_43 (fun _ M11 => ?_)
    exact jO.sub (t_X10_takeNames_L46 hs n p1 hp1 x2 y3 y9 M11) (And.intro rfl (And.intro rfl (And.intro rfl (And.intro rfl True.intro))))
theorem m_X10_takeNames {g : JG} {ad : Nat → Nat} (hs : jStr g ad) (n : Nat) (p1 : Nat) (x2 : Int) (x3 : Int) (x4 : Int) (hp1 : jK jNN (0, 4) p1) (M : JMem) : jMet g jNN ad jR D_X10_takeNames yX10_takeNames [.ref 33, .ref p1, ji x2, ji x3, ji x4] M (f_X10_takeNames n p1 x2 x3 x4 M) :=
  jMet.of (lo0 := [some (.ref 33), some (.ref p1), some (ji x2), some (ji x3), some (ji x4), none, none]) (by decide) rfl rfl (Nat.le_of_ble_eq_true rfl) (And.intro rfl (And.intro rfl (And.intro rfl (And.intro rfl (And.intro rfl True.intro))))) (t_X10_takeNames hs n p1 x2 x3 x4 hp1 M)
/-! CageLeave$WeeksReader.takeTest(LCageLeave$Plan;)V -/
def D_X10_takeTest : JD := (RX10, cX10_takeTest, 3, none, "takeTest", { frames := 4, cells := 0, slots := 0, locals := 92 })
theorem ok_X10_takeTest : jOk D_X10_takeTest yX10_takeTest 1 := ⟨jTW_mem (k := 933) (by decide +kernel) rfl, jTW_mem (k := 145) (by decide +kernel) rfl, ⟨by decide +kernel, by decide +kernel⟩, by decide +kernel, rfl, rfl⟩
theorem in_X10_takeTest : Cond.instanceMethod yX10_takeTest ∈ jTW := jTW_mem (k := 932) (by decide +kernel) rfl
theorem se_X10_takeTest : Cond.selects yX10_takeTest.cls yX10_takeTest yX10_takeTest ∈ jTW := jTW_mem (k := 18) (by decide +kernel) rfl
theorem lm_X10_89 : Cond.methodLink RX10 89 yX6_passNumber ∈ jTW := jTW_mem (k := 924) (by decide +kernel) rfl
theorem lm_X10_48 : Cond.methodLink RX10 48 yX6_isAt ∈ jTW := jTW_mem (k := 901) (by decide +kernel) rfl
theorem lm_X10_103 : Cond.methodLink RX10 103 yX6_passWord ∈ jTW := jTW_mem (k := 934) (by decide +kernel) rfl
theorem lk_X10_106 : Cond.fieldLink RX10 106 (TX6 6).1 (TX6 6).2.1 (TX6 6).2.2.1 ∈ jTW := jTW_mem (k := 258) (by decide +kernel) rfl
theorem lk_X10_45 : Cond.fieldLink RX10 45 (TX6 4).1 (TX6 4).2.1 (TX6 4).2.2.1 ∈ jTW := jTW_mem (k := 253) (by decide +kernel) rfl
theorem lm_X10_93 : Cond.methodLink RX10 93 yX10_takeNames ∈ jTW := jTW_mem (k := 925) (by decide +kernel) rfl
theorem d_X10_takeTest_0 : decode (D_X10_takeTest).2.1 0 = .ok (.aload_n 0, 1) := by decide +kernel
theorem d_X10_takeTest_1 : decode (D_X10_takeTest).2.1 1 = .ok (.getfield 26, 3) := by decide +kernel
theorem d_X10_takeTest_4 : decode (D_X10_takeTest).2.1 4 = .ok (.bipush 21, 2) := by decide +kernel
theorem d_X10_takeTest_6 : decode (D_X10_takeTest).2.1 6 = .ok (.invokevirtual 48, 3) := by decide +kernel
theorem d_X10_takeTest_9 : decode (D_X10_takeTest).2.1 9 = .ok (.ifCond .eq 23, 3) := by decide +kernel
theorem d_X10_takeTest_12 : decode (D_X10_takeTest).2.1 12 = .ok (.aload_n 0, 1) := by decide +kernel
theorem d_X10_takeTest_13 : decode (D_X10_takeTest).2.1 13 = .ok (.getfield 26, 3) := by decide +kernel
theorem d_X10_takeTest_16 : decode (D_X10_takeTest).2.1 16 = .ok (.invokevirtual 76, 3) := by decide +kernel
theorem d_X10_takeTest_19 : decode (D_X10_takeTest).2.1 19 = .ok (.aload_n 0, 1) := by decide +kernel
theorem d_X10_takeTest_20 : decode (D_X10_takeTest).2.1 20 = .ok (.aload_n 1, 1) := by decide +kernel
theorem d_X10_takeTest_21 : decode (D_X10_takeTest).2.1 21 = .ok (.bipush 21, 2) := by decide +kernel
theorem d_X10_takeTest_23 : decode (D_X10_takeTest).2.1 23 = .ok (.bipush 8, 2) := by decide +kernel
theorem d_X10_takeTest_25 : decode (D_X10_takeTest).2.1 25 = .ok (.iconst 1, 1) := by decide +kernel
theorem d_X10_takeTest_26 : decode (D_X10_takeTest).2.1 26 = .ok (.invokevirtual 93, 3) := by decide +kernel
theorem d_X10_takeTest_29 : decode (D_X10_takeTest).2.1 29 = .ok (.goto 104, 3) := by decide +kernel
theorem d_X10_takeTest_32 : decode (D_X10_takeTest).2.1 32 = .ok (.aload_n 0, 1) := by decide +kernel
theorem d_X10_takeTest_33 : decode (D_X10_takeTest).2.1 33 = .ok (.getfield 26, 3) := by decide +kernel
theorem d_X10_takeTest_36 : decode (D_X10_takeTest).2.1 36 = .ok (.bipush 22, 2) := by decide +kernel
theorem d_X10_takeTest_38 : decode (D_X10_takeTest).2.1 38 = .ok (.invokevirtual 48, 3) := by decide +kernel
theorem d_X10_takeTest_41 : decode (D_X10_takeTest).2.1 41 = .ok (.ifCond .eq 23, 3) := by decide +kernel
theorem d_X10_takeTest_44 : decode (D_X10_takeTest).2.1 44 = .ok (.aload_n 0, 1) := by decide +kernel
theorem d_X10_takeTest_45 : decode (D_X10_takeTest).2.1 45 = .ok (.getfield 26, 3) := by decide +kernel
theorem d_X10_takeTest_48 : decode (D_X10_takeTest).2.1 48 = .ok (.invokevirtual 76, 3) := by decide +kernel
theorem d_X10_takeTest_51 : decode (D_X10_takeTest).2.1 51 = .ok (.aload_n 0, 1) := by decide +kernel
theorem d_X10_takeTest_52 : decode (D_X10_takeTest).2.1 52 = .ok (.aload_n 1, 1) := by decide +kernel
theorem d_X10_takeTest_53 : decode (D_X10_takeTest).2.1 53 = .ok (.bipush 22, 2) := by decide +kernel
theorem d_X10_takeTest_55 : decode (D_X10_takeTest).2.1 55 = .ok (.bipush 8, 2) := by decide +kernel
theorem d_X10_takeTest_57 : decode (D_X10_takeTest).2.1 57 = .ok (.iconst (-1), 1) := by decide +kernel
theorem d_X10_takeTest_58 : decode (D_X10_takeTest).2.1 58 = .ok (.invokevirtual 93, 3) := by decide +kernel
theorem d_X10_takeTest_61 : decode (D_X10_takeTest).2.1 61 = .ok (.goto 72, 3) := by decide +kernel
theorem d_X10_takeTest_64 : decode (D_X10_takeTest).2.1 64 = .ok (.aload_n 0, 1) := by decide +kernel
theorem d_X10_takeTest_65 : decode (D_X10_takeTest).2.1 65 = .ok (.getfield 26, 3) := by decide +kernel
theorem d_X10_takeTest_68 : decode (D_X10_takeTest).2.1 68 = .ok (.bipush 23, 2) := by decide +kernel
theorem d_X10_takeTest_70 : decode (D_X10_takeTest).2.1 70 = .ok (.invokevirtual 103, 3) := by decide +kernel
theorem d_X10_takeTest_73 : decode (D_X10_takeTest).2.1 73 = .ok (.aload_n 0, 1) := by decide +kernel
theorem d_X10_takeTest_74 : decode (D_X10_takeTest).2.1 74 = .ok (.getfield 26, 3) := by decide +kernel
theorem d_X10_takeTest_77 : decode (D_X10_takeTest).2.1 77 = .ok (.getfield 106, 3) := by decide +kernel
theorem d_X10_takeTest_80 : decode (D_X10_takeTest).2.1 80 = .ok (.istore_n 2, 1) := by decide +kernel
theorem d_X10_takeTest_81 : decode (D_X10_takeTest).2.1 81 = .ok (.aload_n 0, 1) := by decide +kernel
theorem d_X10_takeTest_82 : decode (D_X10_takeTest).2.1 82 = .ok (.getfield 26, 3) := by decide +kernel
theorem d_X10_takeTest_85 : decode (D_X10_takeTest).2.1 85 = .ok (.getfield 45, 3) := by decide +kernel
theorem d_X10_takeTest_88 : decode (D_X10_takeTest).2.1 88 = .ok (.iconst 5, 1) := by decide +kernel
theorem d_X10_takeTest_89 : decode (D_X10_takeTest).2.1 89 = .ok (.if_icmp .ne 9, 3) := by decide +kernel
theorem d_X10_takeTest_92 : decode (D_X10_takeTest).2.1 92 = .ok (.iload_n 2, 1) := by decide +kernel
theorem d_X10_takeTest_93 : decode (D_X10_takeTest).2.1 93 = .ok (.bipush 59, 2) := by decide +kernel
theorem d_X10_takeTest_95 : decode (D_X10_takeTest).2.1 95 = .ok (.if_icmp .ne 11, 3) := by decide +kernel
theorem d_X10_takeTest_98 : decode (D_X10_takeTest).2.1 98 = .ok (.aload_n 0, 1) := by decide +kernel
theorem d_X10_takeTest_99 : decode (D_X10_takeTest).2.1 99 = .ok (.getfield 26, 3) := by decide +kernel
theorem d_X10_takeTest_102 : decode (D_X10_takeTest).2.1 102 = .ok (.iconst 2, 1) := by decide +kernel
theorem d_X10_takeTest_103 : decode (D_X10_takeTest).2.1 103 = .ok (.invokevirtual 63, 3) := by decide +kernel
theorem d_X10_takeTest_106 : decode (D_X10_takeTest).2.1 106 = .ok (.aload_n 0, 1) := by decide +kernel
theorem d_X10_takeTest_107 : decode (D_X10_takeTest).2.1 107 = .ok (.getfield 26, 3) := by decide +kernel
theorem d_X10_takeTest_110 : decode (D_X10_takeTest).2.1 110 = .ok (.invokevirtual 76, 3) := by decide +kernel
theorem d_X10_takeTest_113 : decode (D_X10_takeTest).2.1 113 = .ok (.aload_n 0, 1) := by decide +kernel
theorem d_X10_takeTest_114 : decode (D_X10_takeTest).2.1 114 = .ok (.getfield 12, 3) := by decide +kernel
theorem d_X10_takeTest_117 : decode (D_X10_takeTest).2.1 117 = .ok (.bipush 23, 2) := by decide +kernel
theorem d_X10_takeTest_119 : decode (D_X10_takeTest).2.1 119 = .ok (.iload_n 2, 1) := by decide +kernel
theorem d_X10_takeTest_120 : decode (D_X10_takeTest).2.1 120 = .ok (.aload_n 0, 1) := by decide +kernel
theorem d_X10_takeTest_121 : decode (D_X10_takeTest).2.1 121 = .ok (.getfield 26, 3) := by decide +kernel
theorem d_X10_takeTest_124 : decode (D_X10_takeTest).2.1 124 = .ok (.iconst 0, 1) := by decide +kernel
theorem d_X10_takeTest_125 : decode (D_X10_takeTest).2.1 125 = .ok (.bipush 64, 2) := by decide +kernel
theorem d_X10_takeTest_127 : decode (D_X10_takeTest).2.1 127 = .ok (.invokevirtual 89, 3) := by decide +kernel
theorem d_X10_takeTest_130 : decode (D_X10_takeTest).2.1 130 = .ok (.invokevirtual 72, 3) := by decide +kernel
theorem d_X10_takeTest_133 : decode (D_X10_takeTest).2.1 133 = .ok (.return_, 1) := by decide +kernel
def f_X10_takeTest_L106 (n : Nat) (p1 : Nat) (v2 : Int) (M : JMem) : Option (Int × JMem) := bnd (f_X6_advance n M) fun _ M2 => bnd (f_X6_passNumber n 0 64 M2) fun r3 M4 => bnd (f_X9_add n 34 23 v2 r3 M4) fun _ M6 => some (0, M6)
set_option maxRecDepth 4000 in
theorem t_X10_takeTest_L106 {g : JG} {ad : Nat → Nat} (hs : jStr g ad) (n : Nat) (p1 : Nat) (hp1 : jK jNN (0, 4) p1) (v2 : Int) (M : JMem) : jB g D_X10_takeTest ad 106 [some (.ref 33), none, some (ji v2)] [] M (f_X10_takeTest_L106 n p1 v2 M) := by
  unfold f_X10_takeTest_L106
  refine jo_aload 0 d_X10_takeTest_106 rfl rfl ?_
  refine jo_getR (k := 0) cl_10 (Nat.le_of_ble_eq_true rfl) lk_X10_26 rfl kc_33 kr_33_0 d_X10_takeTest_107 ?_
  refine jo_callV (st := []) (m_X6_advance hs n M) ok_X6_advance (And.intro (Nat.le_of_ble_eq_true rfl) (Nat.le_of_ble_eq_true rfl)) lm_X10_76 in_X6_advance se_X6_advance rfl kc_9 rfl rfl (And.intro (Nat.zero_le _) (Nat.zero_le _)) rfl (Nat.le_of_ble_eq_true rfl) d_X10_takeTest_110 (fun _ M2 => ?_)
  refine jo_aload 0 d_X10_takeTest_113 rfl rfl ?_
  refine jo_getR (k := 1) cl_10 (Nat.le_of_ble_eq_true rfl) lk_X10_12 rfl kc_33 kr_33_1 d_X10_takeTest_114 ?_
  refine jo_bipush 23 d_X10_takeTest_117 (by decide) ?_
  refine jo_iload 2 d_X10_takeTest_119 rfl rfl ?_
  refine jo_aload 0 d_X10_takeTest_120 rfl rfl ?_
  refine jo_getR (k := 0) cl_10 (Nat.le_of_ble_eq_true rfl) lk_X10_26 rfl kc_33 kr_33_0 d_X10_takeTest_121 ?_
  refine jo_iconst 0 d_X10_takeTest_124 ?_
  refine jo_bipush 64 d_X10_takeTest_125 (by decide) ?_
  refine jo_callV (st := [ji v2, ji 23, .ref 34]) (m_X6_passNumber hs n 0 64 M2) ok_X6_passNumber (And.intro (Nat.le_of_ble_eq_true rfl) (Nat.le_of_ble_eq_true rfl)) lm_X10_89 in_X6_passNumber se_X6_passNumber rfl kc_9 rfl rfl (And.intro (Nat.zero_le _) (Nat.zero_le _)) rfl (Nat.le_of_ble_eq_true rfl) d_X10_takeTest_127 (fun r3 M4 => ?_)
  refine jo_callV (st := []) (m_X9_add hs n 34 23 v2 r3 kc_34 M4) ok_X9_add (And.intro (Nat.le_of_ble_eq_true rfl) (Nat.le_of_ble_eq_true rfl)) lm_X10_72 in_X9_add se_X9_add rfl kc_34 rfl rfl (And.intro (Nat.zero_le _) (Nat.zero_le _)) rfl (Nat.le_of_ble_eq_true rfl) d_X10_takeTest_130 (fun _ M6 => ?_)
  exact jo_vret rfl d_X10_takeTest_133
def f_X10_takeTest_L98 (n : Nat) (p1 : Nat) (v2 : Int) (M : JMem) : Option (Int × JMem) := bnd (f_X6_fail n 2 M) fun _ M2 => f_X10_takeTest_L106 n p1 v2 M2
set_option maxRecDepth 4000 in
theorem t_X10_takeTest_L98 {g : JG} {ad : Nat → Nat} (hs : jStr g ad) (n : Nat) (p1 : Nat) (hp1 : jK jNN (0, 4) p1) (v2 : Int) (M : JMem) : jB g D_X10_takeTest ad 98 [some (.ref 33), none, some (ji v2)] [] M (f_X10_takeTest_L98 n p1 v2 M) := by
  unfold f_X10_takeTest_L98
  refine jo_aload 0 d_X10_takeTest_98 rfl rfl ?_
  refine jo_getR (k := 0) cl_10 (Nat.le_of_ble_eq_true rfl) lk_X10_26 rfl kc_33 kr_33_0 d_X10_takeTest_99 ?_
  refine jo_iconst 2 d_X10_takeTest_102 ?_
  refine jo_callV (st := []) (m_X6_fail hs n 2 M) ok_X6_fail (And.intro (Nat.le_of_ble_eq_true rfl) (Nat.le_of_ble_eq_true rfl)) lm_X10_63 in_X6_fail se_X6_fail rfl kc_9 rfl rfl (And.intro (Nat.zero_le _) (Nat.zero_le _)) rfl (Nat.le_of_ble_eq_true rfl) d_X10_takeTest_103 (fun _ M2 => ?_)
  exact jO.sub (t_X10_takeTest_L106 hs n p1 hp1 v2 M2) (And.intro rfl (And.intro rfl True.intro))
def f_X10_takeTest (n : Nat) (p1 : Nat) (M : JMem) : Option (Int × JMem) := bnd (f_X6_isAt n 21 M) fun r1 M2 => if jw r1 = 0 then (bnd (f_X6_isAt n 22 M2) fun r3 M4 => if jw r3 = 0 then (bnd (f_X6_passWord n 23 M4) fun _ M6 => letv (M6 9 6) fun y7 => if jw (M6 9 4) = jw 5 then (if jw y7 = jw 59 then (f_X10_takeTest_L98 n p1 y7 M6) else (f_X10_takeTest_L106 n p1 y7 M6)) else (f_X10_takeTest_L98 n p1 y7 M6)) else (bnd (f_X6_advance n M4) fun _ M9 => bnd (f_X10_takeNames n p1 22 8 (-1) M9) fun _ M11 => some (0, M11))) else (bnd (f_X6_advance n M2) fun _ M13 => bnd (f_X10_takeNames n p1 21 8 1 M13) fun _ M15 => some (0, M15))
set_option maxRecDepth 4000 in
theorem t_X10_takeTest {g : JG} {ad : Nat → Nat} (hs : jStr g ad) (n : Nat) (p1 : Nat) (hp1 : jK jNN (0, 4) p1) (M : JMem) : jB g D_X10_takeTest ad 0 [some (.ref 33), some (.ref p1), none] [] M (f_X10_takeTest n p1 M) := by
  unfold f_X10_takeTest
  refine jo_aload 0 d_X10_takeTest_0 rfl rfl ?_
  refine jo_getR (k := 0) cl_10 (Nat.le_of_ble_eq_true rfl) lk_X10_26 rfl kc_33 kr_33_0 d_X10_takeTest_1 ?_
  refine jo_bipush 21 d_X10_takeTest_4 (by decide) ?_
  refine jo_callV (st := []) (m_X6_isAt hs n 21 M) ok_X6_isAt (And.intro (Nat.le_of_ble_eq_true rfl) (Nat.le_of_ble_eq_true rfl)) lm_X10_48 in_X6_isAt se_X6_isAt rfl kc_9 rfl rfl (And.intro (Nat.zero_le _) (Nat.zero_le _)) rfl (Nat.le_of_ble_eq_true rfl) d_X10_takeTest_6 (fun r1 M2 => ?_)
  refine jo_if_eq 32 d_X10_takeTest_9 (by decide) ?_ ?_
  · skip
    refine jo_aload 0 d_X10_takeTest_32 rfl rfl ?_
    refine jo_getR (k := 0) cl_10 (Nat.le_of_ble_eq_true rfl) lk_X10_26 rfl kc_33 kr_33_0 d_X10_takeTest_33 ?_
    refine jo_bipush 22 d_X10_takeTest_36 (by decide) ?_
    refine jo_callV (st := []) (m_X6_isAt hs n 22 M2) ok_X6_isAt (And.intro (Nat.le_of_ble_eq_true rfl) (Nat.le_of_ble_eq_true rfl)) lm_X10_48 in_X6_isAt se_X6_isAt rfl kc_9 rfl rfl (And.intro (Nat.zero_le _) (Nat.zero_le _)) rfl (Nat.le_of_ble_eq_true rfl) d_X10_takeTest_38 (fun r3 M4 => ?_)
    refine jo_if_eq 64 d_X10_takeTest_41 (by decide) ?_ ?_
    · skip
      refine jo_aload 0 d_X10_takeTest_64 rfl rfl ?_
      refine jo_getR (k := 0) cl_10 (Nat.le_of_ble_eq_true rfl) lk_X10_26 rfl kc_33 kr_33_0 d_X10_takeTest_65 ?_
      refine jo_bipush 23 d_X10_takeTest_68 (by decide) ?_
      refine jo_callV (st := []) (m_X6_passWord hs n 23 M4) ok_X6_passWord (And.intro (Nat.le_of_ble_eq_true rfl) (Nat.le_of_ble_eq_true rfl)) lm_X10_103 in_X6_passWord se_X6_passWord rfl kc_9 rfl rfl (And.intro (Nat.zero_le _) (Nat.zero_le _)) rfl (Nat.le_of_ble_eq_true rfl) d_X10_takeTest_70 (fun _ M6 => ?_)
      refine jo_aload 0 d_X10_takeTest_73 rfl rfl ?_
      refine jo_getR (k := 0) cl_10 (Nat.le_of_ble_eq_true rfl) lk_X10_26 rfl kc_33 kr_33_0 d_X10_takeTest_74 ?_
      refine jo_getI (k := 6) cl_6 (Nat.le_of_ble_eq_true rfl) lk_X10_106 (Or.inl rfl) kc_9 d_X10_takeTest_77 ?_
      refine jo_istore 2 d_X10_takeTest_80 rfl (Nat.le_of_ble_eq_true rfl) (fun y7 => ?_)
      refine jo_aload 0 d_X10_takeTest_81 rfl rfl ?_
      refine jo_getR (k := 0) cl_10 (Nat.le_of_ble_eq_true rfl) lk_X10_26 rfl kc_33 kr_33_0 d_X10_takeTest_82 ?_
      refine jo_getI (k := 4) cl_6 (Nat.le_of_ble_eq_true rfl) lk_X10_45 (Or.inl rfl) kc_9 d_X10_takeTest_85 ?_
      refine jo_iconst 5 d_X10_takeTest_88 ?_
      refine jo_icmp_ne 98 d_X10_takeTest_89 (by decide) ?_ ?_
      · skip
        exact jO.sub (t_X10_takeTest_L98 hs n p1 hp1 y7 M6) (And.intro rfl (And.intro rfl True.intro))
      · skip
        refine jo_iload 2 d_X10_takeTest_92 rfl rfl ?_
        refine jo_bipush 59 d_X10_takeTest_93 (by decide) ?_
        refine jo_icmp_ne 106 d_X10_takeTest_95 (by decide) ?_ ?_
        · skip
          exact jO.sub (t_X10_takeTest_L106 hs n p1 hp1 y7 M6) (And.intro rfl (And.intro rfl True.intro))
        · skip
          exact jO.sub (t_X10_takeTest_L98 hs n p1 hp1 y7 M6) (And.intro rfl (And.intro rfl True.intro))
    · skip
      refine jo_aload 0 d_X10_takeTest_44 rfl rfl ?_
      refine jo_getR (k := 0) cl_10 (Nat.le_of_ble_eq_true rfl) lk_X10_26 rfl kc_33 kr_33_0 d_X10_takeTest_45 ?_
      refine jo_callV (st := []) (m_X6_advance hs n M4) ok_X6_advance (And.intro (Nat.le_of_ble_eq_true rfl) (Nat.le_of_ble_eq_true rfl)) lm_X10_76 in_X6_advance se_X6_advance rfl kc_9 rfl rfl (And.intro (Nat.zero_le _) (Nat.zero_le _)) rfl (Nat.le_of_ble_eq_true rfl) d_X10_takeTest_48 (fun _ M9 => ?_)
      refine jo_aload 0 d_X10_takeTest_51 rfl rfl ?_
      refine jo_aload 1 d_X10_takeTest_52 rfl rfl ?_
      refine jo_bipush 22 d_X10_takeTest_53 (by decide) ?_
      refine jo_bipush 8 d_X10_takeTest_55 (by decide) ?_
      refine jo_iconst (-1) d_X10_takeTest_57 ?_
      refine jo_callV (st := []) (m_X10_takeNames hs n p1 22 8 (-1) hp1 M9) ok_X10_takeNames (And.intro (Nat.le_of_ble_eq_true rfl) (Nat.le_of_ble_eq_true rfl)) lm_X10_93 in_X10_takeNames se_X10_takeNames rfl kc_33 rfl rfl (And.intro (Nat.zero_le _) (Nat.zero_le _)) rfl (Nat.le_of_ble_eq_true rfl) d_X10_takeTest_58 (fun _ M11 => ?_)
      refine jo_goto 133 d_X10_takeTest_61 (by decide) ?_
      exact jo_vret rfl d_X10_takeTest_133
  · skip
    refine jo_aload 0 d_X10_takeTest_12 rfl rfl ?_
    refine jo_getR (k := 0) cl_10 (Nat.le_of_ble_eq_true rfl) lk_X10_26 rfl kc_33 kr_33_0 d_X10_takeTest_13 ?_
    refine jo_callV (st := []) (m_X6_advance hs n M2) ok_X6_advance (And.intro (Nat.le_of_ble_eq_true rfl) (Nat.le_of_ble_eq_true rfl)) lm_X10_76 in_X6_advance se_X6_advance rfl kc_9 rfl rfl (And.intro (Nat.zero_le _) (Nat.zero_le _)) rfl (Nat.le_of_ble_eq_true rfl) d_X10_takeTest_16 (fun _ M13 => ?_)
    refine jo_aload 0 d_X10_takeTest_19 rfl rfl ?_
    refine jo_aload 1 d_X10_takeTest_20 rfl rfl ?_
    refine jo_bipush 21 d_X10_takeTest_21 (by decide) ?_
    refine jo_bipush 8 d_X10_takeTest_23 (by decide) ?_
    refine jo_iconst 1 d_X10_takeTest_25 ?_
    refine jo_callV (st := []) (m_X10_takeNames hs n p1 21 8 1 hp1 M13) ok_X10_takeNames (And.intro (Nat.le_of_ble_eq_true rfl) (Nat.le_of_ble_eq_true rfl)) lm_X10_93 in_X10_takeNames se_X10_takeNames rfl kc_33 rfl rfl (And.intro (Nat.zero_le _) (Nat.zero_le _)) rfl (Nat.le_of_ble_eq_true rfl) d_X10_takeTest_26 (fun _ M15 => ?_)
    refine jo_goto 133 d_X10_takeTest_29 (by decide) ?_
    exact jo_vret rfl d_X10_takeTest_133
theorem m_X10_takeTest {g : JG} {ad : Nat → Nat} (hs : jStr g ad) (n : Nat) (p1 : Nat) (hp1 : jK jNN (0, 4) p1) (M : JMem) : jMet g jNN ad jR D_X10_takeTest yX10_takeTest [.ref 33, .ref p1] M (f_X10_takeTest n p1 M) :=
  jMet.of (lo0 := [some (.ref 33), some (.ref p1), none]) (by decide) rfl rfl (Nat.le_of_ble_eq_true rfl) (And.intro rfl (And.intro rfl True.intro)) (t_X10_takeTest hs n p1 hp1 M)
/-! CageLeave$WeeksReader.takeStep(LCageLeave$Plan;)V -/
def D_X10_takeStep : JD := (RX10, cX10_takeStep, 3, none, "takeStep", { frames := 5, cells := 0, slots := 0, locals := 114 })
theorem ok_X10_takeStep : jOk D_X10_takeStep yX10_takeStep 1 := ⟨jTW_mem (k := 915) (by decide +kernel) rfl, jTW_mem (k := 145) (by decide +kernel) rfl, ⟨by decide +kernel, by decide +kernel⟩, by decide +kernel, rfl, rfl⟩
theorem in_X10_takeStep : Cond.instanceMethod yX10_takeStep ∈ jTW := jTW_mem (k := 914) (by decide +kernel) rfl
theorem se_X10_takeStep : Cond.selects yX10_takeStep.cls yX10_takeStep yX10_takeStep ∈ jTW := jTW_mem (k := 15) (by decide +kernel) rfl
theorem lm_X10_79 : Cond.methodLink RX10 79 yX6_wordAt ∈ jTW := jTW_mem (k := 916) (by decide +kernel) rfl
theorem lm_X10_83 : Cond.methodLink RX10 83 yX10_mayBegin ∈ jTW := jTW_mem (k := 917) (by decide +kernel) rfl
theorem lm_X10_97 : Cond.methodLink RX10 97 yX10_takeTest ∈ jTW := jTW_mem (k := 930) (by decide +kernel) rfl
theorem d_X10_takeStep_0 : decode (D_X10_takeStep).2.1 0 = .ok (.aload_n 0, 1) := by decide +kernel
theorem d_X10_takeStep_1 : decode (D_X10_takeStep).2.1 1 = .ok (.getfield 26, 3) := by decide +kernel
theorem d_X10_takeStep_4 : decode (D_X10_takeStep).2.1 4 = .ok (.invokevirtual 79, 3) := by decide +kernel
theorem d_X10_takeStep_7 : decode (D_X10_takeStep).2.1 7 = .ok (.istore_n 2, 1) := by decide +kernel
theorem d_X10_takeStep_8 : decode (D_X10_takeStep).2.1 8 = .ok (.aload_n 0, 1) := by decide +kernel
theorem d_X10_takeStep_9 : decode (D_X10_takeStep).2.1 9 = .ok (.iload_n 2, 1) := by decide +kernel
theorem d_X10_takeStep_10 : decode (D_X10_takeStep).2.1 10 = .ok (.invokevirtual 83, 3) := by decide +kernel
theorem d_X10_takeStep_13 : decode (D_X10_takeStep).2.1 13 = .ok (.ifCond .ne 4, 3) := by decide +kernel
theorem d_X10_takeStep_16 : decode (D_X10_takeStep).2.1 16 = .ok (.return_, 1) := by decide +kernel
theorem d_X10_takeStep_17 : decode (D_X10_takeStep).2.1 17 = .ok (.aload_n 0, 1) := by decide +kernel
theorem d_X10_takeStep_18 : decode (D_X10_takeStep).2.1 18 = .ok (.getfield 26, 3) := by decide +kernel
theorem d_X10_takeStep_21 : decode (D_X10_takeStep).2.1 21 = .ok (.invokevirtual 76, 3) := by decide +kernel
theorem d_X10_takeStep_24 : decode (D_X10_takeStep).2.1 24 = .ok (.aload_n 0, 1) := by decide +kernel
theorem d_X10_takeStep_25 : decode (D_X10_takeStep).2.1 25 = .ok (.getfield 12, 3) := by decide +kernel
theorem d_X10_takeStep_28 : decode (D_X10_takeStep).2.1 28 = .ok (.dup, 1) := by decide +kernel
theorem d_X10_takeStep_29 : decode (D_X10_takeStep).2.1 29 = .ok (.getfield 86, 3) := by decide +kernel
theorem d_X10_takeStep_32 : decode (D_X10_takeStep).2.1 32 = .ok (.iconst 1, 1) := by decide +kernel
theorem d_X10_takeStep_33 : decode (D_X10_takeStep).2.1 33 = .ok (.iadd, 1) := by decide +kernel
theorem d_X10_takeStep_34 : decode (D_X10_takeStep).2.1 34 = .ok (.putfield 86, 3) := by decide +kernel
theorem d_X10_takeStep_37 : decode (D_X10_takeStep).2.1 37 = .ok (.iload_n 2, 1) := by decide +kernel
theorem d_X10_takeStep_38 : decode (D_X10_takeStep).2.1 38 = .ok (.tableswitch 145 14 24 #[58, 145, 102, 114, 126, 145, 137, 145, 145, 145, 80], 58) := by decide +kernel
theorem d_X10_takeStep_96 : decode (D_X10_takeStep).2.1 96 = .ok (.aload_n 0, 1) := by decide +kernel
theorem d_X10_takeStep_97 : decode (D_X10_takeStep).2.1 97 = .ok (.getfield 12, 3) := by decide +kernel
theorem d_X10_takeStep_100 : decode (D_X10_takeStep).2.1 100 = .ok (.iload_n 2, 1) := by decide +kernel
theorem d_X10_takeStep_101 : decode (D_X10_takeStep).2.1 101 = .ok (.aload_n 0, 1) := by decide +kernel
theorem d_X10_takeStep_102 : decode (D_X10_takeStep).2.1 102 = .ok (.getfield 26, 3) := by decide +kernel
theorem d_X10_takeStep_105 : decode (D_X10_takeStep).2.1 105 = .ok (.iconst 1, 1) := by decide +kernel
theorem d_X10_takeStep_106 : decode (D_X10_takeStep).2.1 106 = .ok (.bipush 64, 2) := by decide +kernel
theorem d_X10_takeStep_108 : decode (D_X10_takeStep).2.1 108 = .ok (.invokevirtual 89, 3) := by decide +kernel
theorem d_X10_takeStep_111 : decode (D_X10_takeStep).2.1 111 = .ok (.iconst 0, 1) := by decide +kernel
theorem d_X10_takeStep_112 : decode (D_X10_takeStep).2.1 112 = .ok (.invokevirtual 72, 3) := by decide +kernel
theorem d_X10_takeStep_115 : decode (D_X10_takeStep).2.1 115 = .ok (.goto 78, 3) := by decide +kernel
theorem d_X10_takeStep_118 : decode (D_X10_takeStep).2.1 118 = .ok (.aload_n 0, 1) := by decide +kernel
theorem d_X10_takeStep_119 : decode (D_X10_takeStep).2.1 119 = .ok (.getfield 12, 3) := by decide +kernel
theorem d_X10_takeStep_122 : decode (D_X10_takeStep).2.1 122 = .ok (.iload_n 2, 1) := by decide +kernel
theorem d_X10_takeStep_123 : decode (D_X10_takeStep).2.1 123 = .ok (.aload_n 0, 1) := by decide +kernel
theorem d_X10_takeStep_124 : decode (D_X10_takeStep).2.1 124 = .ok (.getfield 26, 3) := by decide +kernel
theorem d_X10_takeStep_127 : decode (D_X10_takeStep).2.1 127 = .ok (.iconst 1, 1) := by decide +kernel
theorem d_X10_takeStep_128 : decode (D_X10_takeStep).2.1 128 = .ok (.bipush 99, 2) := by decide +kernel
theorem d_X10_takeStep_130 : decode (D_X10_takeStep).2.1 130 = .ok (.invokevirtual 89, 3) := by decide +kernel
theorem d_X10_takeStep_133 : decode (D_X10_takeStep).2.1 133 = .ok (.iconst 0, 1) := by decide +kernel
theorem d_X10_takeStep_134 : decode (D_X10_takeStep).2.1 134 = .ok (.invokevirtual 72, 3) := by decide +kernel
theorem d_X10_takeStep_137 : decode (D_X10_takeStep).2.1 137 = .ok (.goto 56, 3) := by decide +kernel
theorem d_X10_takeStep_140 : decode (D_X10_takeStep).2.1 140 = .ok (.aload_n 0, 1) := by decide +kernel
theorem d_X10_takeStep_141 : decode (D_X10_takeStep).2.1 141 = .ok (.aload_n 1, 1) := by decide +kernel
theorem d_X10_takeStep_142 : decode (D_X10_takeStep).2.1 142 = .ok (.iload_n 2, 1) := by decide +kernel
theorem d_X10_takeStep_143 : decode (D_X10_takeStep).2.1 143 = .ok (.bipush 8, 2) := by decide +kernel
theorem d_X10_takeStep_145 : decode (D_X10_takeStep).2.1 145 = .ok (.iconst 2, 1) := by decide +kernel
theorem d_X10_takeStep_146 : decode (D_X10_takeStep).2.1 146 = .ok (.invokevirtual 93, 3) := by decide +kernel
theorem d_X10_takeStep_149 : decode (D_X10_takeStep).2.1 149 = .ok (.goto 44, 3) := by decide +kernel
theorem d_X10_takeStep_152 : decode (D_X10_takeStep).2.1 152 = .ok (.aload_n 0, 1) := by decide +kernel
theorem d_X10_takeStep_153 : decode (D_X10_takeStep).2.1 153 = .ok (.aload_n 1, 1) := by decide +kernel
theorem d_X10_takeStep_154 : decode (D_X10_takeStep).2.1 154 = .ok (.iload_n 2, 1) := by decide +kernel
theorem d_X10_takeStep_155 : decode (D_X10_takeStep).2.1 155 = .ok (.bipush 8, 2) := by decide +kernel
theorem d_X10_takeStep_157 : decode (D_X10_takeStep).2.1 157 = .ok (.iconst (-1), 1) := by decide +kernel
theorem d_X10_takeStep_158 : decode (D_X10_takeStep).2.1 158 = .ok (.invokevirtual 93, 3) := by decide +kernel
theorem d_X10_takeStep_161 : decode (D_X10_takeStep).2.1 161 = .ok (.goto 32, 3) := by decide +kernel
theorem d_X10_takeStep_164 : decode (D_X10_takeStep).2.1 164 = .ok (.aload_n 0, 1) := by decide +kernel
theorem d_X10_takeStep_165 : decode (D_X10_takeStep).2.1 165 = .ok (.aload_n 1, 1) := by decide +kernel
theorem d_X10_takeStep_166 : decode (D_X10_takeStep).2.1 166 = .ok (.iload_n 2, 1) := by decide +kernel
theorem d_X10_takeStep_167 : decode (D_X10_takeStep).2.1 167 = .ok (.iconst 2, 1) := by decide +kernel
theorem d_X10_takeStep_168 : decode (D_X10_takeStep).2.1 168 = .ok (.iconst (-1), 1) := by decide +kernel
theorem d_X10_takeStep_169 : decode (D_X10_takeStep).2.1 169 = .ok (.invokevirtual 93, 3) := by decide +kernel
theorem d_X10_takeStep_172 : decode (D_X10_takeStep).2.1 172 = .ok (.goto 21, 3) := by decide +kernel
theorem d_X10_takeStep_175 : decode (D_X10_takeStep).2.1 175 = .ok (.aload_n 0, 1) := by decide +kernel
theorem d_X10_takeStep_176 : decode (D_X10_takeStep).2.1 176 = .ok (.aload_n 1, 1) := by decide +kernel
theorem d_X10_takeStep_177 : decode (D_X10_takeStep).2.1 177 = .ok (.invokevirtual 97, 3) := by decide +kernel
theorem d_X10_takeStep_180 : decode (D_X10_takeStep).2.1 180 = .ok (.goto 13, 3) := by decide +kernel
theorem d_X10_takeStep_183 : decode (D_X10_takeStep).2.1 183 = .ok (.aload_n 0, 1) := by decide +kernel
theorem d_X10_takeStep_184 : decode (D_X10_takeStep).2.1 184 = .ok (.getfield 12, 3) := by decide +kernel
theorem d_X10_takeStep_187 : decode (D_X10_takeStep).2.1 187 = .ok (.iload_n 2, 1) := by decide +kernel
theorem d_X10_takeStep_188 : decode (D_X10_takeStep).2.1 188 = .ok (.iconst 0, 1) := by decide +kernel
theorem d_X10_takeStep_189 : decode (D_X10_takeStep).2.1 189 = .ok (.iconst 0, 1) := by decide +kernel
theorem d_X10_takeStep_190 : decode (D_X10_takeStep).2.1 190 = .ok (.invokevirtual 72, 3) := by decide +kernel
theorem d_X10_takeStep_193 : decode (D_X10_takeStep).2.1 193 = .ok (.return_, 1) := by decide +kernel
def f_X10_takeStep_L183 (n : Nat) (p1 : Nat) (v2 : Int) (M : JMem) : Option (Int × JMem) := bnd (f_X9_add n 34 v2 0 0 M) fun _ M2 => some (0, M2)
set_option maxRecDepth 4000 in
theorem t_X10_takeStep_L183 {g : JG} {ad : Nat → Nat} (hs : jStr g ad) (n : Nat) (p1 : Nat) (hp1 : jK jNN (0, 4) p1) (v2 : Int) (M : JMem) : jB g D_X10_takeStep ad 183 [some (.ref 33), none, some (ji v2)] [] M (f_X10_takeStep_L183 n p1 v2 M) := by
  unfold f_X10_takeStep_L183
  refine jo_aload 0 d_X10_takeStep_183 rfl rfl ?_
  refine jo_getR (k := 1) cl_10 (Nat.le_of_ble_eq_true rfl) lk_X10_12 rfl kc_33 kr_33_1 d_X10_takeStep_184 ?_
  refine jo_iload 2 d_X10_takeStep_187 rfl rfl ?_
  refine jo_iconst 0 d_X10_takeStep_188 ?_
  refine jo_iconst 0 d_X10_takeStep_189 ?_
  refine jo_callV (st := []) (m_X9_add hs n 34 v2 0 0 kc_34 M) ok_X9_add (And.intro (Nat.le_of_ble_eq_true rfl) (Nat.le_of_ble_eq_true rfl)) lm_X10_72 in_X9_add se_X9_add rfl kc_34 rfl rfl (And.intro (Nat.zero_le _) (Nat.zero_le _)) rfl (Nat.le_of_ble_eq_true rfl) d_X10_takeStep_190 (fun _ M2 => ?_)
  exact jo_vret rfl d_X10_takeStep_193
def f_X10_takeStep (n : Nat) (p1 : Nat) (M : JMem) : Option (Int × JMem) := bnd (f_X6_wordAt n M) fun r1 M2 => letv r1 fun y3 => bnd (f_X10_mayBegin n y3 M2) fun r4 M5 => if jw r4 = 0 then (some (0, M5)) else (bnd (f_X6_advance n M5) fun _ M7 => letm (jup M7 34 1 ((M7 34 1) + 1)) fun M8 => if jw y3 = 14 then (bnd (f_X6_passNumber n 1 64 M8) fun r10 M11 => bnd (f_X9_add n 34 y3 r10 0 M11) fun _ M13 => some (0, M13)) else (if jw y3 = 16 then (bnd (f_X10_takeNames n p1 y3 8 2 M8) fun _ M15 => some (0, M15)) else (if jw y3 = 17 then (bnd (f_X10_takeNames n p1 y3 8 (-1) M8) fun _ M17 => some (0, M17)) else (if jw y3 = 18 then (bnd (f_X10_takeNames n p1 y3 2 (-1) M8) fun _ M19 => some (0, M19)) else (if jw y3 = 20 then (bnd (f_X10_takeTest n p1 M8) fun _ M21 => some (0, M21)) else (if jw y3 = 24 then (bnd (f_X6_passNumber n 1 99 M8) fun r22 M23 => bnd (f_X9_add n 34 y3 r22 0 M23) fun _ M25 => some (0, M25)) else (f_X10_takeStep_L183 n p1 y3 M8)))))))
set_option maxRecDepth 4000 in
theorem t_X10_takeStep {g : JG} {ad : Nat → Nat} (hs : jStr g ad) (n : Nat) (p1 : Nat) (hp1 : jK jNN (0, 4) p1) (M : JMem) : jB g D_X10_takeStep ad 0 [some (.ref 33), some (.ref p1), none] [] M (f_X10_takeStep n p1 M) := by
  unfold f_X10_takeStep
  refine jo_aload 0 d_X10_takeStep_0 rfl rfl ?_
  refine jo_getR (k := 0) cl_10 (Nat.le_of_ble_eq_true rfl) lk_X10_26 rfl kc_33 kr_33_0 d_X10_takeStep_1 ?_
  refine jo_callV (st := []) (m_X6_wordAt hs n M) ok_X6_wordAt (And.intro (Nat.le_of_ble_eq_true rfl) (Nat.le_of_ble_eq_true rfl)) lm_X10_79 in_X6_wordAt se_X6_wordAt rfl kc_9 rfl rfl (And.intro (Nat.zero_le _) (Nat.zero_le _)) rfl (Nat.le_of_ble_eq_true rfl) d_X10_takeStep_4 (fun r1 M2 => ?_)
  refine jo_istore 2 d_X10_takeStep_7 rfl (Nat.le_of_ble_eq_true rfl) (fun y3 => ?_)
  refine jo_aload 0 d_X10_takeStep_8 rfl rfl ?_
  refine jo_iload 2 d_X10_takeStep_9 rfl rfl ?_
  refine jo_callV (st := []) (m_X10_mayBegin hs n y3 M2) ok_X10_mayBegin (And.intro (Nat.le_of_ble_eq_true rfl) (Nat.le_of_ble_eq_true rfl)) lm_X10_83 in_X10_mayBegin se_X10_mayBegin rfl kc_33 rfl rfl (And.intro (Nat.zero_le _) (Nat.zero_le _)) rfl (Nat.le_of_ble_eq_true rfl) d_X10_takeStep_10 (fun r4 M5 => ?_)
  refine jo_if_ne 17 d_X10_takeStep_13 (by decide) ?_ ?_
  · skip
    refine jo_aload 0 d_X10_takeStep_17 rfl rfl ?_
    refine jo_getR (k := 0) cl_10 (Nat.le_of_ble_eq_true rfl) lk_X10_26 rfl kc_33 kr_33_0 d_X10_takeStep_18 ?_
    refine jo_callV (st := []) (m_X6_advance hs n M5) ok_X6_advance (And.intro (Nat.le_of_ble_eq_true rfl) (Nat.le_of_ble_eq_true rfl)) lm_X10_76 in_X6_advance se_X6_advance rfl kc_9 rfl rfl (And.intro (Nat.zero_le _) (Nat.zero_le _)) rfl (Nat.le_of_ble_eq_true rfl) d_X10_takeStep_21 (fun _ M7 => ?_)
    refine jo_aload 0 d_X10_takeStep_24 rfl rfl ?_
    refine jo_getR (k := 1) cl_10 (Nat.le_of_ble_eq_true rfl) lk_X10_12 rfl kc_33 kr_33_1 d_X10_takeStep_25 ?_
    refine jo_dup d_X10_takeStep_28 rfl ?_
    refine jo_getI (k := 1) cl_9 (Nat.le_of_ble_eq_true rfl) lk_X10_86 (Or.inl rfl) kc_34 d_X10_takeStep_29 ?_
    refine jo_iconst 1 d_X10_takeStep_32 ?_
    refine jo_iadd d_X10_takeStep_33 ?_
    refine jo_putI (k := 1) cl_9 (Nat.le_of_ble_eq_true rfl) lk_X10_86 rfl rfl kc_34 d_X10_takeStep_34 (fun M8 => ?_)
    refine jo_iload 2 d_X10_takeStep_37 rfl rfl ?_
    refine jo_if (fun c9_14 => ?_) (fun c9_14 => ?_)
    · skip
      refine jo_tabIn 96 d_X10_takeStep_38 14 c9_14 (by decide) (by decide) rfl (by decide) ?_
      refine jo_aload 0 d_X10_takeStep_96 rfl rfl ?_
      refine jo_getR (k := 1) cl_10 (Nat.le_of_ble_eq_true rfl) lk_X10_12 rfl kc_33 kr_33_1 d_X10_takeStep_97 ?_
      refine jo_iload 2 d_X10_takeStep_100 rfl rfl ?_
      refine jo_aload 0 d_X10_takeStep_101 rfl rfl ?_
      refine jo_getR (k := 0) cl_10 (Nat.le_of_ble_eq_true rfl) lk_X10_26 rfl kc_33 kr_33_0 d_X10_takeStep_102 ?_
      refine jo_iconst 1 d_X10_takeStep_105 ?_
      refine jo_bipush 64 d_X10_takeStep_106 (by decide) ?_
      refine jo_callV (st := [ji y3, .ref 34]) (m_X6_passNumber hs n 1 64 M8) ok_X6_passNumber (And.intro (Nat.le_of_ble_eq_true rfl) (Nat.le_of_ble_eq_true rfl)) lm_X10_89 in_X6_passNumber se_X6_passNumber rfl kc_9 rfl rfl (And.intro (Nat.zero_le _) (Nat.zero_le _)) rfl (Nat.le_of_ble_eq_true rfl) d_X10_takeStep_108 (fun r10 M11 => ?_)
      refine jo_iconst 0 d_X10_takeStep_111 ?_
      refine jo_callV (st := []) (m_X9_add hs n 34 y3 r10 0 kc_34 M11) ok_X9_add (And.intro (Nat.le_of_ble_eq_true rfl) (Nat.le_of_ble_eq_true rfl)) lm_X10_72 in_X9_add se_X9_add rfl kc_34 rfl rfl (And.intro (Nat.zero_le _) (Nat.zero_le _)) rfl (Nat.le_of_ble_eq_true rfl) d_X10_takeStep_112 (fun _ M13 => ?_)
      refine jo_goto 193 d_X10_takeStep_115 (by decide) ?_
      exact jo_vret rfl d_X10_takeStep_193
    refine jo_if (fun c9_16 => ?_) (fun c9_16 => ?_)
    · skip
      refine jo_tabIn 140 d_X10_takeStep_38 16 c9_16 (by decide) (by decide) rfl (by decide) ?_
      refine jo_aload 0 d_X10_takeStep_140 rfl rfl ?_
      refine jo_aload 1 d_X10_takeStep_141 rfl rfl ?_
      refine jo_iload 2 d_X10_takeStep_142 rfl rfl ?_
      refine jo_bipush 8 d_X10_takeStep_143 (by decide) ?_
      refine jo_iconst 2 d_X10_takeStep_145 ?_
      refine jo_callV (st := []) (m_X10_takeNames hs n p1 y3 8 2 hp1 M8) ok_X10_takeNames (And.intro (Nat.le_of_ble_eq_true rfl) (Nat.le_of_ble_eq_true rfl)) lm_X10_93 in_X10_takeNames se_X10_takeNames rfl kc_33 rfl rfl (And.intro (Nat.zero_le _) (Nat.zero_le _)) rfl (Nat.le_of_ble_eq_true rfl) d_X10_takeStep_146 (fun _ M15 => ?_)
      refine jo_goto 193 d_X10_takeStep_149 (by decide) ?_
      exact jo_vret rfl d_X10_takeStep_193
    refine jo_if (fun c9_17 => ?_) (fun c9_17 => ?_)
    · skip
      refine jo_tabIn 152 d_X10_takeStep_38 17 c9_17 (by decide) (by decide) rfl (by decide) ?_
      refine jo_aload 0 d_X10_takeStep_152 rfl rfl ?_
      refine jo_aload 1 d_X10_takeStep_153 rfl rfl ?_
      refine jo_iload 2 d_X10_takeStep_154 rfl rfl ?_
      refine jo_bipush 8 d_X10_takeStep_155 (by decide) ?_
      refine jo_iconst (-1) d_X10_takeStep_157 ?_
      refine jo_callV (st := []) (m_X10_takeNames hs n p1 y3 8 (-1) hp1 M8) ok_X10_takeNames (And.intro (Nat.le_of_ble_eq_true rfl) (Nat.le_of_ble_eq_true rfl)) lm_X10_93 in_X10_takeNames se_X10_takeNames rfl kc_33 rfl rfl (And.intro (Nat.zero_le _) (Nat.zero_le _)) rfl (Nat.le_of_ble_eq_true rfl) d_X10_takeStep_158 (fun _ M17 => ?_)
      refine jo_goto 193 d_X10_takeStep_161 (by decide) ?_
      exact jo_vret rfl d_X10_takeStep_193
    refine jo_if (fun c9_18 => ?_) (fun c9_18 => ?_)
    · skip
      refine jo_tabIn 164 d_X10_takeStep_38 18 c9_18 (by decide) (by decide) rfl (by decide) ?_
      refine jo_aload 0 d_X10_takeStep_164 rfl rfl ?_
      refine jo_aload 1 d_X10_takeStep_165 rfl rfl ?_
      refine jo_iload 2 d_X10_takeStep_166 rfl rfl ?_
      refine jo_iconst 2 d_X10_takeStep_167 ?_
      refine jo_iconst (-1) d_X10_takeStep_168 ?_
      refine jo_callV (st := []) (m_X10_takeNames hs n p1 y3 2 (-1) hp1 M8) ok_X10_takeNames (And.intro (Nat.le_of_ble_eq_true rfl) (Nat.le_of_ble_eq_true rfl)) lm_X10_93 in_X10_takeNames se_X10_takeNames rfl kc_33 rfl rfl (And.intro (Nat.zero_le _) (Nat.zero_le _)) rfl (Nat.le_of_ble_eq_true rfl) d_X10_takeStep_169 (fun _ M19 => ?_)
      refine jo_goto 193 d_X10_takeStep_172 (by decide) ?_
      exact jo_vret rfl d_X10_takeStep_193
    refine jo_if (fun c9_20 => ?_) (fun c9_20 => ?_)
    · skip
      refine jo_tabIn 175 d_X10_takeStep_38 20 c9_20 (by decide) (by decide) rfl (by decide) ?_
      refine jo_aload 0 d_X10_takeStep_175 rfl rfl ?_
      refine jo_aload 1 d_X10_takeStep_176 rfl rfl ?_
      refine jo_callV (st := []) (m_X10_takeTest hs n p1 hp1 M8) ok_X10_takeTest (And.intro (Nat.le_of_ble_eq_true rfl) (Nat.le_of_ble_eq_true rfl)) lm_X10_97 in_X10_takeTest se_X10_takeTest rfl kc_33 rfl rfl (And.intro (Nat.zero_le _) (Nat.zero_le _)) rfl (Nat.le_of_ble_eq_true rfl) d_X10_takeStep_177 (fun _ M21 => ?_)
      refine jo_goto 193 d_X10_takeStep_180 (by decide) ?_
      exact jo_vret rfl d_X10_takeStep_193
    refine jo_if (fun c9_24 => ?_) (fun c9_24 => ?_)
    · skip
      refine jo_tabIn 118 d_X10_takeStep_38 24 c9_24 (by decide) (by decide) rfl (by decide) ?_
      refine jo_aload 0 d_X10_takeStep_118 rfl rfl ?_
      refine jo_getR (k := 1) cl_10 (Nat.le_of_ble_eq_true rfl) lk_X10_12 rfl kc_33 kr_33_1 d_X10_takeStep_119 ?_
      refine jo_iload 2 d_X10_takeStep_122 rfl rfl ?_
      refine jo_aload 0 d_X10_takeStep_123 rfl rfl ?_
      refine jo_getR (k := 0) cl_10 (Nat.le_of_ble_eq_true rfl) lk_X10_26 rfl kc_33 kr_33_0 d_X10_takeStep_124 ?_
      refine jo_iconst 1 d_X10_takeStep_127 ?_
      refine jo_bipush 99 d_X10_takeStep_128 (by decide) ?_
      refine jo_callV (st := [ji y3, .ref 34]) (m_X6_passNumber hs n 1 99 M8) ok_X6_passNumber (And.intro (Nat.le_of_ble_eq_true rfl) (Nat.le_of_ble_eq_true rfl)) lm_X10_89 in_X6_passNumber se_X6_passNumber rfl kc_9 rfl rfl (And.intro (Nat.zero_le _) (Nat.zero_le _)) rfl (Nat.le_of_ble_eq_true rfl) d_X10_takeStep_130 (fun r22 M23 => ?_)
      refine jo_iconst 0 d_X10_takeStep_133 ?_
      refine jo_callV (st := []) (m_X9_add hs n 34 y3 r22 0 kc_34 M23) ok_X9_add (And.intro (Nat.le_of_ble_eq_true rfl) (Nat.le_of_ble_eq_true rfl)) lm_X10_72 in_X9_add se_X9_add rfl kc_34 rfl rfl (And.intro (Nat.zero_le _) (Nat.zero_le _)) rfl (Nat.le_of_ble_eq_true rfl) d_X10_takeStep_134 (fun _ M25 => ?_)
      refine jo_goto 193 d_X10_takeStep_137 (by decide) ?_
      exact jo_vret rfl d_X10_takeStep_193
    refine jo_tabAny 183 d_X10_takeStep_38 (by rcases (show (jw y3 < 14 ∨ 24 < jw y3) ∨ jw y3 = 15 ∨ jw y3 = 19 ∨ jw y3 = 21 ∨ jw y3 = 22 ∨ jw y3 = 23 by omega) with h | h | h | h | h | h; exact Or.inl h; exact Or.inr ⟨15, h, by decide, by decide, rfl⟩; exact Or.inr ⟨19, h, by decide, by decide, rfl⟩; exact Or.inr ⟨21, h, by decide, by decide, rfl⟩; exact Or.inr ⟨22, h, by decide, by decide, rfl⟩; exact Or.inr ⟨23, h, by decide, by decide, rfl⟩) (by decide) ?_
    exact jO.sub (t_X10_takeStep_L183 hs n p1 hp1 y3 M8) (And.intro rfl (And.intro rfl True.intro))
  · skip
    exact jo_vret rfl d_X10_takeStep_16
theorem m_X10_takeStep {g : JG} {ad : Nat → Nat} (hs : jStr g ad) (n : Nat) (p1 : Nat) (hp1 : jK jNN (0, 4) p1) (M : JMem) : jMet g jNN ad jR D_X10_takeStep yX10_takeStep [.ref 33, .ref p1] M (f_X10_takeStep n p1 M) :=
  jMet.of (lo0 := [some (.ref 33), some (.ref p1), none]) (by decide) rfl rfl (Nat.le_of_ble_eq_true rfl) (And.intro rfl (And.intro rfl True.intro)) (t_X10_takeStep hs n p1 hp1 M)
/-! CageLeave$WeeksReader.takesAll(ILCageLeave$Plan;)Z -/
def D_X10_takesAll : JD := (RX10, cX10_takesAll, 4, some .boolean, "takesAll", { frames := 6, cells := 0, slots := 0, locals := 136 })
theorem ok_X10_takesAll : jOk D_X10_takesAll yX10_takesAll 2 := ⟨jTW_mem (k := 898) (by decide +kernel) rfl, jTW_mem (k := 145) (by decide +kernel) rfl, ⟨by decide +kernel, by decide +kernel⟩, by decide +kernel, rfl, rfl⟩
theorem in_X10_takesAll : Cond.instanceMethod yX10_takesAll ∈ jTW := jTW_mem (k := 896) (by decide +kernel) rfl
theorem se_X10_takesAll : Cond.selects yX10_takesAll.cls yX10_takesAll yX10_takesAll ∈ jTW := jTW_mem (k := 897) (by decide +kernel) rfl
theorem lm_X10_55 : Cond.methodLink RX10 55 yX10_takeStep ∈ jTW := jTW_mem (k := 912) (by decide +kernel) rfl
theorem lm_X10_52 : Cond.methodLink RX10 52 yX10_takeEnd ∈ jTW := jTW_mem (k := 902) (by decide +kernel) rfl
theorem lm_X10_59 : Cond.methodLink RX10 59 yX6_passSign ∈ jTW := jTW_mem (k := 935) (by decide +kernel) rfl
theorem lm_X10_30 : Cond.methodLink RX10 30 yX6_open ∈ jTW := jTW_mem (k := 899) (by decide +kernel) rfl
theorem lm_X10_35 : Cond.methodLink RX10 35 yX9_forget ∈ jTW := jTW_mem (k := 900) (by decide +kernel) rfl
theorem lk_X10_38 : Cond.fieldLink RX10 38 (TX9 0).1 (TX9 0).2.1 (TX9 0).2.2.1 ∈ jTW := jTW_mem (k := 482) (by decide +kernel) rfl
theorem d_X10_takesAll_0 : decode (D_X10_takesAll).2.1 0 = .ok (.aload_n 0, 1) := by decide +kernel
theorem d_X10_takesAll_1 : decode (D_X10_takesAll).2.1 1 = .ok (.getfield 26, 3) := by decide +kernel
theorem d_X10_takesAll_4 : decode (D_X10_takesAll).2.1 4 = .ok (.iload_n 1, 1) := by decide +kernel
theorem d_X10_takesAll_5 : decode (D_X10_takesAll).2.1 5 = .ok (.invokevirtual 30, 3) := by decide +kernel
theorem d_X10_takesAll_8 : decode (D_X10_takesAll).2.1 8 = .ok (.aload_n 0, 1) := by decide +kernel
theorem d_X10_takesAll_9 : decode (D_X10_takesAll).2.1 9 = .ok (.getfield 12, 3) := by decide +kernel
theorem d_X10_takesAll_12 : decode (D_X10_takesAll).2.1 12 = .ok (.invokevirtual 35, 3) := by decide +kernel
theorem d_X10_takesAll_15 : decode (D_X10_takesAll).2.1 15 = .ok (.aload_n 0, 1) := by decide +kernel
theorem d_X10_takesAll_16 : decode (D_X10_takesAll).2.1 16 = .ok (.getfield 12, 3) := by decide +kernel
theorem d_X10_takesAll_19 : decode (D_X10_takesAll).2.1 19 = .ok (.iconst 1, 1) := by decide +kernel
theorem d_X10_takesAll_20 : decode (D_X10_takesAll).2.1 20 = .ok (.putfield 38, 3) := by decide +kernel
theorem d_X10_takesAll_23 : decode (D_X10_takesAll).2.1 23 = .ok (.aload_n 0, 1) := by decide +kernel
theorem d_X10_takesAll_24 : decode (D_X10_takesAll).2.1 24 = .ok (.iconst 0, 1) := by decide +kernel
theorem d_X10_takesAll_25 : decode (D_X10_takesAll).2.1 25 = .ok (.putfield 22, 3) := by decide +kernel
theorem d_X10_takesAll_28 : decode (D_X10_takesAll).2.1 28 = .ok (.iconst 0, 1) := by decide +kernel
theorem d_X10_takesAll_29 : decode (D_X10_takesAll).2.1 29 = .ok (.istore_n 3, 1) := by decide +kernel
theorem d_X10_takesAll_30 : decode (D_X10_takesAll).2.1 30 = .ok (.iload_n 3, 1) := by decide +kernel
theorem d_X10_takesAll_31 : decode (D_X10_takesAll).2.1 31 = .ok (.iload_n 1, 1) := by decide +kernel
theorem d_X10_takesAll_32 : decode (D_X10_takesAll).2.1 32 = .ok (.if_icmp .gt 62, 3) := by decide +kernel
theorem d_X10_takesAll_35 : decode (D_X10_takesAll).2.1 35 = .ok (.aload_n 0, 1) := by decide +kernel
theorem d_X10_takesAll_36 : decode (D_X10_takesAll).2.1 36 = .ok (.getfield 26, 3) := by decide +kernel
theorem d_X10_takesAll_39 : decode (D_X10_takesAll).2.1 39 = .ok (.getfield 42, 3) := by decide +kernel
theorem d_X10_takesAll_42 : decode (D_X10_takesAll).2.1 42 = .ok (.ifCond .ne 52, 3) := by decide +kernel
theorem d_X10_takesAll_45 : decode (D_X10_takesAll).2.1 45 = .ok (.aload_n 0, 1) := by decide +kernel
theorem d_X10_takesAll_46 : decode (D_X10_takesAll).2.1 46 = .ok (.getfield 26, 3) := by decide +kernel
theorem d_X10_takesAll_49 : decode (D_X10_takesAll).2.1 49 = .ok (.getfield 45, 3) := by decide +kernel
theorem d_X10_takesAll_52 : decode (D_X10_takesAll).2.1 52 = .ok (.ifCond .eq 42, 3) := by decide +kernel
theorem d_X10_takesAll_55 : decode (D_X10_takesAll).2.1 55 = .ok (.aload_n 0, 1) := by decide +kernel
theorem d_X10_takesAll_56 : decode (D_X10_takesAll).2.1 56 = .ok (.getfield 26, 3) := by decide +kernel
theorem d_X10_takesAll_59 : decode (D_X10_takesAll).2.1 59 = .ok (.bipush 25, 2) := by decide +kernel
theorem d_X10_takesAll_61 : decode (D_X10_takesAll).2.1 61 = .ok (.invokevirtual 48, 3) := by decide +kernel
theorem d_X10_takesAll_64 : decode (D_X10_takesAll).2.1 64 = .ok (.ifCond .eq 10, 3) := by decide +kernel
theorem d_X10_takesAll_67 : decode (D_X10_takesAll).2.1 67 = .ok (.aload_n 0, 1) := by decide +kernel
theorem d_X10_takesAll_68 : decode (D_X10_takesAll).2.1 68 = .ok (.invokevirtual 52, 3) := by decide +kernel
theorem d_X10_takesAll_71 : decode (D_X10_takesAll).2.1 71 = .ok (.goto 8, 3) := by decide +kernel
theorem d_X10_takesAll_74 : decode (D_X10_takesAll).2.1 74 = .ok (.aload_n 0, 1) := by decide +kernel
theorem d_X10_takesAll_75 : decode (D_X10_takesAll).2.1 75 = .ok (.aload_n 2, 1) := by decide +kernel
theorem d_X10_takesAll_76 : decode (D_X10_takesAll).2.1 76 = .ok (.invokevirtual 55, 3) := by decide +kernel
theorem d_X10_takesAll_79 : decode (D_X10_takesAll).2.1 79 = .ok (.aload_n 0, 1) := by decide +kernel
theorem d_X10_takesAll_80 : decode (D_X10_takesAll).2.1 80 = .ok (.getfield 26, 3) := by decide +kernel
theorem d_X10_takesAll_83 : decode (D_X10_takesAll).2.1 83 = .ok (.bipush 59, 2) := by decide +kernel
theorem d_X10_takesAll_85 : decode (D_X10_takesAll).2.1 85 = .ok (.invokevirtual 59, 3) := by decide +kernel
theorem d_X10_takesAll_88 : decode (D_X10_takesAll).2.1 88 = .ok (.iinc 3 1, 3) := by decide +kernel
theorem d_X10_takesAll_91 : decode (D_X10_takesAll).2.1 91 = .ok (.goto (-61), 3) := by decide +kernel
theorem d_X10_takesAll_94 : decode (D_X10_takesAll).2.1 94 = .ok (.aload_n 0, 1) := by decide +kernel
theorem d_X10_takesAll_95 : decode (D_X10_takesAll).2.1 95 = .ok (.getfield 22, 3) := by decide +kernel
theorem d_X10_takesAll_98 : decode (D_X10_takesAll).2.1 98 = .ok (.ifCond .le 11, 3) := by decide +kernel
theorem d_X10_takesAll_101 : decode (D_X10_takesAll).2.1 101 = .ok (.aload_n 0, 1) := by decide +kernel
theorem d_X10_takesAll_102 : decode (D_X10_takesAll).2.1 102 = .ok (.getfield 26, 3) := by decide +kernel
theorem d_X10_takesAll_105 : decode (D_X10_takesAll).2.1 105 = .ok (.iconst 2, 1) := by decide +kernel
theorem d_X10_takesAll_106 : decode (D_X10_takesAll).2.1 106 = .ok (.invokevirtual 63, 3) := by decide +kernel
theorem d_X10_takesAll_109 : decode (D_X10_takesAll).2.1 109 = .ok (.aload_n 0, 1) := by decide +kernel
theorem d_X10_takesAll_110 : decode (D_X10_takesAll).2.1 110 = .ok (.getfield 26, 3) := by decide +kernel
theorem d_X10_takesAll_113 : decode (D_X10_takesAll).2.1 113 = .ok (.getfield 42, 3) := by decide +kernel
theorem d_X10_takesAll_116 : decode (D_X10_takesAll).2.1 116 = .ok (.ifCond .ne 7, 3) := by decide +kernel
theorem d_X10_takesAll_119 : decode (D_X10_takesAll).2.1 119 = .ok (.iconst 1, 1) := by decide +kernel
theorem d_X10_takesAll_120 : decode (D_X10_takesAll).2.1 120 = .ok (.goto 4, 3) := by decide +kernel
theorem d_X10_takesAll_123 : decode (D_X10_takesAll).2.1 123 = .ok (.iconst 0, 1) := by decide +kernel
theorem d_X10_takesAll_124 : decode (D_X10_takesAll).2.1 124 = .ok (.ireturn, 1) := by decide +kernel
def f_X10_takesAll_L79 (n : Nat) (p2 : Nat) (r30 : Int → Int → JMem → Option (Int × JMem)) (v1 v3 : Int) (M : JMem) : Option (Int × JMem) := bnd (f_X6_passSign n 59 M) fun _ M2 => letv (v3 + 1) fun y3 => r30 v1 y3 M2
set_option maxRecDepth 4000 in
theorem t_X10_takesAll_L79 {g : JG} {ad : Nat → Nat} (hs : jStr g ad) (n : Nat) (p2 : Nat) (hp2 : jK jNN (0, 4) p2) (r30 : Int → Int → JMem → Option (Int × JMem)) (hr30 : ∀ (v1 v3 : Int) (M : JMem), jB g D_X10_takesAll ad 30 [some (.ref 33), some (ji v1), some (.ref p2), some (ji v3)] [] M (r30 v1 v3 M)) (v1 v3 : Int) (M : JMem) : jB g D_X10_takesAll ad 79 [some (.ref 33), some (ji v1), some (.ref p2), some (ji v3)] [] M (f_X10_takesAll_L79 n p2 r30 v1 v3 M) := by
  unfold f_X10_takesAll_L79
  refine jo_aload 0 d_X10_takesAll_79 rfl rfl ?_
  refine jo_getR (k := 0) cl_10 (Nat.le_of_ble_eq_true rfl) lk_X10_26 rfl kc_33 kr_33_0 d_X10_takesAll_80 ?_
  refine jo_bipush 59 d_X10_takesAll_83 (by decide) ?_
  refine jo_callV (st := []) (m_X6_passSign hs n 59 M) ok_X6_passSign (And.intro (Nat.le_of_ble_eq_true rfl) (Nat.le_of_ble_eq_true rfl)) lm_X10_59 in_X6_passSign se_X6_passSign rfl kc_9 rfl rfl (And.intro (Nat.zero_le _) (Nat.zero_le _)) rfl (Nat.le_of_ble_eq_true rfl) d_X10_takesAll_85 (fun _ M2 => ?_)
  refine jo_iinc 3 d_X10_takesAll_88 rfl (Nat.le_of_ble_eq_true rfl) (fun y3 => ?_)
  refine jo_goto 30 d_X10_takesAll_91 (by decide) ?_
  exact jO.sub (hr30 v1 y3 M2) (And.intro rfl (And.intro rfl (And.intro rfl (And.intro rfl True.intro))))
def f_X10_takesAll_L109 (n : Nat) (p2 : Nat) (M : JMem) : Option (Int × JMem) := if jw (M 9 2) = 0 then (some (1, M)) else (some (0, M))
set_option maxRecDepth 4000 in
theorem t_X10_takesAll_L109 {g : JG} {ad : Nat → Nat} (hs : jStr g ad) (n : Nat) (p2 : Nat) (hp2 : jK jNN (0, 4) p2) (M : JMem) : jB g D_X10_takesAll ad 109 [some (.ref 33), none, none, none] [] M (f_X10_takesAll_L109 n p2 M) := by
  unfold f_X10_takesAll_L109
  refine jo_aload 0 d_X10_takesAll_109 rfl rfl ?_
  refine jo_getR (k := 0) cl_10 (Nat.le_of_ble_eq_true rfl) lk_X10_26 rfl kc_33 kr_33_0 d_X10_takesAll_110 ?_
  refine jo_getI (k := 2) cl_6 (Nat.le_of_ble_eq_true rfl) lk_X10_42 (Or.inl rfl) kc_9 d_X10_takesAll_113 ?_
  refine jo_if_ne 123 d_X10_takesAll_116 (by decide) ?_ ?_
  · skip
    refine jo_iconst 0 d_X10_takesAll_123 ?_
    exact jo_zret rfl (by decide) d_X10_takesAll_124
  · skip
    refine jo_iconst 1 d_X10_takesAll_119 ?_
    refine jo_goto 124 d_X10_takesAll_120 (by decide) ?_
    exact jo_zret rfl (by decide) d_X10_takesAll_124
def f_X10_takesAll_L94 (n : Nat) (p2 : Nat) (M : JMem) : Option (Int × JMem) := if jw (M 33 3) ≤ 0 then (f_X10_takesAll_L109 n p2 M) else (bnd (f_X6_fail n 2 M) fun _ M2 => f_X10_takesAll_L109 n p2 M2)
set_option maxRecDepth 4000 in
theorem t_X10_takesAll_L94 {g : JG} {ad : Nat → Nat} (hs : jStr g ad) (n : Nat) (p2 : Nat) (hp2 : jK jNN (0, 4) p2) (M : JMem) : jB g D_X10_takesAll ad 94 [some (.ref 33), none, none, none] [] M (f_X10_takesAll_L94 n p2 M) := by
  unfold f_X10_takesAll_L94
  refine jo_aload 0 d_X10_takesAll_94 rfl rfl ?_
  refine jo_getI (k := 3) cl_10 (Nat.le_of_ble_eq_true rfl) lk_X10_22 (Or.inl rfl) kc_33 d_X10_takesAll_95 ?_
  refine jo_if_le 109 d_X10_takesAll_98 (by decide) ?_ ?_
  · skip
    exact jO.sub (t_X10_takesAll_L109 hs n p2 hp2 M) (And.intro rfl True.intro)
  · skip
    refine jo_aload 0 d_X10_takesAll_101 rfl rfl ?_
    refine jo_getR (k := 0) cl_10 (Nat.le_of_ble_eq_true rfl) lk_X10_26 rfl kc_33 kr_33_0 d_X10_takesAll_102 ?_
    refine jo_iconst 2 d_X10_takesAll_105 ?_
    refine jo_callV (st := []) (m_X6_fail hs n 2 M) ok_X6_fail (And.intro (Nat.le_of_ble_eq_true rfl) (Nat.le_of_ble_eq_true rfl)) lm_X10_63 in_X6_fail se_X6_fail rfl kc_9 rfl rfl (And.intro (Nat.zero_le _) (Nat.zero_le _)) rfl (Nat.le_of_ble_eq_true rfl) d_X10_takesAll_106 (fun _ M2 => ?_)
    exact jO.sub (t_X10_takesAll_L109 hs n p2 hp2 M2) (And.intro rfl True.intro)
def f_X10_takesAll_L30 (n : Nat) (p2 : Nat) : Nat → Int → Int → JMem → Option (Int × JMem)
  | 0, _, _, _ => none
  | k + 1, v1, v3, M => if jw v1 < jw v3 then (f_X10_takesAll_L94 n p2 M) else (if jw (M 9 2) = 0 then (if jw (M 9 4) = 0 then (f_X10_takesAll_L94 n p2 M) else (bnd (f_X6_isAt n 25 M) fun r1 M2 => if jw r1 = 0 then (bnd (f_X10_takeStep n p2 M2) fun _ M4 => f_X10_takesAll_L79 n p2 (f_X10_takesAll_L30 n p2 k) v1 v3 M4) else (bnd (f_X10_takeEnd n M2) fun _ M6 => f_X10_takesAll_L79 n p2 (f_X10_takesAll_L30 n p2 k) v1 v3 M6))) else (f_X10_takesAll_L94 n p2 M))
set_option maxRecDepth 4000 in
theorem t_X10_takesAll_L30 {g : JG} {ad : Nat → Nat} (hs : jStr g ad) (n : Nat) (p2 : Nat) (hp2 : jK jNN (0, 4) p2) : ∀ (k : Nat) (v1 v3 : Int) (M : JMem), jB g D_X10_takesAll ad 30 [some (.ref 33), some (ji v1), some (.ref p2), some (ji v3)] [] M (f_X10_takesAll_L30 n p2 k v1 v3 M) := by
  intro k
  induction k with
  | zero => intro v1 v3 M; exact jO.none
  | succ k ih =>
    intro v1 v3 M
    rw [f_X10_takesAll_L30]
    refine jo_iload 3 d_X10_takesAll_30 rfl rfl ?_
    refine jo_iload 1 d_X10_takesAll_31 rfl rfl ?_
    refine jo_icmp_gt 94 d_X10_takesAll_32 (by decide) ?_ ?_
    · skip
      exact jO.sub (t_X10_takesAll_L94 hs n p2 hp2 M) (And.intro rfl True.intro)
    · skip
      refine jo_aload 0 d_X10_takesAll_35 rfl rfl ?_
      refine jo_getR (k := 0) cl_10 (Nat.le_of_ble_eq_true rfl) lk_X10_26 rfl kc_33 kr_33_0 d_X10_takesAll_36 ?_
      refine jo_getI (k := 2) cl_6 (Nat.le_of_ble_eq_true rfl) lk_X10_42 (Or.inl rfl) kc_9 d_X10_takesAll_39 ?_
      refine jo_if_ne 94 d_X10_takesAll_42 (by decide) ?_ ?_
      · skip
        exact jO.sub (t_X10_takesAll_L94 hs n p2 hp2 M) (And.intro rfl True.intro)
      · skip
        refine jo_aload 0 d_X10_takesAll_45 rfl rfl ?_
        refine jo_getR (k := 0) cl_10 (Nat.le_of_ble_eq_true rfl) lk_X10_26 rfl kc_33 kr_33_0 d_X10_takesAll_46 ?_
        refine jo_getI (k := 4) cl_6 (Nat.le_of_ble_eq_true rfl) lk_X10_45 (Or.inl rfl) kc_9 d_X10_takesAll_49 ?_
        refine jo_if_eq 94 d_X10_takesAll_52 (by decide) ?_ ?_
        · skip
          exact jO.sub (t_X10_takesAll_L94 hs n p2 hp2 M) (And.intro rfl True.intro)
        · skip
          refine jo_aload 0 d_X10_takesAll_55 rfl rfl ?_
          refine jo_getR (k := 0) cl_10 (Nat.le_of_ble_eq_true rfl) lk_X10_26 rfl kc_33 kr_33_0 d_X10_takesAll_56 ?_
          refine jo_bipush 25 d_X10_takesAll_59 (by decide) ?_
          refine jo_callV (st := []) (m_X6_isAt hs n 25 M) ok_X6_isAt (And.intro (Nat.le_of_ble_eq_true rfl) (Nat.le_of_ble_eq_true rfl)) lm_X10_48 in_X6_isAt se_X6_isAt rfl kc_9 rfl rfl (And.intro (Nat.zero_le _) (Nat.zero_le _)) rfl (Nat.le_of_ble_eq_true rfl) d_X10_takesAll_61 (fun r1 M2 => ?_)
          refine jo_if_eq 74 d_X10_takesAll_64 (by decide) ?_ ?_
          · skip
            refine jo_aload 0 d_X10_takesAll_74 rfl rfl ?_
            refine jo_aload 2 d_X10_takesAll_75 rfl rfl ?_
            refine jo_callV (st := []) (m_X10_takeStep hs n p2 hp2 M2) ok_X10_takeStep (And.intro (Nat.le_of_ble_eq_true rfl) (Nat.le_of_ble_eq_true rfl)) lm_X10_55 in_X10_takeStep se_X10_takeStep rfl kc_33 rfl rfl (And.intro (Nat.zero_le _) (Nat.zero_le _)) rfl (Nat.le_of_ble_eq_true rfl) d_X10_takesAll_76 (fun _ M4 => ?_)
            exact jO.sub (t_X10_takesAll_L79 hs n p2 hp2 (f_X10_takesAll_L30 n p2 k) ih v1 v3 M4) (And.intro rfl (And.intro rfl (And.intro rfl (And.intro rfl True.intro))))
          · skip
            refine jo_aload 0 d_X10_takesAll_67 rfl rfl ?_
            refine jo_callV (st := []) (m_X10_takeEnd hs n M2) ok_X10_takeEnd (And.intro (Nat.le_of_ble_eq_true rfl) (Nat.le_of_ble_eq_true rfl)) lm_X10_52 in_X10_takeEnd se_X10_takeEnd rfl kc_33 rfl rfl (And.intro (Nat.zero_le _) (Nat.zero_le _)) rfl (Nat.le_of_ble_eq_true rfl) d_X10_takesAll_68 (fun _ M6 => ?_)
            refine jo_goto 79 d_X10_takesAll_71 (by decide) ?_
            exact jO.sub (t_X10_takesAll_L79 hs n p2 hp2 (f_X10_takesAll_L30 n p2 k) ih v1 v3 M6) (And.intro rfl (And.intro rfl (And.intro rfl (And.intro rfl True.intro))))
def f_X10_takesAll (n : Nat) (x1 : Int) (p2 : Nat) (M : JMem) : Option (Int × JMem) := bnd (f_X6_open n x1 M) fun _ M2 => bnd (f_X9_forget n 34 M2) fun _ M4 => chk (jw 1 = 0 ∨ jw 1 = 1) <| letm (jup M4 34 0 1) fun M5 => letm (jup M5 33 3 0) fun M6 => letv 0 fun y7 => f_X10_takesAll_L30 n p2 n x1 y7 M6
set_option maxRecDepth 4000 in
theorem t_X10_takesAll {g : JG} {ad : Nat → Nat} (hs : jStr g ad) (n : Nat) (x1 : Int) (p2 : Nat) (hp2 : jK jNN (0, 4) p2) (M : JMem) : jB g D_X10_takesAll ad 0 [some (.ref 33), some (ji x1), some (.ref p2), none] [] M (f_X10_takesAll n x1 p2 M) := by
  unfold f_X10_takesAll
  refine jo_aload 0 d_X10_takesAll_0 rfl rfl ?_
  refine jo_getR (k := 0) cl_10 (Nat.le_of_ble_eq_true rfl) lk_X10_26 rfl kc_33 kr_33_0 d_X10_takesAll_1 ?_
  refine jo_iload 1 d_X10_takesAll_4 rfl rfl ?_
  refine jo_callV (st := []) (m_X6_open hs n x1 M) ok_X6_open (And.intro (Nat.le_of_ble_eq_true rfl) (Nat.le_of_ble_eq_true rfl)) lm_X10_30 in_X6_open se_X6_open rfl kc_9 rfl rfl (And.intro (Nat.zero_le _) (Nat.zero_le _)) rfl (Nat.le_of_ble_eq_true rfl) d_X10_takesAll_5 (fun _ M2 => ?_)
  refine jo_aload 0 d_X10_takesAll_8 rfl rfl ?_
  refine jo_getR (k := 1) cl_10 (Nat.le_of_ble_eq_true rfl) lk_X10_12 rfl kc_33 kr_33_1 d_X10_takesAll_9 ?_
  refine jo_callV (st := []) (m_X9_forget hs n 34 kc_34 M2) ok_X9_forget (And.intro (Nat.le_of_ble_eq_true rfl) (Nat.le_of_ble_eq_true rfl)) lm_X10_35 in_X9_forget se_X9_forget rfl kc_34 rfl rfl (And.intro (Nat.zero_le _) (Nat.zero_le _)) rfl (Nat.le_of_ble_eq_true rfl) d_X10_takesAll_12 (fun _ M4 => ?_)
  refine jo_aload 0 d_X10_takesAll_15 rfl rfl ?_
  refine jo_getR (k := 1) cl_10 (Nat.le_of_ble_eq_true rfl) lk_X10_12 rfl kc_33 kr_33_1 d_X10_takesAll_16 ?_
  refine jo_iconst 1 d_X10_takesAll_19 ?_
  refine jo_putZ (k := 0) cl_9 (Nat.le_of_ble_eq_true rfl) lk_X10_38 rfl rfl kc_34 d_X10_takesAll_20 (fun M5 => ?_)
  refine jo_aload 0 d_X10_takesAll_23 rfl rfl ?_
  refine jo_iconst 0 d_X10_takesAll_24 ?_
  refine jo_putI (k := 3) cl_10 (Nat.le_of_ble_eq_true rfl) lk_X10_22 rfl rfl kc_33 d_X10_takesAll_25 (fun M6 => ?_)
  refine jo_iconst 0 d_X10_takesAll_28 ?_
  refine jo_istore 3 d_X10_takesAll_29 rfl (Nat.le_of_ble_eq_true rfl) (fun y7 => ?_)
  exact jO.sub (t_X10_takesAll_L30 hs n p2 hp2 n x1 y7 M6) (And.intro rfl (And.intro rfl (And.intro rfl (And.intro rfl True.intro))))
theorem m_X10_takesAll {g : JG} {ad : Nat → Nat} (hs : jStr g ad) (n : Nat) (x1 : Int) (p2 : Nat) (hp2 : jK jNN (0, 4) p2) (M : JMem) : jMet g jNN ad jR D_X10_takesAll yX10_takesAll [.ref 33, ji x1, .ref p2] M (f_X10_takesAll n x1 p2 M) :=
  jMet.of (lo0 := [some (.ref 33), some (ji x1), some (.ref p2), none]) (by decide) rfl rfl (Nat.le_of_ble_eq_true rfl) (And.intro rfl (And.intro rfl (And.intro rfl True.intro))) (t_X10_takesAll hs n x1 p2 hp2 M)
/-! CageLeave.allow()Z -/
def D_X11_allow : JD := (RX11, cX11_allow, 1, some .boolean, "allow", { frames := 0, cells := 0, slots := 0, locals := 0 })
theorem ok_X11_allow : jOk D_X11_allow yX11_allow 0 := ⟨jTW_mem (k := 698) (by decide +kernel) rfl, jTW_mem (k := 135) (by decide +kernel) rfl, ⟨by decide +kernel, by decide +kernel⟩, by decide +kernel, rfl, rfl⟩
theorem in_X11_allow : Cond.instanceMethod yX11_allow ∈ jTW := jTW_mem (k := 697) (by decide +kernel) rfl
theorem se_X11_allow : Cond.selects yX11_allow.cls yX11_allow yX11_allow ∈ jTW := jTW_mem (k := 1) (by decide +kernel) rfl
theorem lk_X11_9 : Cond.fieldLink RX11 9 (TX11 0).1 (TX11 0).2.1 (TX11 0).2.2.1 ∈ jTW := jTW_mem (k := 607) (by decide +kernel) rfl
theorem d_X11_allow_0 : decode (D_X11_allow).2.1 0 = .ok (.aload_n 0, 1) := by decide +kernel
theorem d_X11_allow_1 : decode (D_X11_allow).2.1 1 = .ok (.iconst 0, 1) := by decide +kernel
theorem d_X11_allow_2 : decode (D_X11_allow).2.1 2 = .ok (.putfield 9, 3) := by decide +kernel
theorem d_X11_allow_5 : decode (D_X11_allow).2.1 5 = .ok (.iconst 1, 1) := by decide +kernel
theorem d_X11_allow_6 : decode (D_X11_allow).2.1 6 = .ok (.ireturn, 1) := by decide +kernel
def f_X11_allow (n : Nat) (M : JMem) : Option (Int × JMem) := letm (jup M 0 0 0) fun M1 => some (1, M1)
set_option maxRecDepth 4000 in
theorem t_X11_allow {g : JG} {ad : Nat → Nat} (hs : jStr g ad) (n : Nat) (M : JMem) : jB g D_X11_allow ad 0 [some (.ref 0)] [] M (f_X11_allow n M) := by
  unfold f_X11_allow
  refine jo_aload 0 d_X11_allow_0 rfl rfl ?_
  refine jo_iconst 0 d_X11_allow_1 ?_
  refine jo_putI (k := 0) cl_11 (Nat.le_of_ble_eq_true rfl) lk_X11_9 rfl rfl kc_0 d_X11_allow_2 (fun M1 => ?_)
  refine jo_iconst 1 d_X11_allow_5 ?_
  exact jo_zret rfl (by decide) d_X11_allow_6
theorem m_X11_allow {g : JG} {ad : Nat → Nat} (hs : jStr g ad) (n : Nat) (M : JMem) : jMet g jNN ad jR D_X11_allow yX11_allow [.ref 0] M (f_X11_allow n M) :=
  jMet.of (lo0 := [some (.ref 0)]) (by decide) rfl rfl (Nat.le_of_ble_eq_true rfl) (And.intro rfl True.intro) (t_X11_allow hs n M)
/-! CageLeave.answer(I)I -/
def D_X11_answer : JD := (RX11, cX11_answer, 2, some .int, "answer", { frames := 0, cells := 0, slots := 0, locals := 0 })
theorem ok_X11_answer : jOk D_X11_answer yX11_answer 1 := ⟨jTW_mem (k := 890) (by decide +kernel) rfl, jTW_mem (k := 135) (by decide +kernel) rfl, ⟨by decide +kernel, by decide +kernel⟩, by decide +kernel, rfl, rfl⟩
theorem in_X11_answer : Cond.instanceMethod yX11_answer ∈ jTW := jTW_mem (k := 889) (by decide +kernel) rfl
theorem se_X11_answer : Cond.selects yX11_answer.cls yX11_answer yX11_answer ∈ jTW := jTW_mem (k := 13) (by decide +kernel) rfl
theorem d_X11_answer_0 : decode (D_X11_answer).2.1 0 = .ok (.aload_n 0, 1) := by decide +kernel
theorem d_X11_answer_1 : decode (D_X11_answer).2.1 1 = .ok (.iconst 0, 1) := by decide +kernel
theorem d_X11_answer_2 : decode (D_X11_answer).2.1 2 = .ok (.putfield 9, 3) := by decide +kernel
theorem d_X11_answer_5 : decode (D_X11_answer).2.1 5 = .ok (.iload_n 1, 1) := by decide +kernel
theorem d_X11_answer_6 : decode (D_X11_answer).2.1 6 = .ok (.ireturn, 1) := by decide +kernel
def f_X11_answer (n : Nat) (x1 : Int) (M : JMem) : Option (Int × JMem) := letm (jup M 0 0 0) fun M1 => some (x1, M1)
set_option maxRecDepth 4000 in
theorem t_X11_answer {g : JG} {ad : Nat → Nat} (hs : jStr g ad) (n : Nat) (x1 : Int) (M : JMem) : jB g D_X11_answer ad 0 [some (.ref 0), some (ji x1)] [] M (f_X11_answer n x1 M) := by
  unfold f_X11_answer
  refine jo_aload 0 d_X11_answer_0 rfl rfl ?_
  refine jo_iconst 0 d_X11_answer_1 ?_
  refine jo_putI (k := 0) cl_11 (Nat.le_of_ble_eq_true rfl) lk_X11_9 rfl rfl kc_0 d_X11_answer_2 (fun M1 => ?_)
  refine jo_iload 1 d_X11_answer_5 rfl rfl ?_
  exact jo_iret rfl d_X11_answer_6
theorem m_X11_answer {g : JG} {ad : Nat → Nat} (hs : jStr g ad) (n : Nat) (x1 : Int) (M : JMem) : jMet g jNN ad jR D_X11_answer yX11_answer [.ref 0, ji x1] M (f_X11_answer n x1 M) :=
  jMet.of (lo0 := [some (.ref 0), some (ji x1)]) (by decide) rfl rfl (Nat.le_of_ble_eq_true rfl) (And.intro rfl (And.intro rfl True.intro)) (t_X11_answer hs n x1 M)
/-! CageLeave.isBeast(I)Z -/
def D_X11_isBeast : JD := (RX11, cX11_isBeast, 2, some .boolean, "isBeast", { frames := 0, cells := 0, slots := 0, locals := 0 })
theorem ok_X11_isBeast : jOk D_X11_isBeast yX11_isBeast 1 := ⟨jTW_mem (k := 972) (by decide +kernel) rfl, jTW_mem (k := 135) (by decide +kernel) rfl, ⟨by decide +kernel, by decide +kernel⟩, by decide +kernel, rfl, rfl⟩
theorem in_X11_isBeast : Cond.instanceMethod yX11_isBeast ∈ jTW := jTW_mem (k := 971) (by decide +kernel) rfl
theorem se_X11_isBeast : Cond.selects yX11_isBeast.cls yX11_isBeast yX11_isBeast ∈ jTW := jTW_mem (k := 20) (by decide +kernel) rfl
theorem lk_X11_53 : Cond.fieldLink RX11 53 (TX11 7).1 (TX11 7).2.1 (TX11 7).2.2.1 ∈ jTW := jTW_mem (k := 614) (by decide +kernel) rfl
theorem lk_X11_190 : Cond.fieldLink RX11 190 (TX4 2).1 (TX4 2).2.1 (TX4 2).2.2.1 ∈ jTW := jTW_mem (k := 317) (by decide +kernel) rfl
theorem d_X11_isBeast_0 : decode (D_X11_isBeast).2.1 0 = .ok (.iload_n 1, 1) := by decide +kernel
theorem d_X11_isBeast_1 : decode (D_X11_isBeast).2.1 1 = .ok (.ifCond .lt 18, 3) := by decide +kernel
theorem d_X11_isBeast_4 : decode (D_X11_isBeast).2.1 4 = .ok (.iload_n 1, 1) := by decide +kernel
theorem d_X11_isBeast_5 : decode (D_X11_isBeast).2.1 5 = .ok (.aload_n 0, 1) := by decide +kernel
theorem d_X11_isBeast_6 : decode (D_X11_isBeast).2.1 6 = .ok (.getfield 53, 3) := by decide +kernel
theorem d_X11_isBeast_9 : decode (D_X11_isBeast).2.1 9 = .ok (.getfield 190, 3) := by decide +kernel
theorem d_X11_isBeast_12 : decode (D_X11_isBeast).2.1 12 = .ok (.if_icmp .ge 7, 3) := by decide +kernel
theorem d_X11_isBeast_15 : decode (D_X11_isBeast).2.1 15 = .ok (.iconst 1, 1) := by decide +kernel
theorem d_X11_isBeast_16 : decode (D_X11_isBeast).2.1 16 = .ok (.goto 4, 3) := by decide +kernel
theorem d_X11_isBeast_19 : decode (D_X11_isBeast).2.1 19 = .ok (.iconst 0, 1) := by decide +kernel
theorem d_X11_isBeast_20 : decode (D_X11_isBeast).2.1 20 = .ok (.ireturn, 1) := by decide +kernel
def f_X11_isBeast (n : Nat) (x1 : Int) (M : JMem) : Option (Int × JMem) := if jw x1 < 0 then (some (0, M)) else (if jw (M 40 2) ≤ jw x1 then (some (0, M)) else (some (1, M)))
set_option maxRecDepth 4000 in
theorem t_X11_isBeast {g : JG} {ad : Nat → Nat} (hs : jStr g ad) (n : Nat) (x1 : Int) (M : JMem) : jB g D_X11_isBeast ad 0 [some (.ref 0), some (ji x1)] [] M (f_X11_isBeast n x1 M) := by
  unfold f_X11_isBeast
  refine jo_iload 1 d_X11_isBeast_0 rfl rfl ?_
  refine jo_if_lt 19 d_X11_isBeast_1 (by decide) ?_ ?_
  · skip
    refine jo_iconst 0 d_X11_isBeast_19 ?_
    exact jo_zret rfl (by decide) d_X11_isBeast_20
  · skip
    refine jo_iload 1 d_X11_isBeast_4 rfl rfl ?_
    refine jo_aload 0 d_X11_isBeast_5 rfl rfl ?_
    refine jo_getR (k := 7) cl_11 (Nat.le_of_ble_eq_true rfl) lk_X11_53 rfl kc_0 kr_0_7 d_X11_isBeast_6 ?_
    refine jo_getI (k := 2) cl_4 (Nat.le_of_ble_eq_true rfl) lk_X11_190 (Or.inl rfl) kc_40 d_X11_isBeast_9 ?_
    refine jo_icmp_ge 19 d_X11_isBeast_12 (by decide) ?_ ?_
    · skip
      refine jo_iconst 0 d_X11_isBeast_19 ?_
      exact jo_zret rfl (by decide) d_X11_isBeast_20
    · skip
      refine jo_iconst 1 d_X11_isBeast_15 ?_
      refine jo_goto 20 d_X11_isBeast_16 (by decide) ?_
      exact jo_zret rfl (by decide) d_X11_isBeast_20
theorem m_X11_isBeast {g : JG} {ad : Nat → Nat} (hs : jStr g ad) (n : Nat) (x1 : Int) (M : JMem) : jMet g jNN ad jR D_X11_isBeast yX11_isBeast [.ref 0, ji x1] M (f_X11_isBeast n x1 M) :=
  jMet.of (lo0 := [some (.ref 0), some (ji x1)]) (by decide) rfl rfl (Nat.le_of_ble_eq_true rfl) (And.intro rfl (And.intro rfl True.intro)) (t_X11_isBeast hs n x1 M)
/-! CageLeave.areTwoBeasts(II)Z -/
def D_X11_areTwoBeasts : JD := (RX11, cX11_areTwoBeasts, 3, some .boolean, "areTwoBeasts", { frames := 1, cells := 0, slots := 0, locals := 21 })
theorem ok_X11_areTwoBeasts : jOk D_X11_areTwoBeasts yX11_areTwoBeasts 2 := ⟨jTW_mem (k := 1001) (by decide +kernel) rfl, jTW_mem (k := 135) (by decide +kernel) rfl, ⟨by decide +kernel, by decide +kernel⟩, by decide +kernel, rfl, rfl⟩
theorem in_X11_areTwoBeasts : Cond.instanceMethod yX11_areTwoBeasts ∈ jTW := jTW_mem (k := 1000) (by decide +kernel) rfl
theorem se_X11_areTwoBeasts : Cond.selects yX11_areTwoBeasts.cls yX11_areTwoBeasts yX11_areTwoBeasts ∈ jTW := jTW_mem (k := 22) (by decide +kernel) rfl
theorem lm_X11_264 : Cond.methodLink RX11 264 yX11_isBeast ∈ jTW := jTW_mem (k := 969) (by decide +kernel) rfl
theorem d_X11_areTwoBeasts_0 : decode (D_X11_areTwoBeasts).2.1 0 = .ok (.aload_n 0, 1) := by decide +kernel
theorem d_X11_areTwoBeasts_1 : decode (D_X11_areTwoBeasts).2.1 1 = .ok (.iload_n 1, 1) := by decide +kernel
theorem d_X11_areTwoBeasts_2 : decode (D_X11_areTwoBeasts).2.1 2 = .ok (.invokevirtual 264, 3) := by decide +kernel
theorem d_X11_areTwoBeasts_5 : decode (D_X11_areTwoBeasts).2.1 5 = .ok (.ifCond .eq 20, 3) := by decide +kernel
theorem d_X11_areTwoBeasts_8 : decode (D_X11_areTwoBeasts).2.1 8 = .ok (.aload_n 0, 1) := by decide +kernel
theorem d_X11_areTwoBeasts_9 : decode (D_X11_areTwoBeasts).2.1 9 = .ok (.iload_n 2, 1) := by decide +kernel
theorem d_X11_areTwoBeasts_10 : decode (D_X11_areTwoBeasts).2.1 10 = .ok (.invokevirtual 264, 3) := by decide +kernel
theorem d_X11_areTwoBeasts_13 : decode (D_X11_areTwoBeasts).2.1 13 = .ok (.ifCond .eq 12, 3) := by decide +kernel
theorem d_X11_areTwoBeasts_16 : decode (D_X11_areTwoBeasts).2.1 16 = .ok (.iload_n 1, 1) := by decide +kernel
theorem d_X11_areTwoBeasts_17 : decode (D_X11_areTwoBeasts).2.1 17 = .ok (.iload_n 2, 1) := by decide +kernel
theorem d_X11_areTwoBeasts_18 : decode (D_X11_areTwoBeasts).2.1 18 = .ok (.if_icmp .eq 7, 3) := by decide +kernel
theorem d_X11_areTwoBeasts_21 : decode (D_X11_areTwoBeasts).2.1 21 = .ok (.iconst 1, 1) := by decide +kernel
theorem d_X11_areTwoBeasts_22 : decode (D_X11_areTwoBeasts).2.1 22 = .ok (.goto 4, 3) := by decide +kernel
theorem d_X11_areTwoBeasts_25 : decode (D_X11_areTwoBeasts).2.1 25 = .ok (.iconst 0, 1) := by decide +kernel
theorem d_X11_areTwoBeasts_26 : decode (D_X11_areTwoBeasts).2.1 26 = .ok (.ireturn, 1) := by decide +kernel
def f_X11_areTwoBeasts (n : Nat) (x1 : Int) (x2 : Int) (M : JMem) : Option (Int × JMem) := bnd (f_X11_isBeast n x1 M) fun r1 M2 => if jw r1 = 0 then (some (0, M2)) else (bnd (f_X11_isBeast n x2 M2) fun r3 M4 => if jw r3 = 0 then (some (0, M4)) else (if jw x1 = jw x2 then (some (0, M4)) else (some (1, M4))))
set_option maxRecDepth 4000 in
theorem t_X11_areTwoBeasts {g : JG} {ad : Nat → Nat} (hs : jStr g ad) (n : Nat) (x1 : Int) (x2 : Int) (M : JMem) : jB g D_X11_areTwoBeasts ad 0 [some (.ref 0), some (ji x1), some (ji x2)] [] M (f_X11_areTwoBeasts n x1 x2 M) := by
  unfold f_X11_areTwoBeasts
  refine jo_aload 0 d_X11_areTwoBeasts_0 rfl rfl ?_
  refine jo_iload 1 d_X11_areTwoBeasts_1 rfl rfl ?_
  refine jo_callV (st := []) (m_X11_isBeast hs n x1 M) ok_X11_isBeast (And.intro (Nat.le_of_ble_eq_true rfl) (Nat.le_of_ble_eq_true rfl)) lm_X11_264 in_X11_isBeast se_X11_isBeast rfl kc_0 rfl rfl (And.intro (Nat.zero_le _) (Nat.zero_le _)) rfl (Nat.le_of_ble_eq_true rfl) d_X11_areTwoBeasts_2 (fun r1 M2 => ?_)
  refine jo_if_eq 25 d_X11_areTwoBeasts_5 (by decide) ?_ ?_
  · skip
    refine jo_iconst 0 d_X11_areTwoBeasts_25 ?_
    exact jo_zret rfl (by decide) d_X11_areTwoBeasts_26
  · skip
    refine jo_aload 0 d_X11_areTwoBeasts_8 rfl rfl ?_
    refine jo_iload 2 d_X11_areTwoBeasts_9 rfl rfl ?_
    refine jo_callV (st := []) (m_X11_isBeast hs n x2 M2) ok_X11_isBeast (And.intro (Nat.le_of_ble_eq_true rfl) (Nat.le_of_ble_eq_true rfl)) lm_X11_264 in_X11_isBeast se_X11_isBeast rfl kc_0 rfl rfl (And.intro (Nat.zero_le _) (Nat.zero_le _)) rfl (Nat.le_of_ble_eq_true rfl) d_X11_areTwoBeasts_10 (fun r3 M4 => ?_)
    refine jo_if_eq 25 d_X11_areTwoBeasts_13 (by decide) ?_ ?_
    · skip
      refine jo_iconst 0 d_X11_areTwoBeasts_25 ?_
      exact jo_zret rfl (by decide) d_X11_areTwoBeasts_26
    · skip
      refine jo_iload 1 d_X11_areTwoBeasts_16 rfl rfl ?_
      refine jo_iload 2 d_X11_areTwoBeasts_17 rfl rfl ?_
      refine jo_icmp_eq 25 d_X11_areTwoBeasts_18 (by decide) ?_ ?_
      · skip
        refine jo_iconst 0 d_X11_areTwoBeasts_25 ?_
        exact jo_zret rfl (by decide) d_X11_areTwoBeasts_26
      · skip
        refine jo_iconst 1 d_X11_areTwoBeasts_21 ?_
        refine jo_goto 26 d_X11_areTwoBeasts_22 (by decide) ?_
        exact jo_zret rfl (by decide) d_X11_areTwoBeasts_26
theorem m_X11_areTwoBeasts {g : JG} {ad : Nat → Nat} (hs : jStr g ad) (n : Nat) (x1 : Int) (x2 : Int) (M : JMem) : jMet g jNN ad jR D_X11_areTwoBeasts yX11_areTwoBeasts [.ref 0, ji x1, ji x2] M (f_X11_areTwoBeasts n x1 x2 M) :=
  jMet.of (lo0 := [some (.ref 0), some (ji x1), some (ji x2)]) (by decide) rfl rfl (Nat.le_of_ble_eq_true rfl) (And.intro rfl (And.intro rfl (And.intro rfl True.intro))) (t_X11_areTwoBeasts hs n x1 x2 M)
/-! CageLeave.refuse(I)I -/
def D_X11_refuse : JD := (RX11, cX11_refuse, 2, some .int, "refuse", { frames := 0, cells := 0, slots := 0, locals := 0 })
theorem ok_X11_refuse : jOk D_X11_refuse yX11_refuse 1 := ⟨jTW_mem (k := 727) (by decide +kernel) rfl, jTW_mem (k := 135) (by decide +kernel) rfl, ⟨by decide +kernel, by decide +kernel⟩, by decide +kernel, rfl, rfl⟩
theorem in_X11_refuse : Cond.instanceMethod yX11_refuse ∈ jTW := jTW_mem (k := 726) (by decide +kernel) rfl
theorem se_X11_refuse : Cond.selects yX11_refuse.cls yX11_refuse yX11_refuse ∈ jTW := jTW_mem (k := 2) (by decide +kernel) rfl
theorem d_X11_refuse_0 : decode (D_X11_refuse).2.1 0 = .ok (.aload_n 0, 1) := by decide +kernel
theorem d_X11_refuse_1 : decode (D_X11_refuse).2.1 1 = .ok (.iload_n 1, 1) := by decide +kernel
theorem d_X11_refuse_2 : decode (D_X11_refuse).2.1 2 = .ok (.putfield 9, 3) := by decide +kernel
theorem d_X11_refuse_5 : decode (D_X11_refuse).2.1 5 = .ok (.iconst (-1), 1) := by decide +kernel
theorem d_X11_refuse_6 : decode (D_X11_refuse).2.1 6 = .ok (.ireturn, 1) := by decide +kernel
def f_X11_refuse (n : Nat) (x1 : Int) (M : JMem) : Option (Int × JMem) := letm (jup M 0 0 x1) fun M1 => some ((-1), M1)
set_option maxRecDepth 4000 in
theorem t_X11_refuse {g : JG} {ad : Nat → Nat} (hs : jStr g ad) (n : Nat) (x1 : Int) (M : JMem) : jB g D_X11_refuse ad 0 [some (.ref 0), some (ji x1)] [] M (f_X11_refuse n x1 M) := by
  unfold f_X11_refuse
  refine jo_aload 0 d_X11_refuse_0 rfl rfl ?_
  refine jo_iload 1 d_X11_refuse_1 rfl rfl ?_
  refine jo_putI (k := 0) cl_11 (Nat.le_of_ble_eq_true rfl) lk_X11_9 rfl rfl kc_0 d_X11_refuse_2 (fun M1 => ?_)
  refine jo_iconst (-1) d_X11_refuse_5 ?_
  exact jo_iret rfl d_X11_refuse_6
theorem m_X11_refuse {g : JG} {ad : Nat → Nat} (hs : jStr g ad) (n : Nat) (x1 : Int) (M : JMem) : jMet g jNN ad jR D_X11_refuse yX11_refuse [.ref 0, ji x1] M (f_X11_refuse n x1 M) :=
  jMet.of (lo0 := [some (.ref 0), some (ji x1)]) (by decide) rfl rfl (Nat.le_of_ble_eq_true rfl) (And.intro rfl (And.intro rfl True.intro)) (t_X11_refuse hs n x1 M)
/-! CageLeave.at(I)I -/
def D_X11_at : JD := (RX11, cX11_at, 2, some .int, "at", { frames := 2, cells := 0, slots := 0, locals := 44 })
theorem ok_X11_at : jOk D_X11_at yX11_at 1 := ⟨jTW_mem (k := 976) (by decide +kernel) rfl, jTW_mem (k := 135) (by decide +kernel) rfl, ⟨by decide +kernel, by decide +kernel⟩, by decide +kernel, rfl, rfl⟩
theorem in_X11_at : Cond.instanceMethod yX11_at ∈ jTW := jTW_mem (k := 974) (by decide +kernel) rfl
theorem se_X11_at : Cond.selects yX11_at.cls yX11_at yX11_at ∈ jTW := jTW_mem (k := 975) (by decide +kernel) rfl
theorem lk_X11_60 : Cond.fieldLink RX11 60 (TX11 8).1 (TX11 8).2.1 (TX11 8).2.2.1 ∈ jTW := jTW_mem (k := 615) (by decide +kernel) rfl
theorem lm_X11_282 : Cond.methodLink RX11 282 yX1_isEaten ∈ jTW := jTW_mem (k := 977) (by decide +kernel) rfl
theorem lm_X11_285 : Cond.methodLink RX11 285 yX1_spotOf ∈ jTW := jTW_mem (k := 982) (by decide +kernel) rfl
theorem lm_X11_193 : Cond.methodLink RX11 193 yX11_answer ∈ jTW := jTW_mem (k := 887) (by decide +kernel) rfl
theorem lm_X11_143 : Cond.methodLink RX11 143 yX11_refuse ∈ jTW := jTW_mem (k := 724) (by decide +kernel) rfl
theorem d_X11_at_0 : decode (D_X11_at).2.1 0 = .ok (.aload_n 0, 1) := by decide +kernel
theorem d_X11_at_1 : decode (D_X11_at).2.1 1 = .ok (.iload_n 1, 1) := by decide +kernel
theorem d_X11_at_2 : decode (D_X11_at).2.1 2 = .ok (.invokevirtual 264, 3) := by decide +kernel
theorem d_X11_at_5 : decode (D_X11_at).2.1 5 = .ok (.ifCond .ne 9, 3) := by decide +kernel
theorem d_X11_at_8 : decode (D_X11_at).2.1 8 = .ok (.aload_n 0, 1) := by decide +kernel
theorem d_X11_at_9 : decode (D_X11_at).2.1 9 = .ok (.iconst 1, 1) := by decide +kernel
theorem d_X11_at_10 : decode (D_X11_at).2.1 10 = .ok (.invokevirtual 143, 3) := by decide +kernel
theorem d_X11_at_13 : decode (D_X11_at).2.1 13 = .ok (.ireturn, 1) := by decide +kernel
theorem d_X11_at_14 : decode (D_X11_at).2.1 14 = .ok (.aload_n 0, 1) := by decide +kernel
theorem d_X11_at_15 : decode (D_X11_at).2.1 15 = .ok (.getfield 60, 3) := by decide +kernel
theorem d_X11_at_18 : decode (D_X11_at).2.1 18 = .ok (.iload_n 1, 1) := by decide +kernel
theorem d_X11_at_19 : decode (D_X11_at).2.1 19 = .ok (.invokevirtual 282, 3) := by decide +kernel
theorem d_X11_at_22 : decode (D_X11_at).2.1 22 = .ok (.ifCond .eq 10, 3) := by decide +kernel
theorem d_X11_at_25 : decode (D_X11_at).2.1 25 = .ok (.aload_n 0, 1) := by decide +kernel
theorem d_X11_at_26 : decode (D_X11_at).2.1 26 = .ok (.bipush 6, 2) := by decide +kernel
theorem d_X11_at_28 : decode (D_X11_at).2.1 28 = .ok (.invokevirtual 143, 3) := by decide +kernel
theorem d_X11_at_31 : decode (D_X11_at).2.1 31 = .ok (.ireturn, 1) := by decide +kernel
theorem d_X11_at_32 : decode (D_X11_at).2.1 32 = .ok (.aload_n 0, 1) := by decide +kernel
theorem d_X11_at_33 : decode (D_X11_at).2.1 33 = .ok (.aload_n 0, 1) := by decide +kernel
theorem d_X11_at_34 : decode (D_X11_at).2.1 34 = .ok (.getfield 60, 3) := by decide +kernel
theorem d_X11_at_37 : decode (D_X11_at).2.1 37 = .ok (.aload_n 0, 1) := by decide +kernel
theorem d_X11_at_38 : decode (D_X11_at).2.1 38 = .ok (.getfield 53, 3) := by decide +kernel
theorem d_X11_at_41 : decode (D_X11_at).2.1 41 = .ok (.iload_n 1, 1) := by decide +kernel
theorem d_X11_at_42 : decode (D_X11_at).2.1 42 = .ok (.invokevirtual 285, 3) := by decide +kernel
theorem d_X11_at_45 : decode (D_X11_at).2.1 45 = .ok (.invokevirtual 193, 3) := by decide +kernel
theorem d_X11_at_48 : decode (D_X11_at).2.1 48 = .ok (.ireturn, 1) := by decide +kernel
def f_X11_at (n : Nat) (x1 : Int) (M : JMem) : Option (Int × JMem) := bnd (f_X11_isBeast n x1 M) fun r1 M2 => if jw r1 = 0 then (bnd (f_X11_refuse n 1 M2) fun r11 M12 => some (r11, M12)) else (bnd (f_X1_isEaten n 52 x1 M2) fun r3 M4 => if jw r3 = 0 then (bnd (f_X1_spotOf n 52 40 x1 M4) fun r5 M6 => bnd (f_X11_answer n r5 M6) fun r7 M8 => some (r7, M8)) else (bnd (f_X11_refuse n 6 M4) fun r9 M10 => some (r9, M10)))
set_option maxRecDepth 4000 in
theorem t_X11_at {g : JG} {ad : Nat → Nat} (hs : jStr g ad) (n : Nat) (x1 : Int) (M : JMem) : jB g D_X11_at ad 0 [some (.ref 0), some (ji x1)] [] M (f_X11_at n x1 M) := by
  unfold f_X11_at
  refine jo_aload 0 d_X11_at_0 rfl rfl ?_
  refine jo_iload 1 d_X11_at_1 rfl rfl ?_
  refine jo_callV (st := []) (m_X11_isBeast hs n x1 M) ok_X11_isBeast (And.intro (Nat.le_of_ble_eq_true rfl) (Nat.le_of_ble_eq_true rfl)) lm_X11_264 in_X11_isBeast se_X11_isBeast rfl kc_0 rfl rfl (And.intro (Nat.zero_le _) (Nat.zero_le _)) rfl (Nat.le_of_ble_eq_true rfl) d_X11_at_2 (fun r1 M2 => ?_)
  refine jo_if_ne 14 d_X11_at_5 (by decide) ?_ ?_
  · skip
    refine jo_aload 0 d_X11_at_14 rfl rfl ?_
    refine jo_getR (k := 8) cl_11 (Nat.le_of_ble_eq_true rfl) lk_X11_60 rfl kc_0 kr_0_8 d_X11_at_15 ?_
    refine jo_iload 1 d_X11_at_18 rfl rfl ?_
    refine jo_callV (st := []) (m_X1_isEaten hs n 52 x1 kc_52 M2) ok_X1_isEaten (And.intro (Nat.le_of_ble_eq_true rfl) (Nat.le_of_ble_eq_true rfl)) lm_X11_282 in_X1_isEaten se_X1_isEaten rfl kc_52 rfl rfl (And.intro (Nat.zero_le _) (Nat.zero_le _)) rfl (Nat.le_of_ble_eq_true rfl) d_X11_at_19 (fun r3 M4 => ?_)
    refine jo_if_eq 32 d_X11_at_22 (by decide) ?_ ?_
    · skip
      refine jo_aload 0 d_X11_at_32 rfl rfl ?_
      refine jo_aload 0 d_X11_at_33 rfl rfl ?_
      refine jo_getR (k := 8) cl_11 (Nat.le_of_ble_eq_true rfl) lk_X11_60 rfl kc_0 kr_0_8 d_X11_at_34 ?_
      refine jo_aload 0 d_X11_at_37 rfl rfl ?_
      refine jo_getR (k := 7) cl_11 (Nat.le_of_ble_eq_true rfl) lk_X11_53 rfl kc_0 kr_0_7 d_X11_at_38 ?_
      refine jo_iload 1 d_X11_at_41 rfl rfl ?_
      refine jo_callV (st := [.ref 0]) (m_X1_spotOf hs n 52 40 x1 kc_52 kc_40 M4) ok_X1_spotOf (And.intro (Nat.le_of_ble_eq_true rfl) (Nat.le_of_ble_eq_true rfl)) lm_X11_285 in_X1_spotOf se_X1_spotOf rfl kc_52 rfl rfl (And.intro (Nat.zero_le _) (Nat.zero_le _)) rfl (Nat.le_of_ble_eq_true rfl) d_X11_at_42 (fun r5 M6 => ?_)
      refine jo_callV (st := []) (m_X11_answer hs n r5 M6) ok_X11_answer (And.intro (Nat.le_of_ble_eq_true rfl) (Nat.le_of_ble_eq_true rfl)) lm_X11_193 in_X11_answer se_X11_answer rfl kc_0 rfl rfl (And.intro (Nat.zero_le _) (Nat.zero_le _)) rfl (Nat.le_of_ble_eq_true rfl) d_X11_at_45 (fun r7 M8 => ?_)
      exact jo_iret rfl d_X11_at_48
    · skip
      refine jo_aload 0 d_X11_at_25 rfl rfl ?_
      refine jo_bipush 6 d_X11_at_26 (by decide) ?_
      refine jo_callV (st := []) (m_X11_refuse hs n 6 M4) ok_X11_refuse (And.intro (Nat.le_of_ble_eq_true rfl) (Nat.le_of_ble_eq_true rfl)) lm_X11_143 in_X11_refuse se_X11_refuse rfl kc_0 rfl rfl (And.intro (Nat.zero_le _) (Nat.zero_le _)) rfl (Nat.le_of_ble_eq_true rfl) d_X11_at_28 (fun r9 M10 => ?_)
      exact jo_iret rfl d_X11_at_31
  · skip
    refine jo_aload 0 d_X11_at_8 rfl rfl ?_
    refine jo_iconst 1 d_X11_at_9 ?_
    refine jo_callV (st := []) (m_X11_refuse hs n 1 M2) ok_X11_refuse (And.intro (Nat.le_of_ble_eq_true rfl) (Nat.le_of_ble_eq_true rfl)) lm_X11_143 in_X11_refuse se_X11_refuse rfl kc_0 rfl rfl (And.intro (Nat.zero_le _) (Nat.zero_le _)) rfl (Nat.le_of_ble_eq_true rfl) d_X11_at_10 (fun r11 M12 => ?_)
    exact jo_iret rfl d_X11_at_13
theorem m_X11_at {g : JG} {ad : Nat → Nat} (hs : jStr g ad) (n : Nat) (x1 : Int) (M : JMem) : jMet g jNN ad jR D_X11_at yX11_at [.ref 0, ji x1] M (f_X11_at n x1 M) :=
  jMet.of (lo0 := [some (.ref 0), some (ji x1)]) (by decide) rfl rfl (Nat.le_of_ble_eq_true rfl) (And.intro rfl (And.intro rfl True.intro)) (t_X11_at hs n x1 M)
/-! CageLeave.isSet(I)Z -/
def D_X11_isSet : JD := (RX11, cX11_isSet, 2, some .boolean, "isSet", { frames := 0, cells := 0, slots := 0, locals := 0 })
theorem ok_X11_isSet : jOk D_X11_isSet yX11_isSet 1 := ⟨jTW_mem (k := 1132) (by decide +kernel) rfl, jTW_mem (k := 135) (by decide +kernel) rfl, ⟨by decide +kernel, by decide +kernel⟩, by decide +kernel, rfl, rfl⟩
theorem in_X11_isSet : Cond.instanceMethod yX11_isSet ∈ jTW := jTW_mem (k := 1131) (by decide +kernel) rfl
theorem se_X11_isSet : Cond.selects yX11_isSet.cls yX11_isSet yX11_isSet ∈ jTW := jTW_mem (k := 32) (by decide +kernel) rfl
theorem d_X11_isSet_0 : decode (D_X11_isSet).2.1 0 = .ok (.iload_n 1, 1) := by decide +kernel
theorem d_X11_isSet_1 : decode (D_X11_isSet).2.1 1 = .ok (.ifCond .lt 20, 3) := by decide +kernel
theorem d_X11_isSet_4 : decode (D_X11_isSet).2.1 4 = .ok (.iload_n 1, 1) := by decide +kernel
theorem d_X11_isSet_5 : decode (D_X11_isSet).2.1 5 = .ok (.iconst 1, 1) := by decide +kernel
theorem d_X11_isSet_6 : decode (D_X11_isSet).2.1 6 = .ok (.aload_n 0, 1) := by decide +kernel
theorem d_X11_isSet_7 : decode (D_X11_isSet).2.1 7 = .ok (.getfield 53, 3) := by decide +kernel
theorem d_X11_isSet_10 : decode (D_X11_isSet).2.1 10 = .ok (.getfield 190, 3) := by decide +kernel
theorem d_X11_isSet_13 : decode (D_X11_isSet).2.1 13 = .ok (.ishl, 1) := by decide +kernel
theorem d_X11_isSet_14 : decode (D_X11_isSet).2.1 14 = .ok (.if_icmp .ge 7, 3) := by decide +kernel
theorem d_X11_isSet_17 : decode (D_X11_isSet).2.1 17 = .ok (.iconst 1, 1) := by decide +kernel
theorem d_X11_isSet_18 : decode (D_X11_isSet).2.1 18 = .ok (.goto 4, 3) := by decide +kernel
theorem d_X11_isSet_21 : decode (D_X11_isSet).2.1 21 = .ok (.iconst 0, 1) := by decide +kernel
theorem d_X11_isSet_22 : decode (D_X11_isSet).2.1 22 = .ok (.ireturn, 1) := by decide +kernel
def f_X11_isSet (n : Nat) (x1 : Int) (M : JMem) : Option (Int × JMem) := if jw x1 < 0 then (some (0, M)) else (if jw (jshl 1 (M 40 2)) ≤ jw x1 then (some (0, M)) else (some (1, M)))
set_option maxRecDepth 4000 in
theorem t_X11_isSet {g : JG} {ad : Nat → Nat} (hs : jStr g ad) (n : Nat) (x1 : Int) (M : JMem) : jB g D_X11_isSet ad 0 [some (.ref 0), some (ji x1)] [] M (f_X11_isSet n x1 M) := by
  unfold f_X11_isSet
  refine jo_iload 1 d_X11_isSet_0 rfl rfl ?_
  refine jo_if_lt 21 d_X11_isSet_1 (by decide) ?_ ?_
  · skip
    refine jo_iconst 0 d_X11_isSet_21 ?_
    exact jo_zret rfl (by decide) d_X11_isSet_22
  · skip
    refine jo_iload 1 d_X11_isSet_4 rfl rfl ?_
    refine jo_iconst 1 d_X11_isSet_5 ?_
    refine jo_aload 0 d_X11_isSet_6 rfl rfl ?_
    refine jo_getR (k := 7) cl_11 (Nat.le_of_ble_eq_true rfl) lk_X11_53 rfl kc_0 kr_0_7 d_X11_isSet_7 ?_
    refine jo_getI (k := 2) cl_4 (Nat.le_of_ble_eq_true rfl) lk_X11_190 (Or.inl rfl) kc_40 d_X11_isSet_10 ?_
    refine jo_ishl d_X11_isSet_13 ?_
    refine jo_icmp_ge 21 d_X11_isSet_14 (by decide) ?_ ?_
    · skip
      refine jo_iconst 0 d_X11_isSet_21 ?_
      exact jo_zret rfl (by decide) d_X11_isSet_22
    · skip
      refine jo_iconst 1 d_X11_isSet_17 ?_
      refine jo_goto 22 d_X11_isSet_18 (by decide) ?_
      exact jo_zret rfl (by decide) d_X11_isSet_22
theorem m_X11_isSet {g : JG} {ad : Nat → Nat} (hs : jStr g ad) (n : Nat) (x1 : Int) (M : JMem) : jMet g jNN ad jR D_X11_isSet yX11_isSet [.ref 0, ji x1] M (f_X11_isSet n x1 M) :=
  jMet.of (lo0 := [some (.ref 0), some (ji x1)]) (by decide) rfl rfl (Nat.le_of_ble_eq_true rfl) (And.intro rfl (And.intro rfl True.intro)) (t_X11_isSet hs n x1 M)
/-! CageLeave.deny(I)Z -/
def D_X11_deny : JD := (RX11, cX11_deny, 2, some .boolean, "deny", { frames := 0, cells := 0, slots := 0, locals := 0 })
theorem ok_X11_deny : jOk D_X11_deny yX11_deny 1 := ⟨jTW_mem (k := 690) (by decide +kernel) rfl, jTW_mem (k := 135) (by decide +kernel) rfl, ⟨by decide +kernel, by decide +kernel⟩, by decide +kernel, rfl, rfl⟩
theorem in_X11_deny : Cond.instanceMethod yX11_deny ∈ jTW := jTW_mem (k := 689) (by decide +kernel) rfl
theorem se_X11_deny : Cond.selects yX11_deny.cls yX11_deny yX11_deny ∈ jTW := jTW_mem (k := 0) (by decide +kernel) rfl
theorem d_X11_deny_0 : decode (D_X11_deny).2.1 0 = .ok (.aload_n 0, 1) := by decide +kernel
theorem d_X11_deny_1 : decode (D_X11_deny).2.1 1 = .ok (.iload_n 1, 1) := by decide +kernel
theorem d_X11_deny_2 : decode (D_X11_deny).2.1 2 = .ok (.putfield 9, 3) := by decide +kernel
theorem d_X11_deny_5 : decode (D_X11_deny).2.1 5 = .ok (.iconst 0, 1) := by decide +kernel
theorem d_X11_deny_6 : decode (D_X11_deny).2.1 6 = .ok (.ireturn, 1) := by decide +kernel
def f_X11_deny (n : Nat) (x1 : Int) (M : JMem) : Option (Int × JMem) := letm (jup M 0 0 x1) fun M1 => some (0, M1)
set_option maxRecDepth 4000 in
theorem t_X11_deny {g : JG} {ad : Nat → Nat} (hs : jStr g ad) (n : Nat) (x1 : Int) (M : JMem) : jB g D_X11_deny ad 0 [some (.ref 0), some (ji x1)] [] M (f_X11_deny n x1 M) := by
  unfold f_X11_deny
  refine jo_aload 0 d_X11_deny_0 rfl rfl ?_
  refine jo_iload 1 d_X11_deny_1 rfl rfl ?_
  refine jo_putI (k := 0) cl_11 (Nat.le_of_ble_eq_true rfl) lk_X11_9 rfl rfl kc_0 d_X11_deny_2 (fun M1 => ?_)
  refine jo_iconst 0 d_X11_deny_5 ?_
  exact jo_zret rfl (by decide) d_X11_deny_6
theorem m_X11_deny {g : JG} {ad : Nat → Nat} (hs : jStr g ad) (n : Nat) (x1 : Int) (M : JMem) : jMet g jNN ad jR D_X11_deny yX11_deny [.ref 0, ji x1] M (f_X11_deny n x1 M) :=
  jMet.of (lo0 := [some (.ref 0), some (ji x1)]) (by decide) rfl rfl (Nat.le_of_ble_eq_true rfl) (And.intro rfl (And.intro rfl True.intro)) (t_X11_deny hs n x1 M)
/-! CageLeave.chancesOf(II)J -/
def D_X11_chancesOf : JD := (RX11, cX11_chancesOf, 6, some .long, "chancesOf", { frames := 1, cells := 0, slots := 0, locals := 21 })
theorem ok_X11_chancesOf : jOk D_X11_chancesOf yX11_chancesOf 2 := ⟨jTW_mem (k := 1237) (by decide +kernel) rfl, jTW_mem (k := 135) (by decide +kernel) rfl, ⟨by decide +kernel, by decide +kernel⟩, by decide +kernel, rfl, rfl⟩
theorem in_X11_chancesOf : Cond.instanceMethod yX11_chancesOf ∈ jTW := jTW_mem (k := 1236) (by decide +kernel) rfl
theorem se_X11_chancesOf : Cond.selects yX11_chancesOf.cls yX11_chancesOf yX11_chancesOf ∈ jTW := jTW_mem (k := 37) (by decide +kernel) rfl
theorem lm_X11_310 : Cond.methodLink RX11 310 yX11_isIn ∈ jTW := jTW_mem (k := 1055) (by decide +kernel) rfl
theorem lk_X11_270 : Cond.fieldLink RX11 270 (TX4 14).1 (TX4 14).2.1 (TX4 14).2.2.1 ∈ jTW := jTW_mem (k := 356) (by decide +kernel) rfl
theorem d_X11_chancesOf_0 : decode (D_X11_chancesOf).2.1 0 = .ok (.lconst 1, 1) := by decide +kernel
theorem d_X11_chancesOf_1 : decode (D_X11_chancesOf).2.1 1 = .ok (.lstore_n 3, 1) := by decide +kernel
theorem d_X11_chancesOf_2 : decode (D_X11_chancesOf).2.1 2 = .ok (.iconst 0, 1) := by decide +kernel
theorem d_X11_chancesOf_3 : decode (D_X11_chancesOf).2.1 3 = .ok (.istore 5, 2) := by decide +kernel
theorem d_X11_chancesOf_5 : decode (D_X11_chancesOf).2.1 5 = .ok (.iload 5, 2) := by decide +kernel
theorem d_X11_chancesOf_7 : decode (D_X11_chancesOf).2.1 7 = .ok (.aload_n 0, 1) := by decide +kernel
theorem d_X11_chancesOf_8 : decode (D_X11_chancesOf).2.1 8 = .ok (.getfield 53, 3) := by decide +kernel
theorem d_X11_chancesOf_11 : decode (D_X11_chancesOf).2.1 11 = .ok (.getfield 190, 3) := by decide +kernel
theorem d_X11_chancesOf_14 : decode (D_X11_chancesOf).2.1 14 = .ok (.if_icmp .ge 58, 3) := by decide +kernel
theorem d_X11_chancesOf_17 : decode (D_X11_chancesOf).2.1 17 = .ok (.iload_n 1, 1) := by decide +kernel
theorem d_X11_chancesOf_18 : decode (D_X11_chancesOf).2.1 18 = .ok (.iload 5, 2) := by decide +kernel
theorem d_X11_chancesOf_20 : decode (D_X11_chancesOf).2.1 20 = .ok (.invokestatic 310, 3) := by decide +kernel
theorem d_X11_chancesOf_23 : decode (D_X11_chancesOf).2.1 23 = .ok (.ifCond .eq 43, 3) := by decide +kernel
theorem d_X11_chancesOf_26 : decode (D_X11_chancesOf).2.1 26 = .ok (.lload_n 3, 1) := by decide +kernel
theorem d_X11_chancesOf_27 : decode (D_X11_chancesOf).2.1 27 = .ok (.iload_n 2, 1) := by decide +kernel
theorem d_X11_chancesOf_28 : decode (D_X11_chancesOf).2.1 28 = .ok (.iload 5, 2) := by decide +kernel
theorem d_X11_chancesOf_30 : decode (D_X11_chancesOf).2.1 30 = .ok (.invokestatic 310, 3) := by decide +kernel
theorem d_X11_chancesOf_33 : decode (D_X11_chancesOf).2.1 33 = .ok (.ifCond .eq 17, 3) := by decide +kernel
theorem d_X11_chancesOf_36 : decode (D_X11_chancesOf).2.1 36 = .ok (.aload_n 0, 1) := by decide +kernel
theorem d_X11_chancesOf_37 : decode (D_X11_chancesOf).2.1 37 = .ok (.getfield 53, 3) := by decide +kernel
theorem d_X11_chancesOf_40 : decode (D_X11_chancesOf).2.1 40 = .ok (.getfield 270, 3) := by decide +kernel
theorem d_X11_chancesOf_43 : decode (D_X11_chancesOf).2.1 43 = .ok (.iload 5, 2) := by decide +kernel
theorem d_X11_chancesOf_45 : decode (D_X11_chancesOf).2.1 45 = .ok (.iaload, 1) := by decide +kernel
theorem d_X11_chancesOf_46 : decode (D_X11_chancesOf).2.1 46 = .ok (.i2l, 1) := by decide +kernel
theorem d_X11_chancesOf_47 : decode (D_X11_chancesOf).2.1 47 = .ok (.goto 17, 3) := by decide +kernel
theorem d_X11_chancesOf_50 : decode (D_X11_chancesOf).2.1 50 = .ok (.bipush 16, 2) := by decide +kernel
theorem d_X11_chancesOf_52 : decode (D_X11_chancesOf).2.1 52 = .ok (.aload_n 0, 1) := by decide +kernel
theorem d_X11_chancesOf_53 : decode (D_X11_chancesOf).2.1 53 = .ok (.getfield 53, 3) := by decide +kernel
theorem d_X11_chancesOf_56 : decode (D_X11_chancesOf).2.1 56 = .ok (.getfield 270, 3) := by decide +kernel
theorem d_X11_chancesOf_59 : decode (D_X11_chancesOf).2.1 59 = .ok (.iload 5, 2) := by decide +kernel
theorem d_X11_chancesOf_61 : decode (D_X11_chancesOf).2.1 61 = .ok (.iaload, 1) := by decide +kernel
theorem d_X11_chancesOf_62 : decode (D_X11_chancesOf).2.1 62 = .ok (.isub, 1) := by decide +kernel
theorem d_X11_chancesOf_63 : decode (D_X11_chancesOf).2.1 63 = .ok (.i2l, 1) := by decide +kernel
theorem d_X11_chancesOf_64 : decode (D_X11_chancesOf).2.1 64 = .ok (.lmul, 1) := by decide +kernel
theorem d_X11_chancesOf_65 : decode (D_X11_chancesOf).2.1 65 = .ok (.lstore_n 3, 1) := by decide +kernel
theorem d_X11_chancesOf_66 : decode (D_X11_chancesOf).2.1 66 = .ok (.iinc 5 1, 3) := by decide +kernel
theorem d_X11_chancesOf_69 : decode (D_X11_chancesOf).2.1 69 = .ok (.goto (-64), 3) := by decide +kernel
theorem d_X11_chancesOf_72 : decode (D_X11_chancesOf).2.1 72 = .ok (.lload_n 3, 1) := by decide +kernel
theorem d_X11_chancesOf_73 : decode (D_X11_chancesOf).2.1 73 = .ok (.lreturn, 1) := by decide +kernel
def f_X11_chancesOf_L66 (n : Nat) (r5 : Int → Int → Int → Int → JMem → Option (Int × JMem)) (v1 v2 v3 v5 : Int) (M : JMem) : Option (Int × JMem) := letv (v5 + 1) fun y1 => r5 v1 v2 v3 y1 M
set_option maxRecDepth 4000 in
theorem t_X11_chancesOf_L66 {g : JG} {ad : Nat → Nat} (hs : jStr g ad) (n : Nat) (r5 : Int → Int → Int → Int → JMem → Option (Int × JMem)) (hr5 : ∀ (v1 v2 v3 v5 : Int) (M : JMem), jB g D_X11_chancesOf ad 5 [some (.ref 0), some (ji v1), some (ji v2), some (jl v3), none, some (ji v5)] [] M (r5 v1 v2 v3 v5 M)) (v1 v2 v3 v5 : Int) (M : JMem) : jB g D_X11_chancesOf ad 66 [some (.ref 0), some (ji v1), some (ji v2), some (jl v3), none, some (ji v5)] [] M (f_X11_chancesOf_L66 n r5 v1 v2 v3 v5 M) := by
  unfold f_X11_chancesOf_L66
  refine jo_iinc 5 d_X11_chancesOf_66 rfl (Nat.le_of_ble_eq_true rfl) (fun y1 => ?_)
  refine jo_goto 5 d_X11_chancesOf_69 (by decide) ?_
  exact jO.sub (hr5 v1 v2 v3 y1 M) (And.intro rfl (And.intro rfl (And.intro rfl (And.intro rfl (And.intro rfl True.intro)))))
def f_X11_chancesOf_L64 (n : Nat) (r5 : Int → Int → Int → Int → JMem → Option (Int × JMem)) (v1 v2 v5 w0 w1 : Int) (M : JMem) : Option (Int × JMem) := letv (w0 * w1) fun y1 => f_X11_chancesOf_L66 n r5 v1 v2 y1 v5 M
set_option maxRecDepth 4000 in
theorem t_X11_chancesOf_L64 {g : JG} {ad : Nat → Nat} (hs : jStr g ad) (n : Nat) (r5 : Int → Int → Int → Int → JMem → Option (Int × JMem)) (hr5 : ∀ (v1 v2 v3 v5 : Int) (M : JMem), jB g D_X11_chancesOf ad 5 [some (.ref 0), some (ji v1), some (ji v2), some (jl v3), none, some (ji v5)] [] M (r5 v1 v2 v3 v5 M)) (v1 v2 v5 w0 w1 : Int) (M : JMem) : jB g D_X11_chancesOf ad 64 [some (.ref 0), some (ji v1), some (ji v2), none, none, some (ji v5)] [jl w1, jl w0] M (f_X11_chancesOf_L64 n r5 v1 v2 v5 w0 w1 M) := by
  unfold f_X11_chancesOf_L64
  refine jo_lmul d_X11_chancesOf_64 ?_
  refine jo_lstore 3 d_X11_chancesOf_65 rfl (Nat.le_of_ble_eq_true rfl) (fun y1 => ?_)
  exact jO.sub (t_X11_chancesOf_L66 hs n r5 hr5 v1 v2 y1 v5 M) (And.intro rfl (And.intro rfl (And.intro rfl (And.intro rfl (And.intro rfl True.intro)))))
def f_X11_chancesOf_L5 (n : Nat) : Nat → Int → Int → Int → Int → JMem → Option (Int × JMem)
  | 0, _, _, _, _, _ => none
  | k + 1, v1, v2, v3, v5, M => if jw (M 40 2) ≤ jw v5 then (some (v3, M)) else (bnd (f_X11_isIn n v1 v5 M) fun r1 M2 => if jw r1 = 0 then (f_X11_chancesOf_L66 n (f_X11_chancesOf_L5 n k) v1 v2 v3 v5 M2) else (bnd (f_X11_isIn n v2 v5 M2) fun r3 M4 => if jw r3 = 0 then (chk (jin v5 8) <| f_X11_chancesOf_L64 n (f_X11_chancesOf_L5 n k) v1 v2 v5 v3 (jw (16 - (M4 (40 + 10) (jw v5).toNat))) M4) else (chk (jin v5 8) <| f_X11_chancesOf_L64 n (f_X11_chancesOf_L5 n k) v1 v2 v5 v3 (jw (M4 (40 + 10) (jw v5).toNat)) M4)))
set_option maxRecDepth 4000 in
theorem t_X11_chancesOf_L5 {g : JG} {ad : Nat → Nat} (hs : jStr g ad) (n : Nat) : ∀ (k : Nat) (v1 v2 v3 v5 : Int) (M : JMem), jB g D_X11_chancesOf ad 5 [some (.ref 0), some (ji v1), some (ji v2), some (jl v3), none, some (ji v5)] [] M (f_X11_chancesOf_L5 n k v1 v2 v3 v5 M) := by
  intro k
  induction k with
  | zero => intro v1 v2 v3 v5 M; exact jO.none
  | succ k ih =>
    intro v1 v2 v3 v5 M
    rw [f_X11_chancesOf_L5]
    refine jo_iloadW 5 d_X11_chancesOf_5 rfl ?_
    refine jo_aload 0 d_X11_chancesOf_7 rfl rfl ?_
    refine jo_getR (k := 7) cl_11 (Nat.le_of_ble_eq_true rfl) lk_X11_53 rfl kc_0 kr_0_7 d_X11_chancesOf_8 ?_
    refine jo_getI (k := 2) cl_4 (Nat.le_of_ble_eq_true rfl) lk_X11_190 (Or.inl rfl) kc_40 d_X11_chancesOf_11 ?_
    refine jo_icmp_ge 72 d_X11_chancesOf_14 (by decide) ?_ ?_
    · skip
      refine jo_lload 3 d_X11_chancesOf_72 rfl rfl ?_
      exact jo_lret rfl d_X11_chancesOf_73
    · skip
      refine jo_iload 1 d_X11_chancesOf_17 rfl rfl ?_
      refine jo_iloadW 5 d_X11_chancesOf_18 rfl ?_
      refine jo_callS (st := []) (m_X11_isIn hs n v1 v5 M) ok_X11_isIn (And.intro (Nat.le_of_ble_eq_true rfl) (Nat.le_of_ble_eq_true rfl)) lm_X11_310 st_X11_isIn rfl (And.intro (Nat.zero_le _) (Nat.zero_le _)) rfl (Nat.le_of_ble_eq_true rfl) d_X11_chancesOf_20 (fun r1 M2 => ?_)
      refine jo_if_eq 66 d_X11_chancesOf_23 (by decide) ?_ ?_
      · skip
        exact jO.sub (t_X11_chancesOf_L66 hs n (f_X11_chancesOf_L5 n k) ih v1 v2 v3 v5 M2) (And.intro rfl (And.intro rfl (And.intro rfl (And.intro rfl (And.intro rfl True.intro)))))
      · skip
        refine jo_lload 3 d_X11_chancesOf_26 rfl rfl ?_
        refine jo_iload 2 d_X11_chancesOf_27 rfl rfl ?_
        refine jo_iloadW 5 d_X11_chancesOf_28 rfl ?_
        refine jo_callS (st := [jl v3]) (m_X11_isIn hs n v2 v5 M2) ok_X11_isIn (And.intro (Nat.le_of_ble_eq_true rfl) (Nat.le_of_ble_eq_true rfl)) lm_X11_310 st_X11_isIn rfl (And.intro (Nat.zero_le _) (Nat.zero_le _)) rfl (Nat.le_of_ble_eq_true rfl) d_X11_chancesOf_30 (fun r3 M4 => ?_)
        refine jo_if_eq 50 d_X11_chancesOf_33 (by decide) ?_ ?_
        · skip
          refine jo_bipush 16 d_X11_chancesOf_50 (by decide) ?_
          refine jo_aload 0 d_X11_chancesOf_52 rfl rfl ?_
          refine jo_getR (k := 7) cl_11 (Nat.le_of_ble_eq_true rfl) lk_X11_53 rfl kc_0 kr_0_7 d_X11_chancesOf_53 ?_
          refine jo_getR (k := 14) cl_4 (Nat.le_of_ble_eq_true rfl) lk_X11_270 rfl kc_40 (kr_Plan_14 kc_40) d_X11_chancesOf_56 ?_
          refine jo_iloadW 5 d_X11_chancesOf_59 rfl ?_
          refine jo_iald (N := 8) (ka_Plan_14 kc_40) d_X11_chancesOf_61 ?_
          refine jo_isub d_X11_chancesOf_62 ?_
          refine jo_i2l d_X11_chancesOf_63 ?_
          exact jO.sub (t_X11_chancesOf_L64 hs n (f_X11_chancesOf_L5 n k) ih v1 v2 v5 v3 (jw (16 - (M4 (40 + 10) (jw v5).toNat))) M4) (And.intro rfl (And.intro rfl (And.intro rfl (And.intro rfl True.intro))))
        · skip
          refine jo_aload 0 d_X11_chancesOf_36 rfl rfl ?_
          refine jo_getR (k := 7) cl_11 (Nat.le_of_ble_eq_true rfl) lk_X11_53 rfl kc_0 kr_0_7 d_X11_chancesOf_37 ?_
          refine jo_getR (k := 14) cl_4 (Nat.le_of_ble_eq_true rfl) lk_X11_270 rfl kc_40 (kr_Plan_14 kc_40) d_X11_chancesOf_40 ?_
          refine jo_iloadW 5 d_X11_chancesOf_43 rfl ?_
          refine jo_iald (N := 8) (ka_Plan_14 kc_40) d_X11_chancesOf_45 ?_
          refine jo_i2l d_X11_chancesOf_46 ?_
          refine jo_goto 64 d_X11_chancesOf_47 (by decide) ?_
          exact jO.sub (t_X11_chancesOf_L64 hs n (f_X11_chancesOf_L5 n k) ih v1 v2 v5 v3 (jw (M4 (40 + 10) (jw v5).toNat)) M4) (And.intro rfl (And.intro rfl (And.intro rfl (And.intro rfl True.intro))))
def f_X11_chancesOf (n : Nat) (x1 : Int) (x2 : Int) (M : JMem) : Option (Int × JMem) := letv 1 fun y1 => letv 0 fun y2 => f_X11_chancesOf_L5 n n x1 x2 y1 y2 M
set_option maxRecDepth 4000 in
theorem t_X11_chancesOf {g : JG} {ad : Nat → Nat} (hs : jStr g ad) (n : Nat) (x1 : Int) (x2 : Int) (M : JMem) : jB g D_X11_chancesOf ad 0 [some (.ref 0), some (ji x1), some (ji x2), none, none, none] [] M (f_X11_chancesOf n x1 x2 M) := by
  unfold f_X11_chancesOf
  refine jo_lconst1 d_X11_chancesOf_0 ?_
  refine jo_lstore 3 d_X11_chancesOf_1 rfl (Nat.le_of_ble_eq_true rfl) (fun y1 => ?_)
  refine jo_iconst 0 d_X11_chancesOf_2 ?_
  refine jo_istoreW 5 d_X11_chancesOf_3 (Nat.le_of_ble_eq_true rfl) (fun y2 => ?_)
  exact jO.sub (t_X11_chancesOf_L5 hs n n x1 x2 y1 y2 M) (And.intro rfl (And.intro rfl (And.intro rfl (And.intro rfl (And.intro rfl True.intro)))))
theorem m_X11_chancesOf {g : JG} {ad : Nat → Nat} (hs : jStr g ad) (n : Nat) (x1 : Int) (x2 : Int) (M : JMem) : jMet g jNN ad jR D_X11_chancesOf yX11_chancesOf [.ref 0, ji x1, ji x2] M (f_X11_chancesOf n x1 x2 M) :=
  jMet.of (lo0 := [some (.ref 0), some (ji x1), some (ji x2), none, none, none]) (by decide) rfl rfl (Nat.le_of_ble_eq_true rfl) (And.intro rfl (And.intro rfl (And.intro rfl True.intro))) (t_X11_chancesOf hs n x1 x2 M)
/-! CageLeave.power(JI)J -/
def D_X11_power : JD := (RX11, cX11_power, 6, some .long, "power", { frames := 0, cells := 0, slots := 0, locals := 0 })
theorem ok_X11_power : jOk D_X11_power yX11_power 2 := ⟨jTW_mem (k := 1221) (by decide +kernel) rfl, jTW_mem (k := 135) (by decide +kernel) rfl, ⟨by decide +kernel, by decide +kernel⟩, by decide +kernel, rfl, rfl⟩
theorem st_X11_power : Cond.static yX11_power ∈ jTW := jTW_mem (k := 1220) (by decide +kernel) rfl
theorem d_X11_power_0 : decode (D_X11_power).2.1 0 = .ok (.lconst 1, 1) := by decide +kernel
theorem d_X11_power_1 : decode (D_X11_power).2.1 1 = .ok (.lstore_n 3, 1) := by decide +kernel
theorem d_X11_power_2 : decode (D_X11_power).2.1 2 = .ok (.iconst 0, 1) := by decide +kernel
theorem d_X11_power_3 : decode (D_X11_power).2.1 3 = .ok (.istore 5, 2) := by decide +kernel
theorem d_X11_power_5 : decode (D_X11_power).2.1 5 = .ok (.iload 5, 2) := by decide +kernel
theorem d_X11_power_7 : decode (D_X11_power).2.1 7 = .ok (.iload_n 2, 1) := by decide +kernel
theorem d_X11_power_8 : decode (D_X11_power).2.1 8 = .ok (.if_icmp .ge 13, 3) := by decide +kernel
theorem d_X11_power_11 : decode (D_X11_power).2.1 11 = .ok (.lload_n 3, 1) := by decide +kernel
theorem d_X11_power_12 : decode (D_X11_power).2.1 12 = .ok (.lload_n 0, 1) := by decide +kernel
theorem d_X11_power_13 : decode (D_X11_power).2.1 13 = .ok (.lmul, 1) := by decide +kernel
theorem d_X11_power_14 : decode (D_X11_power).2.1 14 = .ok (.lstore_n 3, 1) := by decide +kernel
theorem d_X11_power_15 : decode (D_X11_power).2.1 15 = .ok (.iinc 5 1, 3) := by decide +kernel
theorem d_X11_power_18 : decode (D_X11_power).2.1 18 = .ok (.goto (-13), 3) := by decide +kernel
theorem d_X11_power_21 : decode (D_X11_power).2.1 21 = .ok (.lload_n 3, 1) := by decide +kernel
theorem d_X11_power_22 : decode (D_X11_power).2.1 22 = .ok (.lreturn, 1) := by decide +kernel
def f_X11_power_L5 (n : Nat) : Nat → Int → Int → Int → Int → JMem → Option (Int × JMem)
  | 0, _, _, _, _, _ => none
  | k + 1, v0, v2, v3, v5, M => if jw v2 ≤ jw v5 then (some (v3, M)) else (letv (v3 * v0) fun y1 => letv (v5 + 1) fun y2 => (f_X11_power_L5 n k) v0 v2 y1 y2 M)
set_option maxRecDepth 4000 in
theorem t_X11_power_L5 {g : JG} {ad : Nat → Nat} (hs : jStr g ad) (n : Nat) : ∀ (k : Nat) (v0 v2 v3 v5 : Int) (M : JMem), jB g D_X11_power ad 5 [some (jl v0), none, some (ji v2), some (jl v3), none, some (ji v5)] [] M (f_X11_power_L5 n k v0 v2 v3 v5 M) := by
  intro k
  induction k with
  | zero => intro v0 v2 v3 v5 M; exact jO.none
  | succ k ih =>
    intro v0 v2 v3 v5 M
    rw [f_X11_power_L5]
    refine jo_iloadW 5 d_X11_power_5 rfl ?_
    refine jo_iload 2 d_X11_power_7 rfl rfl ?_
    refine jo_icmp_ge 21 d_X11_power_8 (by decide) ?_ ?_
    · skip
      refine jo_lload 3 d_X11_power_21 rfl rfl ?_
      exact jo_lret rfl d_X11_power_22
    · skip
      refine jo_lload 3 d_X11_power_11 rfl rfl ?_
      refine jo_lload 0 d_X11_power_12 rfl rfl ?_
      refine jo_lmul d_X11_power_13 ?_
      refine jo_lstore 3 d_X11_power_14 rfl (Nat.le_of_ble_eq_true rfl) (fun y1 => ?_)
      refine jo_iinc 5 d_X11_power_15 rfl (Nat.le_of_ble_eq_true rfl) (fun y2 => ?_)
      refine jo_goto 5 d_X11_power_18 (by decide) ?_
      exact jO.sub (ih v0 v2 y1 y2 M) (And.intro rfl (And.intro rfl (And.intro rfl (And.intro rfl True.intro))))
def f_X11_power (n : Nat) (x0 : Int) (x2 : Int) (M : JMem) : Option (Int × JMem) := letv 1 fun y1 => letv 0 fun y2 => f_X11_power_L5 n n x0 x2 y1 y2 M
set_option maxRecDepth 4000 in
theorem t_X11_power {g : JG} {ad : Nat → Nat} (hs : jStr g ad) (n : Nat) (x0 : Int) (x2 : Int) (M : JMem) : jB g D_X11_power ad 0 [some (jl x0), none, some (ji x2), none, none, none] [] M (f_X11_power n x0 x2 M) := by
  unfold f_X11_power
  refine jo_lconst1 d_X11_power_0 ?_
  refine jo_lstore 3 d_X11_power_1 rfl (Nat.le_of_ble_eq_true rfl) (fun y1 => ?_)
  refine jo_iconst 0 d_X11_power_2 ?_
  refine jo_istoreW 5 d_X11_power_3 (Nat.le_of_ble_eq_true rfl) (fun y2 => ?_)
  exact jO.sub (t_X11_power_L5 hs n n x0 x2 y1 y2 M) (And.intro rfl (And.intro rfl (And.intro rfl (And.intro rfl True.intro))))
theorem m_X11_power {g : JG} {ad : Nat → Nat} (hs : jStr g ad) (n : Nat) (x0 : Int) (x2 : Int) (M : JMem) : jMet g jNN ad jR D_X11_power yX11_power [jl x0, ji x2] M (f_X11_power n x0 x2 M) :=
  jMet.of (lo0 := [some (jl x0), none, some (ji x2), none, none, none]) (by decide) rfl rfl (Nat.le_of_ble_eq_true rfl) (And.intro rfl (And.intro rfl True.intro)) (t_X11_power hs n x0 x2 M)
/-! CageLeave.commonDivisor(JJ)J -/
def D_X11_commonDivisor : JD := (RX11, cX11_commonDivisor, 7, some .long, "commonDivisor", { frames := 0, cells := 0, slots := 0, locals := 0 })
theorem ok_X11_commonDivisor : jOk D_X11_commonDivisor yX11_commonDivisor 2 := ⟨jTW_mem (k := 1229) (by decide +kernel) rfl, jTW_mem (k := 135) (by decide +kernel) rfl, ⟨by decide +kernel, by decide +kernel⟩, by decide +kernel, rfl, rfl⟩
theorem st_X11_commonDivisor : Cond.static yX11_commonDivisor ∈ jTW := jTW_mem (k := 1228) (by decide +kernel) rfl
theorem d_X11_commonDivisor_0 : decode (D_X11_commonDivisor).2.1 0 = .ok (.iconst 0, 1) := by decide +kernel
theorem d_X11_commonDivisor_1 : decode (D_X11_commonDivisor).2.1 1 = .ok (.istore 4, 2) := by decide +kernel
theorem d_X11_commonDivisor_3 : decode (D_X11_commonDivisor).2.1 3 = .ok (.iload 4, 2) := by decide +kernel
theorem d_X11_commonDivisor_5 : decode (D_X11_commonDivisor).2.1 5 = .ok (.sipush 200, 3) := by decide +kernel
theorem d_X11_commonDivisor_8 : decode (D_X11_commonDivisor).2.1 8 = .ok (.if_icmp .ge 25, 3) := by decide +kernel
theorem d_X11_commonDivisor_11 : decode (D_X11_commonDivisor).2.1 11 = .ok (.lload_n 2, 1) := by decide +kernel
theorem d_X11_commonDivisor_12 : decode (D_X11_commonDivisor).2.1 12 = .ok (.lconst 0, 1) := by decide +kernel
theorem d_X11_commonDivisor_13 : decode (D_X11_commonDivisor).2.1 13 = .ok (.lcmp, 1) := by decide +kernel
theorem d_X11_commonDivisor_14 : decode (D_X11_commonDivisor).2.1 14 = .ok (.ifCond .eq 19, 3) := by decide +kernel
theorem d_X11_commonDivisor_17 : decode (D_X11_commonDivisor).2.1 17 = .ok (.lload_n 0, 1) := by decide +kernel
theorem d_X11_commonDivisor_18 : decode (D_X11_commonDivisor).2.1 18 = .ok (.lload_n 2, 1) := by decide +kernel
theorem d_X11_commonDivisor_19 : decode (D_X11_commonDivisor).2.1 19 = .ok (.lrem, 1) := by decide +kernel
theorem d_X11_commonDivisor_20 : decode (D_X11_commonDivisor).2.1 20 = .ok (.lstore 5, 2) := by decide +kernel
theorem d_X11_commonDivisor_22 : decode (D_X11_commonDivisor).2.1 22 = .ok (.lload_n 2, 1) := by decide +kernel
theorem d_X11_commonDivisor_23 : decode (D_X11_commonDivisor).2.1 23 = .ok (.lstore_n 0, 1) := by decide +kernel
theorem d_X11_commonDivisor_24 : decode (D_X11_commonDivisor).2.1 24 = .ok (.lload 5, 2) := by decide +kernel
theorem d_X11_commonDivisor_26 : decode (D_X11_commonDivisor).2.1 26 = .ok (.lstore_n 2, 1) := by decide +kernel
theorem d_X11_commonDivisor_27 : decode (D_X11_commonDivisor).2.1 27 = .ok (.iinc 4 1, 3) := by decide +kernel
theorem d_X11_commonDivisor_30 : decode (D_X11_commonDivisor).2.1 30 = .ok (.goto (-27), 3) := by decide +kernel
theorem d_X11_commonDivisor_33 : decode (D_X11_commonDivisor).2.1 33 = .ok (.lload_n 0, 1) := by decide +kernel
theorem d_X11_commonDivisor_34 : decode (D_X11_commonDivisor).2.1 34 = .ok (.lreturn, 1) := by decide +kernel
def f_X11_commonDivisor_L3 (n : Nat) : Nat → Int → Int → Int → JMem → Option (Int × JMem)
  | 0, _, _, _, _ => none
  | k + 1, v0, v2, v4, M => if jw 200 ≤ jw v4 then (some (v0, M)) else (if jw (jcmp v2 0) = 0 then (some (v0, M)) else (chk (¬ jwl v2 = 0) <| letv (jlrem v0 v2) fun y1 => letv v2 fun y2 => letv y1 fun y3 => letv (v4 + 1) fun y4 => (f_X11_commonDivisor_L3 n k) y2 y3 y4 M))
set_option maxRecDepth 4000 in
theorem t_X11_commonDivisor_L3 {g : JG} {ad : Nat → Nat} (hs : jStr g ad) (n : Nat) : ∀ (k : Nat) (v0 v2 v4 : Int) (M : JMem), jB g D_X11_commonDivisor ad 3 [some (jl v0), none, some (jl v2), none, some (ji v4), none, none] [] M (f_X11_commonDivisor_L3 n k v0 v2 v4 M) := by
  intro k
  induction k with
  | zero => intro v0 v2 v4 M; exact jO.none
  | succ k ih =>
    intro v0 v2 v4 M
    rw [f_X11_commonDivisor_L3]
    refine jo_iloadW 4 d_X11_commonDivisor_3 rfl ?_
    refine jo_sipush 200 d_X11_commonDivisor_5 (by decide) ?_
    refine jo_icmp_ge 33 d_X11_commonDivisor_8 (by decide) ?_ ?_
    · skip
      refine jo_lload 0 d_X11_commonDivisor_33 rfl rfl ?_
      exact jo_lret rfl d_X11_commonDivisor_34
    · skip
      refine jo_lload 2 d_X11_commonDivisor_11 rfl rfl ?_
      refine jo_lconst0 d_X11_commonDivisor_12 ?_
      refine jo_lcmp d_X11_commonDivisor_13 ?_
      refine jo_if_eq 33 d_X11_commonDivisor_14 (by decide) ?_ ?_
      · skip
        refine jo_lload 0 d_X11_commonDivisor_33 rfl rfl ?_
        exact jo_lret rfl d_X11_commonDivisor_34
      · skip
        refine jo_lload 0 d_X11_commonDivisor_17 rfl rfl ?_
        refine jo_lload 2 d_X11_commonDivisor_18 rfl rfl ?_
        refine jo_lremq d_X11_commonDivisor_19 ?_
        refine jo_lstoreW 5 d_X11_commonDivisor_20 (Nat.le_of_ble_eq_true rfl) (fun y1 => ?_)
        refine jo_lload 2 d_X11_commonDivisor_22 rfl rfl ?_
        refine jo_lstore 0 d_X11_commonDivisor_23 rfl (Nat.le_of_ble_eq_true rfl) (fun y2 => ?_)
        refine jo_lloadW 5 d_X11_commonDivisor_24 rfl ?_
        refine jo_lstore 2 d_X11_commonDivisor_26 rfl (Nat.le_of_ble_eq_true rfl) (fun y3 => ?_)
        refine jo_iinc 4 d_X11_commonDivisor_27 rfl (Nat.le_of_ble_eq_true rfl) (fun y4 => ?_)
        refine jo_goto 3 d_X11_commonDivisor_30 (by decide) ?_
        exact jO.sub (ih y2 y3 y4 M) (And.intro rfl (And.intro rfl (And.intro rfl True.intro)))
def f_X11_commonDivisor (n : Nat) (x0 : Int) (x2 : Int) (M : JMem) : Option (Int × JMem) := letv 0 fun y1 => f_X11_commonDivisor_L3 n n x0 x2 y1 M
set_option maxRecDepth 4000 in
theorem t_X11_commonDivisor {g : JG} {ad : Nat → Nat} (hs : jStr g ad) (n : Nat) (x0 : Int) (x2 : Int) (M : JMem) : jB g D_X11_commonDivisor ad 0 [some (jl x0), none, some (jl x2), none, none, none, none] [] M (f_X11_commonDivisor n x0 x2 M) := by
  unfold f_X11_commonDivisor
  refine jo_iconst 0 d_X11_commonDivisor_0 ?_
  refine jo_istoreW 4 d_X11_commonDivisor_1 (Nat.le_of_ble_eq_true rfl) (fun y1 => ?_)
  exact jO.sub (t_X11_commonDivisor_L3 hs n n x0 x2 y1 M) (And.intro rfl (And.intro rfl (And.intro rfl True.intro)))
theorem m_X11_commonDivisor {g : JG} {ad : Nat → Nat} (hs : jStr g ad) (n : Nat) (x0 : Int) (x2 : Int) (M : JMem) : jMet g jNN ad jR D_X11_commonDivisor yX11_commonDivisor [jl x0, jl x2] M (f_X11_commonDivisor n x0 x2 M) :=
  jMet.of (lo0 := [some (jl x0), none, some (jl x2), none, none, none, none]) (by decide) rfl rfl (Nat.le_of_ble_eq_true rfl) (And.intro rfl (And.intro rfl True.intro)) (t_X11_commonDivisor hs n x0 x2 M)
/-! CageLeave.tellFraction(JJ)Z -/
def D_X11_tellFraction : JD := (RX11, cX11_tellFraction, 7, some .boolean, "tellFraction", { frames := 1, cells := 0, slots := 0, locals := 26 })
theorem ok_X11_tellFraction : jOk D_X11_tellFraction yX11_tellFraction 2 := ⟨jTW_mem (k := 1226) (by decide +kernel) rfl, jTW_mem (k := 135) (by decide +kernel) rfl, ⟨by decide +kernel, by decide +kernel⟩, by decide +kernel, rfl, rfl⟩
theorem in_X11_tellFraction : Cond.instanceMethod yX11_tellFraction ∈ jTW := jTW_mem (k := 1225) (by decide +kernel) rfl
theorem se_X11_tellFraction : Cond.selects yX11_tellFraction.cls yX11_tellFraction yX11_tellFraction ∈ jTW := jTW_mem (k := 36) (by decide +kernel) rfl
theorem lm_X11_131 : Cond.methodLink RX11 131 yX11_allow ∈ jTW := jTW_mem (k := 695) (by decide +kernel) rfl
theorem lm_X11_423 : Cond.methodLink RX11 423 yX11_commonDivisor ∈ jTW := jTW_mem (k := 1227) (by decide +kernel) rfl
theorem lk_X11_13 : Cond.fieldLink RX11 13 (TX11 1).1 (TX11 1).2.1 (TX11 1).2.2.1 ∈ jTW := jTW_mem (k := 608) (by decide +kernel) rfl
theorem lk_X11_17 : Cond.fieldLink RX11 17 (TX11 2).1 (TX11 2).2.1 (TX11 2).2.2.1 ∈ jTW := jTW_mem (k := 609) (by decide +kernel) rfl
theorem d_X11_tellFraction_0 : decode (D_X11_tellFraction).2.1 0 = .ok (.lload_n 1, 1) := by decide +kernel
theorem d_X11_tellFraction_1 : decode (D_X11_tellFraction).2.1 1 = .ok (.lload_n 3, 1) := by decide +kernel
theorem d_X11_tellFraction_2 : decode (D_X11_tellFraction).2.1 2 = .ok (.invokestatic 423, 3) := by decide +kernel
theorem d_X11_tellFraction_5 : decode (D_X11_tellFraction).2.1 5 = .ok (.lstore 5, 2) := by decide +kernel
theorem d_X11_tellFraction_7 : decode (D_X11_tellFraction).2.1 7 = .ok (.lload 5, 2) := by decide +kernel
theorem d_X11_tellFraction_9 : decode (D_X11_tellFraction).2.1 9 = .ok (.lconst 0, 1) := by decide +kernel
theorem d_X11_tellFraction_10 : decode (D_X11_tellFraction).2.1 10 = .ok (.lcmp, 1) := by decide +kernel
theorem d_X11_tellFraction_11 : decode (D_X11_tellFraction).2.1 11 = .ok (.ifCond .le 19, 3) := by decide +kernel
theorem d_X11_tellFraction_14 : decode (D_X11_tellFraction).2.1 14 = .ok (.aload_n 0, 1) := by decide +kernel
theorem d_X11_tellFraction_15 : decode (D_X11_tellFraction).2.1 15 = .ok (.lload_n 1, 1) := by decide +kernel
theorem d_X11_tellFraction_16 : decode (D_X11_tellFraction).2.1 16 = .ok (.lload 5, 2) := by decide +kernel
theorem d_X11_tellFraction_18 : decode (D_X11_tellFraction).2.1 18 = .ok (.ldiv, 1) := by decide +kernel
theorem d_X11_tellFraction_19 : decode (D_X11_tellFraction).2.1 19 = .ok (.putfield 13, 3) := by decide +kernel
theorem d_X11_tellFraction_22 : decode (D_X11_tellFraction).2.1 22 = .ok (.aload_n 0, 1) := by decide +kernel
theorem d_X11_tellFraction_23 : decode (D_X11_tellFraction).2.1 23 = .ok (.lload_n 3, 1) := by decide +kernel
theorem d_X11_tellFraction_24 : decode (D_X11_tellFraction).2.1 24 = .ok (.lload 5, 2) := by decide +kernel
theorem d_X11_tellFraction_26 : decode (D_X11_tellFraction).2.1 26 = .ok (.ldiv, 1) := by decide +kernel
theorem d_X11_tellFraction_27 : decode (D_X11_tellFraction).2.1 27 = .ok (.putfield 17, 3) := by decide +kernel
theorem d_X11_tellFraction_30 : decode (D_X11_tellFraction).2.1 30 = .ok (.aload_n 0, 1) := by decide +kernel
theorem d_X11_tellFraction_31 : decode (D_X11_tellFraction).2.1 31 = .ok (.invokevirtual 131, 3) := by decide +kernel
theorem d_X11_tellFraction_34 : decode (D_X11_tellFraction).2.1 34 = .ok (.ireturn, 1) := by decide +kernel
def f_X11_tellFraction_L30 (n : Nat) (M : JMem) : Option (Int × JMem) := bnd (f_X11_allow n M) fun r1 M2 => chk (jw r1 = 0 ∨ jw r1 = 1) (some (r1, M2))
set_option maxRecDepth 4000 in
theorem t_X11_tellFraction_L30 {g : JG} {ad : Nat → Nat} (hs : jStr g ad) (n : Nat) (M : JMem) : jB g D_X11_tellFraction ad 30 [some (.ref 0), none, none, none, none, none, none] [] M (f_X11_tellFraction_L30 n M) := by
  unfold f_X11_tellFraction_L30
  refine jo_aload 0 d_X11_tellFraction_30 rfl rfl ?_
  refine jo_callV (st := []) (m_X11_allow hs n M) ok_X11_allow (And.intro (Nat.le_of_ble_eq_true rfl) (Nat.le_of_ble_eq_true rfl)) lm_X11_131 in_X11_allow se_X11_allow rfl kc_0 rfl rfl (And.intro (Nat.zero_le _) (Nat.zero_le _)) rfl (Nat.le_of_ble_eq_true rfl) d_X11_tellFraction_31 (fun r1 M2 => ?_)
  exact jo_zretq rfl d_X11_tellFraction_34
def f_X11_tellFraction (n : Nat) (x1 : Int) (x3 : Int) (M : JMem) : Option (Int × JMem) := bnd (f_X11_commonDivisor n x1 x3 M) fun r1 M2 => letv r1 fun y3 => if jw (jcmp y3 0) ≤ 0 then (f_X11_tellFraction_L30 n M2) else (chk (¬ jwl y3 = 0) <| letm (jup M2 0 1 (jldiv x1 y3)) fun M4 => chk (¬ jwl y3 = 0) <| letm (jup M4 0 2 (jldiv x3 y3)) fun M5 => f_X11_tellFraction_L30 n M5)
set_option maxRecDepth 4000 in
theorem t_X11_tellFraction {g : JG} {ad : Nat → Nat} (hs : jStr g ad) (n : Nat) (x1 : Int) (x3 : Int) (M : JMem) : jB g D_X11_tellFraction ad 0 [some (.ref 0), some (jl x1), none, some (jl x3), none, none, none] [] M (f_X11_tellFraction n x1 x3 M) := by
  unfold f_X11_tellFraction
  refine jo_lload 1 d_X11_tellFraction_0 rfl rfl ?_
  refine jo_lload 3 d_X11_tellFraction_1 rfl rfl ?_
  refine jo_callS (st := []) (m_X11_commonDivisor hs n x1 x3 M) ok_X11_commonDivisor (And.intro (Nat.le_of_ble_eq_true rfl) (Nat.le_of_ble_eq_true rfl)) lm_X11_423 st_X11_commonDivisor rfl (And.intro (Nat.zero_le _) (Nat.zero_le _)) rfl (Nat.le_of_ble_eq_true rfl) d_X11_tellFraction_2 (fun r1 M2 => ?_)
  refine jo_lstoreW 5 d_X11_tellFraction_5 (Nat.le_of_ble_eq_true rfl) (fun y3 => ?_)
  refine jo_lloadW 5 d_X11_tellFraction_7 rfl ?_
  refine jo_lconst0 d_X11_tellFraction_9 ?_
  refine jo_lcmp d_X11_tellFraction_10 ?_
  refine jo_if_le 30 d_X11_tellFraction_11 (by decide) ?_ ?_
  · skip
    exact jO.sub (t_X11_tellFraction_L30 hs n M2) (And.intro rfl True.intro)
  · skip
    refine jo_aload 0 d_X11_tellFraction_14 rfl rfl ?_
    refine jo_lload 1 d_X11_tellFraction_15 rfl rfl ?_
    refine jo_lloadW 5 d_X11_tellFraction_16 rfl ?_
    refine jo_ldivq d_X11_tellFraction_18 ?_
    refine jo_putL (k := 1) cl_11 (Nat.le_of_ble_eq_true rfl) lk_X11_13 rfl rfl kc_0 d_X11_tellFraction_19 (fun M4 => ?_)
    refine jo_aload 0 d_X11_tellFraction_22 rfl rfl ?_
    refine jo_lload 3 d_X11_tellFraction_23 rfl rfl ?_
    refine jo_lloadW 5 d_X11_tellFraction_24 rfl ?_
    refine jo_ldivq d_X11_tellFraction_26 ?_
    refine jo_putL (k := 2) cl_11 (Nat.le_of_ble_eq_true rfl) lk_X11_17 rfl rfl kc_0 d_X11_tellFraction_27 (fun M5 => ?_)
    exact jO.sub (t_X11_tellFraction_L30 hs n M5) (And.intro rfl True.intro)
theorem m_X11_tellFraction {g : JG} {ad : Nat → Nat} (hs : jStr g ad) (n : Nat) (x1 : Int) (x3 : Int) (M : JMem) : jMet g jNN ad jR D_X11_tellFraction yX11_tellFraction [.ref 0, jl x1, jl x3] M (f_X11_tellFraction n x1 x3 M) :=
  jMet.of (lo0 := [some (.ref 0), some (jl x1), none, some (jl x3), none, none, none]) (by decide) rfl rfl (Nat.le_of_ble_eq_true rfl) (And.intro rfl (And.intro rfl (And.intro rfl True.intro))) (t_X11_tellFraction hs n x1 x3 M)
/-! CageLeave.back(II)Z -/
def D_X11_back : JD := (RX11, cX11_back, 6, some .boolean, "back", { frames := 2, cells := 0, slots := 0, locals := 52 })
theorem ok_X11_back : jOk D_X11_back yX11_back 2 := ⟨jTW_mem (k := 1233) (by decide +kernel) rfl, jTW_mem (k := 135) (by decide +kernel) rfl, ⟨by decide +kernel, by decide +kernel⟩, by decide +kernel, rfl, rfl⟩
theorem in_X11_back : Cond.instanceMethod yX11_back ∈ jTW := jTW_mem (k := 1231) (by decide +kernel) rfl
theorem se_X11_back : Cond.selects yX11_back.cls yX11_back yX11_back ∈ jTW := jTW_mem (k := 1232) (by decide +kernel) rfl
theorem lm_X11_124 : Cond.methodLink RX11 124 yX11_deny ∈ jTW := jTW_mem (k := 687) (by decide +kernel) rfl
theorem lc_X11_373 : Cond.constantLong RX11 373 (Int64.ofInt 16) ∈ jTW := jTW_mem (k := 1222) (by decide +kernel) rfl
theorem lm_X11_341 : Cond.methodLink RX11 341 yJ6_bitCount_0f7a4 ∈ jTW := jTW_mem (k := 1150) (by decide +kernel) rfl
theorem lm_X11_369 : Cond.methodLink RX11 369 yX11_power ∈ jTW := jTW_mem (k := 1219) (by decide +kernel) rfl
theorem lm_X11_375 : Cond.methodLink RX11 375 yX11_tellFraction ∈ jTW := jTW_mem (k := 1223) (by decide +kernel) rfl
theorem lm_X11_382 : Cond.methodLink RX11 382 yX11_chancesOf ∈ jTW := jTW_mem (k := 1234) (by decide +kernel) rfl
theorem lm_X11_379 : Cond.methodLink RX11 379 yX11_isSet ∈ jTW := jTW_mem (k := 1129) (by decide +kernel) rfl
theorem d_X11_back_0 : decode (D_X11_back).2.1 0 = .ok (.aload_n 0, 1) := by decide +kernel
theorem d_X11_back_1 : decode (D_X11_back).2.1 1 = .ok (.iload_n 1, 1) := by decide +kernel
theorem d_X11_back_2 : decode (D_X11_back).2.1 2 = .ok (.invokevirtual 379, 3) := by decide +kernel
theorem d_X11_back_5 : decode (D_X11_back).2.1 5 = .ok (.ifCond .eq 13, 3) := by decide +kernel
theorem d_X11_back_8 : decode (D_X11_back).2.1 8 = .ok (.iload_n 2, 1) := by decide +kernel
theorem d_X11_back_9 : decode (D_X11_back).2.1 9 = .ok (.ifCond .lt 9, 3) := by decide +kernel
theorem d_X11_back_12 : decode (D_X11_back).2.1 12 = .ok (.iload_n 2, 1) := by decide +kernel
theorem d_X11_back_13 : decode (D_X11_back).2.1 13 = .ok (.bipush 8, 2) := by decide +kernel
theorem d_X11_back_15 : decode (D_X11_back).2.1 15 = .ok (.if_icmp .le 9, 3) := by decide +kernel
theorem d_X11_back_18 : decode (D_X11_back).2.1 18 = .ok (.aload_n 0, 1) := by decide +kernel
theorem d_X11_back_19 : decode (D_X11_back).2.1 19 = .ok (.iconst 1, 1) := by decide +kernel
theorem d_X11_back_20 : decode (D_X11_back).2.1 20 = .ok (.invokevirtual 124, 3) := by decide +kernel
theorem d_X11_back_23 : decode (D_X11_back).2.1 23 = .ok (.ireturn, 1) := by decide +kernel
theorem d_X11_back_24 : decode (D_X11_back).2.1 24 = .ok (.lconst 0, 1) := by decide +kernel
theorem d_X11_back_25 : decode (D_X11_back).2.1 25 = .ok (.lstore_n 3, 1) := by decide +kernel
theorem d_X11_back_26 : decode (D_X11_back).2.1 26 = .ok (.iconst 0, 1) := by decide +kernel
theorem d_X11_back_27 : decode (D_X11_back).2.1 27 = .ok (.istore 5, 2) := by decide +kernel
theorem d_X11_back_29 : decode (D_X11_back).2.1 29 = .ok (.iload 5, 2) := by decide +kernel
theorem d_X11_back_31 : decode (D_X11_back).2.1 31 = .ok (.iload_n 1, 1) := by decide +kernel
theorem d_X11_back_32 : decode (D_X11_back).2.1 32 = .ok (.if_icmp .gt 37, 3) := by decide +kernel
theorem d_X11_back_35 : decode (D_X11_back).2.1 35 = .ok (.iload 5, 2) := by decide +kernel
theorem d_X11_back_37 : decode (D_X11_back).2.1 37 = .ok (.iload_n 1, 1) := by decide +kernel
theorem d_X11_back_38 : decode (D_X11_back).2.1 38 = .ok (.iconst (-1), 1) := by decide +kernel
theorem d_X11_back_39 : decode (D_X11_back).2.1 39 = .ok (.ixor, 1) := by decide +kernel
theorem d_X11_back_40 : decode (D_X11_back).2.1 40 = .ok (.iand, 1) := by decide +kernel
theorem d_X11_back_41 : decode (D_X11_back).2.1 41 = .ok (.ifCond .ne 22, 3) := by decide +kernel
theorem d_X11_back_44 : decode (D_X11_back).2.1 44 = .ok (.iload 5, 2) := by decide +kernel
theorem d_X11_back_46 : decode (D_X11_back).2.1 46 = .ok (.invokestatic 341, 3) := by decide +kernel
theorem d_X11_back_49 : decode (D_X11_back).2.1 49 = .ok (.iload_n 2, 1) := by decide +kernel
theorem d_X11_back_50 : decode (D_X11_back).2.1 50 = .ok (.if_icmp .lt 13, 3) := by decide +kernel
theorem d_X11_back_53 : decode (D_X11_back).2.1 53 = .ok (.lload_n 3, 1) := by decide +kernel
theorem d_X11_back_54 : decode (D_X11_back).2.1 54 = .ok (.aload_n 0, 1) := by decide +kernel
theorem d_X11_back_55 : decode (D_X11_back).2.1 55 = .ok (.iload_n 1, 1) := by decide +kernel
theorem d_X11_back_56 : decode (D_X11_back).2.1 56 = .ok (.iload 5, 2) := by decide +kernel
theorem d_X11_back_58 : decode (D_X11_back).2.1 58 = .ok (.invokevirtual 382, 3) := by decide +kernel
theorem d_X11_back_61 : decode (D_X11_back).2.1 61 = .ok (.ladd, 1) := by decide +kernel
theorem d_X11_back_62 : decode (D_X11_back).2.1 62 = .ok (.lstore_n 3, 1) := by decide +kernel
theorem d_X11_back_63 : decode (D_X11_back).2.1 63 = .ok (.iinc 5 1, 3) := by decide +kernel
theorem d_X11_back_66 : decode (D_X11_back).2.1 66 = .ok (.goto (-37), 3) := by decide +kernel
theorem d_X11_back_69 : decode (D_X11_back).2.1 69 = .ok (.aload_n 0, 1) := by decide +kernel
theorem d_X11_back_70 : decode (D_X11_back).2.1 70 = .ok (.lload_n 3, 1) := by decide +kernel
theorem d_X11_back_71 : decode (D_X11_back).2.1 71 = .ok (.ldc2_w 373, 3) := by decide +kernel
theorem d_X11_back_74 : decode (D_X11_back).2.1 74 = .ok (.iload_n 1, 1) := by decide +kernel
theorem d_X11_back_75 : decode (D_X11_back).2.1 75 = .ok (.invokestatic 341, 3) := by decide +kernel
theorem d_X11_back_78 : decode (D_X11_back).2.1 78 = .ok (.invokestatic 369, 3) := by decide +kernel
theorem d_X11_back_81 : decode (D_X11_back).2.1 81 = .ok (.invokevirtual 375, 3) := by decide +kernel
theorem d_X11_back_84 : decode (D_X11_back).2.1 84 = .ok (.ireturn, 1) := by decide +kernel
def f_X11_back_L18 (n : Nat) (M : JMem) : Option (Int × JMem) := bnd (f_X11_deny n 1 M) fun r1 M2 => chk (jw r1 = 0 ∨ jw r1 = 1) (some (r1, M2))
set_option maxRecDepth 4000 in
theorem t_X11_back_L18 {g : JG} {ad : Nat → Nat} (hs : jStr g ad) (n : Nat) (M : JMem) : jB g D_X11_back ad 18 [some (.ref 0), none, none, none, none, none] [] M (f_X11_back_L18 n M) := by
  unfold f_X11_back_L18
  refine jo_aload 0 d_X11_back_18 rfl rfl ?_
  refine jo_iconst 1 d_X11_back_19 ?_
  refine jo_callV (st := []) (m_X11_deny hs n 1 M) ok_X11_deny (And.intro (Nat.le_of_ble_eq_true rfl) (Nat.le_of_ble_eq_true rfl)) lm_X11_124 in_X11_deny se_X11_deny rfl kc_0 rfl rfl (And.intro (Nat.zero_le _) (Nat.zero_le _)) rfl (Nat.le_of_ble_eq_true rfl) d_X11_back_20 (fun r1 M2 => ?_)
  exact jo_zretq rfl d_X11_back_23
def f_X11_back_L63 (n : Nat) (r29 : Int → Int → Int → Int → JMem → Option (Int × JMem)) (v1 v2 v3 v5 : Int) (M : JMem) : Option (Int × JMem) := letv (v5 + 1) fun y1 => r29 v1 v2 v3 y1 M
set_option maxRecDepth 4000 in
theorem t_X11_back_L63 {g : JG} {ad : Nat → Nat} (hs : jStr g ad) (n : Nat) (r29 : Int → Int → Int → Int → JMem → Option (Int × JMem)) (hr29 : ∀ (v1 v2 v3 v5 : Int) (M : JMem), jB g D_X11_back ad 29 [some (.ref 0), some (ji v1), some (ji v2), some (jl v3), none, some (ji v5)] [] M (r29 v1 v2 v3 v5 M)) (v1 v2 v3 v5 : Int) (M : JMem) : jB g D_X11_back ad 63 [some (.ref 0), some (ji v1), some (ji v2), some (jl v3), none, some (ji v5)] [] M (f_X11_back_L63 n r29 v1 v2 v3 v5 M) := by
  unfold f_X11_back_L63
  refine jo_iinc 5 d_X11_back_63 rfl (Nat.le_of_ble_eq_true rfl) (fun y1 => ?_)
  refine jo_goto 29 d_X11_back_66 (by decide) ?_
  exact jO.sub (hr29 v1 v2 v3 y1 M) (And.intro rfl (And.intro rfl (And.intro rfl (And.intro rfl (And.intro rfl True.intro)))))
def f_X11_back_L69 (n : Nat) (v1 v3 : Int) (M : JMem) : Option (Int × JMem) := bnd (f_J6_bitCount_0f7a4 n v1 M) fun r1 M2 => bnd (f_X11_power n 16 r1 M2) fun r3 M4 => bnd (f_X11_tellFraction n v3 r3 M4) fun r5 M6 => chk (jw r5 = 0 ∨ jw r5 = 1) (some (r5, M6))
set_option maxRecDepth 4000 in
theorem t_X11_back_L69 {g : JG} {ad : Nat → Nat} (hs : jStr g ad) (n : Nat) (v1 v3 : Int) (M : JMem) : jB g D_X11_back ad 69 [some (.ref 0), some (ji v1), none, some (jl v3), none, none] [] M (f_X11_back_L69 n v1 v3 M) := by
  unfold f_X11_back_L69
  refine jo_aload 0 d_X11_back_69 rfl rfl ?_
  refine jo_lload 3 d_X11_back_70 rfl rfl ?_
  refine jo_ldc2 16 lc_X11_373 d_X11_back_71 ?_
  refine jo_iload 1 d_X11_back_74 rfl rfl ?_
  refine jo_callS (st := [jl 16, jl v3, .ref 0]) (m_J6_bitCount_0f7a4 hs n v1 M) ok_J6_bitCount_0f7a4 (And.intro (Nat.le_of_ble_eq_true rfl) (Nat.le_of_ble_eq_true rfl)) lm_X11_341 st_J6_bitCount_0f7a4 rfl (And.intro (Nat.zero_le _) (Nat.zero_le _)) rfl (Nat.le_of_ble_eq_true rfl) d_X11_back_75 (fun r1 M2 => ?_)
  refine jo_callS (st := [jl v3, .ref 0]) (m_X11_power hs n 16 r1 M2) ok_X11_power (And.intro (Nat.le_of_ble_eq_true rfl) (Nat.le_of_ble_eq_true rfl)) lm_X11_369 st_X11_power rfl (And.intro (Nat.zero_le _) (Nat.zero_le _)) rfl (Nat.le_of_ble_eq_true rfl) d_X11_back_78 (fun r3 M4 => ?_)
  refine jo_callV (st := []) (m_X11_tellFraction hs n v3 r3 M4) ok_X11_tellFraction (And.intro (Nat.le_of_ble_eq_true rfl) (Nat.le_of_ble_eq_true rfl)) lm_X11_375 in_X11_tellFraction se_X11_tellFraction rfl kc_0 rfl rfl (And.intro (Nat.zero_le _) (Nat.zero_le _)) rfl (Nat.le_of_ble_eq_true rfl) d_X11_back_81 (fun r5 M6 => ?_)
  exact jo_zretq rfl d_X11_back_84
def f_X11_back_L29 (n : Nat) : Nat → Int → Int → Int → Int → JMem → Option (Int × JMem)
  | 0, _, _, _, _, _ => none
  | k + 1, v1, v2, v3, v5, M => if jw v1 < jw v5 then (f_X11_back_L69 n v1 v3 M) else (if jw (jand v5 (jxor v1 (-1))) = 0 then (bnd (f_J6_bitCount_0f7a4 n v5 M) fun r1 M2 => if jw r1 < jw v2 then (f_X11_back_L63 n (f_X11_back_L29 n k) v1 v2 v3 v5 M2) else (bnd (f_X11_chancesOf n v1 v5 M2) fun r3 M4 => letv (v3 + r3) fun y5 => f_X11_back_L63 n (f_X11_back_L29 n k) v1 v2 y5 v5 M4)) else (f_X11_back_L63 n (f_X11_back_L29 n k) v1 v2 v3 v5 M))
set_option maxRecDepth 4000 in
theorem t_X11_back_L29 {g : JG} {ad : Nat → Nat} (hs : jStr g ad) (n : Nat) : ∀ (k : Nat) (v1 v2 v3 v5 : Int) (M : JMem), jB g D_X11_back ad 29 [some (.ref 0), some (ji v1), some (ji v2), some (jl v3), none, some (ji v5)] [] M (f_X11_back_L29 n k v1 v2 v3 v5 M) := by
  intro k
  induction k with
  | zero => intro v1 v2 v3 v5 M; exact jO.none
  | succ k ih =>
    intro v1 v2 v3 v5 M
    rw [f_X11_back_L29]
    refine jo_iloadW 5 d_X11_back_29 rfl ?_
    refine jo_iload 1 d_X11_back_31 rfl rfl ?_
    refine jo_icmp_gt 69 d_X11_back_32 (by decide) ?_ ?_
    · skip
      exact jO.sub (t_X11_back_L69 hs n v1 v3 M) (And.intro rfl (And.intro rfl (And.intro rfl True.intro)))
    · skip
      refine jo_iloadW 5 d_X11_back_35 rfl ?_
      refine jo_iload 1 d_X11_back_37 rfl rfl ?_
      refine jo_iconst (-1) d_X11_back_38 ?_
      refine jo_ixor d_X11_back_39 ?_
      refine jo_iand d_X11_back_40 ?_
      refine jo_if_ne 63 d_X11_back_41 (by decide) ?_ ?_
      · skip
        exact jO.sub (t_X11_back_L63 hs n (f_X11_back_L29 n k) ih v1 v2 v3 v5 M) (And.intro rfl (And.intro rfl (And.intro rfl (And.intro rfl (And.intro rfl True.intro)))))
      · skip
        refine jo_iloadW 5 d_X11_back_44 rfl ?_
        refine jo_callS (st := []) (m_J6_bitCount_0f7a4 hs n v5 M) ok_J6_bitCount_0f7a4 (And.intro (Nat.le_of_ble_eq_true rfl) (Nat.le_of_ble_eq_true rfl)) lm_X11_341 st_J6_bitCount_0f7a4 rfl (And.intro (Nat.zero_le _) (Nat.zero_le _)) rfl (Nat.le_of_ble_eq_true rfl) d_X11_back_46 (fun r1 M2 => ?_)
        refine jo_iload 2 d_X11_back_49 rfl rfl ?_
        refine jo_icmp_lt 63 d_X11_back_50 (by decide) ?_ ?_
        · skip
          exact jO.sub (t_X11_back_L63 hs n (f_X11_back_L29 n k) ih v1 v2 v3 v5 M2) (And.intro rfl (And.intro rfl (And.intro rfl (And.intro rfl (And.intro rfl True.intro)))))
        · skip
          refine jo_lload 3 d_X11_back_53 rfl rfl ?_
          refine jo_aload 0 d_X11_back_54 rfl rfl ?_
          refine jo_iload 1 d_X11_back_55 rfl rfl ?_
          refine jo_iloadW 5 d_X11_back_56 rfl ?_
          refine jo_callV (st := [jl v3]) (m_X11_chancesOf hs n v1 v5 M2) ok_X11_chancesOf (And.intro (Nat.le_of_ble_eq_true rfl) (Nat.le_of_ble_eq_true rfl)) lm_X11_382 in_X11_chancesOf se_X11_chancesOf rfl kc_0 rfl rfl (And.intro (Nat.zero_le _) (Nat.zero_le _)) rfl (Nat.le_of_ble_eq_true rfl) d_X11_back_58 (fun r3 M4 => ?_)
          refine jo_ladd d_X11_back_61 ?_
          refine jo_lstore 3 d_X11_back_62 rfl (Nat.le_of_ble_eq_true rfl) (fun y5 => ?_)
          exact jO.sub (t_X11_back_L63 hs n (f_X11_back_L29 n k) ih v1 v2 y5 v5 M4) (And.intro rfl (And.intro rfl (And.intro rfl (And.intro rfl (And.intro rfl True.intro)))))
def f_X11_back (n : Nat) (x1 : Int) (x2 : Int) (M : JMem) : Option (Int × JMem) := bnd (f_X11_isSet n x1 M) fun r1 M2 => if jw r1 = 0 then (f_X11_back_L18 n M2) else (if jw x2 < 0 then (f_X11_back_L18 n M2) else (if jw x2 ≤ jw 8 then (letv 0 fun y3 => letv 0 fun y4 => f_X11_back_L29 n n x1 x2 y3 y4 M2) else (f_X11_back_L18 n M2)))
set_option maxRecDepth 4000 in
theorem t_X11_back {g : JG} {ad : Nat → Nat} (hs : jStr g ad) (n : Nat) (x1 : Int) (x2 : Int) (M : JMem) : jB g D_X11_back ad 0 [some (.ref 0), some (ji x1), some (ji x2), none, none, none] [] M (f_X11_back n x1 x2 M) := by
  unfold f_X11_back
  refine jo_aload 0 d_X11_back_0 rfl rfl ?_
  refine jo_iload 1 d_X11_back_1 rfl rfl ?_
  refine jo_callV (st := []) (m_X11_isSet hs n x1 M) ok_X11_isSet (And.intro (Nat.le_of_ble_eq_true rfl) (Nat.le_of_ble_eq_true rfl)) lm_X11_379 in_X11_isSet se_X11_isSet rfl kc_0 rfl rfl (And.intro (Nat.zero_le _) (Nat.zero_le _)) rfl (Nat.le_of_ble_eq_true rfl) d_X11_back_2 (fun r1 M2 => ?_)
  refine jo_if_eq 18 d_X11_back_5 (by decide) ?_ ?_
  · skip
    exact jO.sub (t_X11_back_L18 hs n M2) (And.intro rfl True.intro)
  · skip
    refine jo_iload 2 d_X11_back_8 rfl rfl ?_
    refine jo_if_lt 18 d_X11_back_9 (by decide) ?_ ?_
    · skip
      exact jO.sub (t_X11_back_L18 hs n M2) (And.intro rfl True.intro)
    · skip
      refine jo_iload 2 d_X11_back_12 rfl rfl ?_
      refine jo_bipush 8 d_X11_back_13 (by decide) ?_
      refine jo_icmp_le 24 d_X11_back_15 (by decide) ?_ ?_
      · skip
        refine jo_lconst0 d_X11_back_24 ?_
        refine jo_lstore 3 d_X11_back_25 rfl (Nat.le_of_ble_eq_true rfl) (fun y3 => ?_)
        refine jo_iconst 0 d_X11_back_26 ?_
        refine jo_istoreW 5 d_X11_back_27 (Nat.le_of_ble_eq_true rfl) (fun y4 => ?_)
        exact jO.sub (t_X11_back_L29 hs n n x1 x2 y3 y4 M2) (And.intro rfl (And.intro rfl (And.intro rfl (And.intro rfl (And.intro rfl True.intro)))))
      · skip
        exact jO.sub (t_X11_back_L18 hs n M2) (And.intro rfl True.intro)
theorem m_X11_back {g : JG} {ad : Nat → Nat} (hs : jStr g ad) (n : Nat) (x1 : Int) (x2 : Int) (M : JMem) : jMet g jNN ad jR D_X11_back yX11_back [.ref 0, ji x1, ji x2] M (f_X11_back n x1 x2 M) :=
  jMet.of (lo0 := [some (.ref 0), some (ji x1), some (ji x2), none, none, none]) (by decide) rfl rfl (Nat.le_of_ble_eq_true rfl) (And.intro rfl (And.intro rfl (And.intro rfl True.intro))) (t_X11_back hs n x1 x2 M)
/-! CageLeave.beast(II)I -/
def D_X11_beast : JD := (RX11, cX11_beast, 3, some .int, "beast", { frames := 1, cells := 0, slots := 0, locals := 21 })
theorem ok_X11_beast : jOk D_X11_beast yX11_beast 2 := ⟨jTW_mem (k := 968) (by decide +kernel) rfl, jTW_mem (k := 135) (by decide +kernel) rfl, ⟨by decide +kernel, by decide +kernel⟩, by decide +kernel, rfl, rfl⟩
theorem in_X11_beast : Cond.instanceMethod yX11_beast ∈ jTW := jTW_mem (k := 966) (by decide +kernel) rfl
theorem se_X11_beast : Cond.selects yX11_beast.cls yX11_beast yX11_beast ∈ jTW := jTW_mem (k := 967) (by decide +kernel) rfl
theorem lk_X11_267 : Cond.fieldLink RX11 267 (TX4 13).1 (TX4 13).2.1 (TX4 13).2.2.1 ∈ jTW := jTW_mem (k := 353) (by decide +kernel) rfl
theorem lk_X11_227 : Cond.fieldLink RX11 227 (TX1 2).1 (TX1 2).2.1 (TX1 2).2.2.1 ∈ jTW := jTW_mem (k := 407) (by decide +kernel) rfl
theorem lk_X11_230 : Cond.fieldLink RX11 230 (TX1 3).1 (TX1 3).2.1 (TX1 3).2.2.1 ∈ jTW := jTW_mem (k := 409) (by decide +kernel) rfl
theorem lk_X11_273 : Cond.fieldLink RX11 273 (TX1 6).1 (TX1 6).2.1 (TX1 6).2.2.1 ∈ jTW := jTW_mem (k := 417) (by decide +kernel) rfl
theorem lk_X11_276 : Cond.fieldLink RX11 276 (TX1 5).1 (TX1 5).2.1 (TX1 5).2.2.1 ∈ jTW := jTW_mem (k := 415) (by decide +kernel) rfl
theorem lk_X11_279 : Cond.fieldLink RX11 279 (TX4 15).1 (TX4 15).2.1 (TX4 15).2.2.1 ∈ jTW := jTW_mem (k := 360) (by decide +kernel) rfl
theorem d_X11_beast_0 : decode (D_X11_beast).2.1 0 = .ok (.aload_n 0, 1) := by decide +kernel
theorem d_X11_beast_1 : decode (D_X11_beast).2.1 1 = .ok (.iload_n 1, 1) := by decide +kernel
theorem d_X11_beast_2 : decode (D_X11_beast).2.1 2 = .ok (.invokevirtual 264, 3) := by decide +kernel
theorem d_X11_beast_5 : decode (D_X11_beast).2.1 5 = .ok (.ifCond .ne 9, 3) := by decide +kernel
theorem d_X11_beast_8 : decode (D_X11_beast).2.1 8 = .ok (.aload_n 0, 1) := by decide +kernel
theorem d_X11_beast_9 : decode (D_X11_beast).2.1 9 = .ok (.iconst 1, 1) := by decide +kernel
theorem d_X11_beast_10 : decode (D_X11_beast).2.1 10 = .ok (.invokevirtual 143, 3) := by decide +kernel
theorem d_X11_beast_13 : decode (D_X11_beast).2.1 13 = .ok (.ireturn, 1) := by decide +kernel
theorem d_X11_beast_14 : decode (D_X11_beast).2.1 14 = .ok (.iload_n 2, 1) := by decide +kernel
theorem d_X11_beast_15 : decode (D_X11_beast).2.1 15 = .ok (.tableswitch 143 0 6 #[41, 55, 69, 85, 101, 115, 129], 41) := by decide +kernel
theorem d_X11_beast_56 : decode (D_X11_beast).2.1 56 = .ok (.aload_n 0, 1) := by decide +kernel
theorem d_X11_beast_57 : decode (D_X11_beast).2.1 57 = .ok (.aload_n 0, 1) := by decide +kernel
theorem d_X11_beast_58 : decode (D_X11_beast).2.1 58 = .ok (.getfield 53, 3) := by decide +kernel
theorem d_X11_beast_61 : decode (D_X11_beast).2.1 61 = .ok (.getfield 267, 3) := by decide +kernel
theorem d_X11_beast_64 : decode (D_X11_beast).2.1 64 = .ok (.iload_n 1, 1) := by decide +kernel
theorem d_X11_beast_65 : decode (D_X11_beast).2.1 65 = .ok (.iaload, 1) := by decide +kernel
theorem d_X11_beast_66 : decode (D_X11_beast).2.1 66 = .ok (.invokevirtual 193, 3) := by decide +kernel
theorem d_X11_beast_69 : decode (D_X11_beast).2.1 69 = .ok (.ireturn, 1) := by decide +kernel
theorem d_X11_beast_70 : decode (D_X11_beast).2.1 70 = .ok (.aload_n 0, 1) := by decide +kernel
theorem d_X11_beast_71 : decode (D_X11_beast).2.1 71 = .ok (.aload_n 0, 1) := by decide +kernel
theorem d_X11_beast_72 : decode (D_X11_beast).2.1 72 = .ok (.getfield 53, 3) := by decide +kernel
theorem d_X11_beast_75 : decode (D_X11_beast).2.1 75 = .ok (.getfield 270, 3) := by decide +kernel
theorem d_X11_beast_78 : decode (D_X11_beast).2.1 78 = .ok (.iload_n 1, 1) := by decide +kernel
theorem d_X11_beast_79 : decode (D_X11_beast).2.1 79 = .ok (.iaload, 1) := by decide +kernel
theorem d_X11_beast_80 : decode (D_X11_beast).2.1 80 = .ok (.invokevirtual 193, 3) := by decide +kernel
theorem d_X11_beast_83 : decode (D_X11_beast).2.1 83 = .ok (.ireturn, 1) := by decide +kernel
theorem d_X11_beast_84 : decode (D_X11_beast).2.1 84 = .ok (.aload_n 0, 1) := by decide +kernel
theorem d_X11_beast_85 : decode (D_X11_beast).2.1 85 = .ok (.aload_n 0, 1) := by decide +kernel
theorem d_X11_beast_86 : decode (D_X11_beast).2.1 86 = .ok (.getfield 60, 3) := by decide +kernel
theorem d_X11_beast_89 : decode (D_X11_beast).2.1 89 = .ok (.getfield 227, 3) := by decide +kernel
theorem d_X11_beast_92 : decode (D_X11_beast).2.1 92 = .ok (.iload_n 1, 1) := by decide +kernel
theorem d_X11_beast_93 : decode (D_X11_beast).2.1 93 = .ok (.ishr, 1) := by decide +kernel
theorem d_X11_beast_94 : decode (D_X11_beast).2.1 94 = .ok (.iconst 1, 1) := by decide +kernel
theorem d_X11_beast_95 : decode (D_X11_beast).2.1 95 = .ok (.iand, 1) := by decide +kernel
theorem d_X11_beast_96 : decode (D_X11_beast).2.1 96 = .ok (.invokevirtual 193, 3) := by decide +kernel
theorem d_X11_beast_99 : decode (D_X11_beast).2.1 99 = .ok (.ireturn, 1) := by decide +kernel
theorem d_X11_beast_100 : decode (D_X11_beast).2.1 100 = .ok (.aload_n 0, 1) := by decide +kernel
theorem d_X11_beast_101 : decode (D_X11_beast).2.1 101 = .ok (.aload_n 0, 1) := by decide +kernel
theorem d_X11_beast_102 : decode (D_X11_beast).2.1 102 = .ok (.getfield 60, 3) := by decide +kernel
theorem d_X11_beast_105 : decode (D_X11_beast).2.1 105 = .ok (.getfield 230, 3) := by decide +kernel
theorem d_X11_beast_108 : decode (D_X11_beast).2.1 108 = .ok (.iload_n 1, 1) := by decide +kernel
theorem d_X11_beast_109 : decode (D_X11_beast).2.1 109 = .ok (.ishr, 1) := by decide +kernel
theorem d_X11_beast_110 : decode (D_X11_beast).2.1 110 = .ok (.iconst 1, 1) := by decide +kernel
theorem d_X11_beast_111 : decode (D_X11_beast).2.1 111 = .ok (.iand, 1) := by decide +kernel
theorem d_X11_beast_112 : decode (D_X11_beast).2.1 112 = .ok (.invokevirtual 193, 3) := by decide +kernel
theorem d_X11_beast_115 : decode (D_X11_beast).2.1 115 = .ok (.ireturn, 1) := by decide +kernel
theorem d_X11_beast_116 : decode (D_X11_beast).2.1 116 = .ok (.aload_n 0, 1) := by decide +kernel
theorem d_X11_beast_117 : decode (D_X11_beast).2.1 117 = .ok (.aload_n 0, 1) := by decide +kernel
theorem d_X11_beast_118 : decode (D_X11_beast).2.1 118 = .ok (.getfield 60, 3) := by decide +kernel
theorem d_X11_beast_121 : decode (D_X11_beast).2.1 121 = .ok (.getfield 273, 3) := by decide +kernel
theorem d_X11_beast_124 : decode (D_X11_beast).2.1 124 = .ok (.iload_n 1, 1) := by decide +kernel
theorem d_X11_beast_125 : decode (D_X11_beast).2.1 125 = .ok (.iaload, 1) := by decide +kernel
theorem d_X11_beast_126 : decode (D_X11_beast).2.1 126 = .ok (.invokevirtual 193, 3) := by decide +kernel
theorem d_X11_beast_129 : decode (D_X11_beast).2.1 129 = .ok (.ireturn, 1) := by decide +kernel
theorem d_X11_beast_130 : decode (D_X11_beast).2.1 130 = .ok (.aload_n 0, 1) := by decide +kernel
theorem d_X11_beast_131 : decode (D_X11_beast).2.1 131 = .ok (.aload_n 0, 1) := by decide +kernel
theorem d_X11_beast_132 : decode (D_X11_beast).2.1 132 = .ok (.getfield 60, 3) := by decide +kernel
theorem d_X11_beast_135 : decode (D_X11_beast).2.1 135 = .ok (.getfield 276, 3) := by decide +kernel
theorem d_X11_beast_138 : decode (D_X11_beast).2.1 138 = .ok (.iload_n 1, 1) := by decide +kernel
theorem d_X11_beast_139 : decode (D_X11_beast).2.1 139 = .ok (.iaload, 1) := by decide +kernel
theorem d_X11_beast_140 : decode (D_X11_beast).2.1 140 = .ok (.invokevirtual 193, 3) := by decide +kernel
theorem d_X11_beast_143 : decode (D_X11_beast).2.1 143 = .ok (.ireturn, 1) := by decide +kernel
theorem d_X11_beast_144 : decode (D_X11_beast).2.1 144 = .ok (.aload_n 0, 1) := by decide +kernel
theorem d_X11_beast_145 : decode (D_X11_beast).2.1 145 = .ok (.aload_n 0, 1) := by decide +kernel
theorem d_X11_beast_146 : decode (D_X11_beast).2.1 146 = .ok (.getfield 53, 3) := by decide +kernel
theorem d_X11_beast_149 : decode (D_X11_beast).2.1 149 = .ok (.getfield 279, 3) := by decide +kernel
theorem d_X11_beast_152 : decode (D_X11_beast).2.1 152 = .ok (.iload_n 1, 1) := by decide +kernel
theorem d_X11_beast_153 : decode (D_X11_beast).2.1 153 = .ok (.iaload, 1) := by decide +kernel
theorem d_X11_beast_154 : decode (D_X11_beast).2.1 154 = .ok (.invokevirtual 193, 3) := by decide +kernel
theorem d_X11_beast_157 : decode (D_X11_beast).2.1 157 = .ok (.ireturn, 1) := by decide +kernel
theorem d_X11_beast_158 : decode (D_X11_beast).2.1 158 = .ok (.aload_n 0, 1) := by decide +kernel
theorem d_X11_beast_159 : decode (D_X11_beast).2.1 159 = .ok (.iconst 1, 1) := by decide +kernel
theorem d_X11_beast_160 : decode (D_X11_beast).2.1 160 = .ok (.invokevirtual 143, 3) := by decide +kernel
theorem d_X11_beast_163 : decode (D_X11_beast).2.1 163 = .ok (.ireturn, 1) := by decide +kernel
def f_X11_beast (n : Nat) (x1 : Int) (x2 : Int) (M : JMem) : Option (Int × JMem) := bnd (f_X11_isBeast n x1 M) fun r1 M2 => if jw r1 = 0 then (bnd (f_X11_refuse n 1 M2) fun r20 M21 => some (r20, M21)) else (if jw x2 = 0 then (chk (jin x1 8) <| bnd (f_X11_answer n (M2 (40 + 9) (jw x1).toNat) M2) fun r4 M5 => some (r4, M5)) else (if jw x2 = 1 then (chk (jin x1 8) <| bnd (f_X11_answer n (M2 (40 + 10) (jw x1).toNat) M2) fun r6 M7 => some (r6, M7)) else (if jw x2 = 2 then (bnd (f_X11_answer n (jand (jshr (M2 52 2) x1) 1) M2) fun r8 M9 => some (r8, M9)) else (if jw x2 = 3 then (bnd (f_X11_answer n (jand (jshr (M2 52 3) x1) 1) M2) fun r10 M11 => some (r10, M11)) else (if jw x2 = 4 then (chk (jin x1 8) <| bnd (f_X11_answer n (M2 (52 + 2) (jw x1).toNat) M2) fun r12 M13 => some (r12, M13)) else (if jw x2 = 5 then (chk (jin x1 8) <| bnd (f_X11_answer n (M2 (52 + 1) (jw x1).toNat) M2) fun r14 M15 => some (r14, M15)) else (if jw x2 = 6 then (chk (jin x1 8) <| bnd (f_X11_answer n (M2 (40 + 11) (jw x1).toNat) M2) fun r16 M17 => some (r16, M17)) else (bnd (f_X11_refuse n 1 M2) fun r18 M19 => some (r18, M19)))))))))
set_option maxRecDepth 4000 in
theorem t_X11_beast {g : JG} {ad : Nat → Nat} (hs : jStr g ad) (n : Nat) (x1 : Int) (x2 : Int) (M : JMem) : jB g D_X11_beast ad 0 [some (.ref 0), some (ji x1), some (ji x2)] [] M (f_X11_beast n x1 x2 M) := by
  unfold f_X11_beast
  refine jo_aload 0 d_X11_beast_0 rfl rfl ?_
  refine jo_iload 1 d_X11_beast_1 rfl rfl ?_
  refine jo_callV (st := []) (m_X11_isBeast hs n x1 M) ok_X11_isBeast (And.intro (Nat.le_of_ble_eq_true rfl) (Nat.le_of_ble_eq_true rfl)) lm_X11_264 in_X11_isBeast se_X11_isBeast rfl kc_0 rfl rfl (And.intro (Nat.zero_le _) (Nat.zero_le _)) rfl (Nat.le_of_ble_eq_true rfl) d_X11_beast_2 (fun r1 M2 => ?_)
  refine jo_if_ne 14 d_X11_beast_5 (by decide) ?_ ?_
  · skip
    refine jo_iload 2 d_X11_beast_14 rfl rfl ?_
    refine jo_if (fun c3_0 => ?_) (fun c3_0 => ?_)
    · skip
      refine jo_tabIn 56 d_X11_beast_15 0 c3_0 (by decide) (by decide) rfl (by decide) ?_
      refine jo_aload 0 d_X11_beast_56 rfl rfl ?_
      refine jo_aload 0 d_X11_beast_57 rfl rfl ?_
      refine jo_getR (k := 7) cl_11 (Nat.le_of_ble_eq_true rfl) lk_X11_53 rfl kc_0 kr_0_7 d_X11_beast_58 ?_
      refine jo_getR (k := 13) cl_4 (Nat.le_of_ble_eq_true rfl) lk_X11_267 rfl kc_40 (kr_Plan_13 kc_40) d_X11_beast_61 ?_
      refine jo_iload 1 d_X11_beast_64 rfl rfl ?_
      refine jo_iald (N := 8) (ka_Plan_13 kc_40) d_X11_beast_65 ?_
      refine jo_callV (st := []) (m_X11_answer hs n (M2 (40 + 9) (jw x1).toNat) M2) ok_X11_answer (And.intro (Nat.le_of_ble_eq_true rfl) (Nat.le_of_ble_eq_true rfl)) lm_X11_193 in_X11_answer se_X11_answer rfl kc_0 rfl rfl (And.intro (Nat.zero_le _) (Nat.zero_le _)) rfl (Nat.le_of_ble_eq_true rfl) d_X11_beast_66 (fun r4 M5 => ?_)
      exact jo_iret rfl d_X11_beast_69
    refine jo_if (fun c3_1 => ?_) (fun c3_1 => ?_)
    · skip
      refine jo_tabIn 70 d_X11_beast_15 1 c3_1 (by decide) (by decide) rfl (by decide) ?_
      refine jo_aload 0 d_X11_beast_70 rfl rfl ?_
      refine jo_aload 0 d_X11_beast_71 rfl rfl ?_
      refine jo_getR (k := 7) cl_11 (Nat.le_of_ble_eq_true rfl) lk_X11_53 rfl kc_0 kr_0_7 d_X11_beast_72 ?_
      refine jo_getR (k := 14) cl_4 (Nat.le_of_ble_eq_true rfl) lk_X11_270 rfl kc_40 (kr_Plan_14 kc_40) d_X11_beast_75 ?_
      refine jo_iload 1 d_X11_beast_78 rfl rfl ?_
      refine jo_iald (N := 8) (ka_Plan_14 kc_40) d_X11_beast_79 ?_
      refine jo_callV (st := []) (m_X11_answer hs n (M2 (40 + 10) (jw x1).toNat) M2) ok_X11_answer (And.intro (Nat.le_of_ble_eq_true rfl) (Nat.le_of_ble_eq_true rfl)) lm_X11_193 in_X11_answer se_X11_answer rfl kc_0 rfl rfl (And.intro (Nat.zero_le _) (Nat.zero_le _)) rfl (Nat.le_of_ble_eq_true rfl) d_X11_beast_80 (fun r6 M7 => ?_)
      exact jo_iret rfl d_X11_beast_83
    refine jo_if (fun c3_2 => ?_) (fun c3_2 => ?_)
    · skip
      refine jo_tabIn 84 d_X11_beast_15 2 c3_2 (by decide) (by decide) rfl (by decide) ?_
      refine jo_aload 0 d_X11_beast_84 rfl rfl ?_
      refine jo_aload 0 d_X11_beast_85 rfl rfl ?_
      refine jo_getR (k := 8) cl_11 (Nat.le_of_ble_eq_true rfl) lk_X11_60 rfl kc_0 kr_0_8 d_X11_beast_86 ?_
      refine jo_getI (k := 2) cl_1 (Nat.le_of_ble_eq_true rfl) lk_X11_227 (Or.inl rfl) kc_52 d_X11_beast_89 ?_
      refine jo_iload 1 d_X11_beast_92 rfl rfl ?_
      refine jo_ishr d_X11_beast_93 ?_
      refine jo_iconst 1 d_X11_beast_94 ?_
      refine jo_iand d_X11_beast_95 ?_
      refine jo_callV (st := []) (m_X11_answer hs n (jand (jshr (M2 52 2) x1) 1) M2) ok_X11_answer (And.intro (Nat.le_of_ble_eq_true rfl) (Nat.le_of_ble_eq_true rfl)) lm_X11_193 in_X11_answer se_X11_answer rfl kc_0 rfl rfl (And.intro (Nat.zero_le _) (Nat.zero_le _)) rfl (Nat.le_of_ble_eq_true rfl) d_X11_beast_96 (fun r8 M9 => ?_)
      exact jo_iret rfl d_X11_beast_99
    refine jo_if (fun c3_3 => ?_) (fun c3_3 => ?_)
    · skip
      refine jo_tabIn 100 d_X11_beast_15 3 c3_3 (by decide) (by decide) rfl (by decide) ?_
      refine jo_aload 0 d_X11_beast_100 rfl rfl ?_
      refine jo_aload 0 d_X11_beast_101 rfl rfl ?_
      refine jo_getR (k := 8) cl_11 (Nat.le_of_ble_eq_true rfl) lk_X11_60 rfl kc_0 kr_0_8 d_X11_beast_102 ?_
      refine jo_getI (k := 3) cl_1 (Nat.le_of_ble_eq_true rfl) lk_X11_230 (Or.inl rfl) kc_52 d_X11_beast_105 ?_
      refine jo_iload 1 d_X11_beast_108 rfl rfl ?_
      refine jo_ishr d_X11_beast_109 ?_
      refine jo_iconst 1 d_X11_beast_110 ?_
      refine jo_iand d_X11_beast_111 ?_
      refine jo_callV (st := []) (m_X11_answer hs n (jand (jshr (M2 52 3) x1) 1) M2) ok_X11_answer (And.intro (Nat.le_of_ble_eq_true rfl) (Nat.le_of_ble_eq_true rfl)) lm_X11_193 in_X11_answer se_X11_answer rfl kc_0 rfl rfl (And.intro (Nat.zero_le _) (Nat.zero_le _)) rfl (Nat.le_of_ble_eq_true rfl) d_X11_beast_112 (fun r10 M11 => ?_)
      exact jo_iret rfl d_X11_beast_115
    refine jo_if (fun c3_4 => ?_) (fun c3_4 => ?_)
    · skip
      refine jo_tabIn 116 d_X11_beast_15 4 c3_4 (by decide) (by decide) rfl (by decide) ?_
      refine jo_aload 0 d_X11_beast_116 rfl rfl ?_
      refine jo_aload 0 d_X11_beast_117 rfl rfl ?_
      refine jo_getR (k := 8) cl_11 (Nat.le_of_ble_eq_true rfl) lk_X11_60 rfl kc_0 kr_0_8 d_X11_beast_118 ?_
      refine jo_getR (k := 6) cl_1 (Nat.le_of_ble_eq_true rfl) lk_X11_273 rfl kc_52 (kr_Now_6 kc_52) d_X11_beast_121 ?_
      refine jo_iload 1 d_X11_beast_124 rfl rfl ?_
      refine jo_iald (N := 8) (ka_Now_6 kc_52) d_X11_beast_125 ?_
      refine jo_callV (st := []) (m_X11_answer hs n (M2 (52 + 2) (jw x1).toNat) M2) ok_X11_answer (And.intro (Nat.le_of_ble_eq_true rfl) (Nat.le_of_ble_eq_true rfl)) lm_X11_193 in_X11_answer se_X11_answer rfl kc_0 rfl rfl (And.intro (Nat.zero_le _) (Nat.zero_le _)) rfl (Nat.le_of_ble_eq_true rfl) d_X11_beast_126 (fun r12 M13 => ?_)
      exact jo_iret rfl d_X11_beast_129
    refine jo_if (fun c3_5 => ?_) (fun c3_5 => ?_)
    · skip
      refine jo_tabIn 130 d_X11_beast_15 5 c3_5 (by decide) (by decide) rfl (by decide) ?_
      refine jo_aload 0 d_X11_beast_130 rfl rfl ?_
      refine jo_aload 0 d_X11_beast_131 rfl rfl ?_
      refine jo_getR (k := 8) cl_11 (Nat.le_of_ble_eq_true rfl) lk_X11_60 rfl kc_0 kr_0_8 d_X11_beast_132 ?_
      refine jo_getR (k := 5) cl_1 (Nat.le_of_ble_eq_true rfl) lk_X11_276 rfl kc_52 (kr_Now_5 kc_52) d_X11_beast_135 ?_
      refine jo_iload 1 d_X11_beast_138 rfl rfl ?_
      refine jo_iald (N := 8) (ka_Now_5 kc_52) d_X11_beast_139 ?_
      refine jo_callV (st := []) (m_X11_answer hs n (M2 (52 + 1) (jw x1).toNat) M2) ok_X11_answer (And.intro (Nat.le_of_ble_eq_true rfl) (Nat.le_of_ble_eq_true rfl)) lm_X11_193 in_X11_answer se_X11_answer rfl kc_0 rfl rfl (And.intro (Nat.zero_le _) (Nat.zero_le _)) rfl (Nat.le_of_ble_eq_true rfl) d_X11_beast_140 (fun r14 M15 => ?_)
      exact jo_iret rfl d_X11_beast_143
    refine jo_if (fun c3_6 => ?_) (fun c3_6 => ?_)
    · skip
      refine jo_tabIn 144 d_X11_beast_15 6 c3_6 (by decide) (by decide) rfl (by decide) ?_
      refine jo_aload 0 d_X11_beast_144 rfl rfl ?_
      refine jo_aload 0 d_X11_beast_145 rfl rfl ?_
      refine jo_getR (k := 7) cl_11 (Nat.le_of_ble_eq_true rfl) lk_X11_53 rfl kc_0 kr_0_7 d_X11_beast_146 ?_
      refine jo_getR (k := 15) cl_4 (Nat.le_of_ble_eq_true rfl) lk_X11_279 rfl kc_40 (kr_Plan_15 kc_40) d_X11_beast_149 ?_
      refine jo_iload 1 d_X11_beast_152 rfl rfl ?_
      refine jo_iald (N := 8) (ka_Plan_15 kc_40) d_X11_beast_153 ?_
      refine jo_callV (st := []) (m_X11_answer hs n (M2 (40 + 11) (jw x1).toNat) M2) ok_X11_answer (And.intro (Nat.le_of_ble_eq_true rfl) (Nat.le_of_ble_eq_true rfl)) lm_X11_193 in_X11_answer se_X11_answer rfl kc_0 rfl rfl (And.intro (Nat.zero_le _) (Nat.zero_le _)) rfl (Nat.le_of_ble_eq_true rfl) d_X11_beast_154 (fun r16 M17 => ?_)
      exact jo_iret rfl d_X11_beast_157
    refine jo_tabOut 158 d_X11_beast_15 (by omega) (by decide) ?_
    refine jo_aload 0 d_X11_beast_158 rfl rfl ?_
    refine jo_iconst 1 d_X11_beast_159 ?_
    refine jo_callV (st := []) (m_X11_refuse hs n 1 M2) ok_X11_refuse (And.intro (Nat.le_of_ble_eq_true rfl) (Nat.le_of_ble_eq_true rfl)) lm_X11_143 in_X11_refuse se_X11_refuse rfl kc_0 rfl rfl (And.intro (Nat.zero_le _) (Nat.zero_le _)) rfl (Nat.le_of_ble_eq_true rfl) d_X11_beast_160 (fun r18 M19 => ?_)
    exact jo_iret rfl d_X11_beast_163
  · skip
    refine jo_aload 0 d_X11_beast_8 rfl rfl ?_
    refine jo_iconst 1 d_X11_beast_9 ?_
    refine jo_callV (st := []) (m_X11_refuse hs n 1 M2) ok_X11_refuse (And.intro (Nat.le_of_ble_eq_true rfl) (Nat.le_of_ble_eq_true rfl)) lm_X11_143 in_X11_refuse se_X11_refuse rfl kc_0 rfl rfl (And.intro (Nat.zero_le _) (Nat.zero_le _)) rfl (Nat.le_of_ble_eq_true rfl) d_X11_beast_10 (fun r20 M21 => ?_)
    exact jo_iret rfl d_X11_beast_13
theorem m_X11_beast {g : JG} {ad : Nat → Nat} (hs : jStr g ad) (n : Nat) (x1 : Int) (x2 : Int) (M : JMem) : jMet g jNN ad jR D_X11_beast yX11_beast [.ref 0, ji x1, ji x2] M (f_X11_beast n x1 x2 M) :=
  jMet.of (lo0 := [some (.ref 0), some (ji x1), some (ji x2)]) (by decide) rfl rfl (Nat.le_of_ble_eq_true rfl) (And.intro rfl (And.intro rfl (And.intro rfl True.intro))) (t_X11_beast hs n x1 x2 M)
/-! CageLeave.bottom()J -/
def D_X11_bottom : JD := (RX11, cX11_bottom, 1, some .long, "bottom", { frames := 0, cells := 0, slots := 0, locals := 0 })
theorem ok_X11_bottom : jOk D_X11_bottom yX11_bottom 0 := ⟨jTW_mem (k := 679) (by decide +kernel) rfl, jTW_mem (k := 135) (by decide +kernel) rfl, ⟨by decide +kernel, by decide +kernel⟩, by decide +kernel, rfl, rfl⟩
theorem in_X11_bottom : Cond.instanceMethod yX11_bottom ∈ jTW := jTW_mem (k := 677) (by decide +kernel) rfl
theorem se_X11_bottom : Cond.selects yX11_bottom.cls yX11_bottom yX11_bottom ∈ jTW := jTW_mem (k := 678) (by decide +kernel) rfl
theorem d_X11_bottom_0 : decode (D_X11_bottom).2.1 0 = .ok (.aload_n 0, 1) := by decide +kernel
theorem d_X11_bottom_1 : decode (D_X11_bottom).2.1 1 = .ok (.getfield 17, 3) := by decide +kernel
theorem d_X11_bottom_4 : decode (D_X11_bottom).2.1 4 = .ok (.lreturn, 1) := by decide +kernel
def f_X11_bottom (n : Nat) (M : JMem) : Option (Int × JMem) := some ((M 0 2), M)
set_option maxRecDepth 4000 in
theorem t_X11_bottom {g : JG} {ad : Nat → Nat} (hs : jStr g ad) (n : Nat) (M : JMem) : jB g D_X11_bottom ad 0 [some (.ref 0)] [] M (f_X11_bottom n M) := by
  unfold f_X11_bottom
  refine jo_aload 0 d_X11_bottom_0 rfl rfl ?_
  refine jo_getL (k := 2) cl_11 (Nat.le_of_ble_eq_true rfl) lk_X11_17 rfl kc_0 d_X11_bottom_1 ?_
  exact jo_lret rfl d_X11_bottom_4
theorem m_X11_bottom {g : JG} {ad : Nat → Nat} (hs : jStr g ad) (n : Nat) (M : JMem) : jMet g jNN ad jR D_X11_bottom yX11_bottom [.ref 0] M (f_X11_bottom n M) :=
  jMet.of (lo0 := [some (.ref 0)]) (by decide) rfl rfl (Nat.le_of_ble_eq_true rfl) (And.intro rfl True.intro) (t_X11_bottom hs n M)
/-! CageLeave.copyPlaces(I)I -/
def D_X11_copyPlaces : JD := (RX11, cX11_copyPlaces, 4, some .int, "copyPlaces", { frames := 2, cells := 0, slots := 0, locals := 44 })
theorem ok_X11_copyPlaces : jOk D_X11_copyPlaces yX11_copyPlaces 1 := ⟨jTW_mem (k := 1307) (by decide +kernel) rfl, jTW_mem (k := 135) (by decide +kernel) rfl, ⟨by decide +kernel, by decide +kernel⟩, by decide +kernel, rfl, rfl⟩
theorem in_X11_copyPlaces : Cond.instanceMethod yX11_copyPlaces ∈ jTW := jTW_mem (k := 1305) (by decide +kernel) rfl
theorem se_X11_copyPlaces : Cond.selects yX11_copyPlaces.cls yX11_copyPlaces yX11_copyPlaces ∈ jTW := jTW_mem (k := 1306) (by decide +kernel) rfl
theorem lk_X11_23 : Cond.fieldLink RX11 23 (TX11 3).1 (TX11 3).2.1 (TX11 3).2.2.1 ∈ jTW := jTW_mem (k := 610) (by decide +kernel) rfl
theorem lm_X11_139 : Cond.methodLink RX11 139 yX7_put ∈ jTW := jTW_mem (k := 716) (by decide +kernel) rfl
theorem lm_X11_408 : Cond.methodLink RX11 408 yX7_whyNotLong ∈ jTW := jTW_mem (k := 1274) (by decide +kernel) rfl
theorem d_X11_copyPlaces_0 : decode (D_X11_copyPlaces).2.1 0 = .ok (.aload_n 0, 1) := by decide +kernel
theorem d_X11_copyPlaces_1 : decode (D_X11_copyPlaces).2.1 1 = .ok (.getfield 23, 3) := by decide +kernel
theorem d_X11_copyPlaces_4 : decode (D_X11_copyPlaces).2.1 4 = .ok (.iload_n 1, 1) := by decide +kernel
theorem d_X11_copyPlaces_5 : decode (D_X11_copyPlaces).2.1 5 = .ok (.aload_n 0, 1) := by decide +kernel
theorem d_X11_copyPlaces_6 : decode (D_X11_copyPlaces).2.1 6 = .ok (.getfield 53, 3) := by decide +kernel
theorem d_X11_copyPlaces_9 : decode (D_X11_copyPlaces).2.1 9 = .ok (.getfield 190, 3) := by decide +kernel
theorem d_X11_copyPlaces_12 : decode (D_X11_copyPlaces).2.1 12 = .ok (.invokevirtual 408, 3) := by decide +kernel
theorem d_X11_copyPlaces_15 : decode (D_X11_copyPlaces).2.1 15 = .ok (.istore_n 2, 1) := by decide +kernel
theorem d_X11_copyPlaces_16 : decode (D_X11_copyPlaces).2.1 16 = .ok (.iload_n 2, 1) := by decide +kernel
theorem d_X11_copyPlaces_17 : decode (D_X11_copyPlaces).2.1 17 = .ok (.ifCond .eq 9, 3) := by decide +kernel
theorem d_X11_copyPlaces_20 : decode (D_X11_copyPlaces).2.1 20 = .ok (.aload_n 0, 1) := by decide +kernel
theorem d_X11_copyPlaces_21 : decode (D_X11_copyPlaces).2.1 21 = .ok (.iload_n 2, 1) := by decide +kernel
theorem d_X11_copyPlaces_22 : decode (D_X11_copyPlaces).2.1 22 = .ok (.invokevirtual 143, 3) := by decide +kernel
theorem d_X11_copyPlaces_25 : decode (D_X11_copyPlaces).2.1 25 = .ok (.ireturn, 1) := by decide +kernel
theorem d_X11_copyPlaces_26 : decode (D_X11_copyPlaces).2.1 26 = .ok (.iconst 0, 1) := by decide +kernel
theorem d_X11_copyPlaces_27 : decode (D_X11_copyPlaces).2.1 27 = .ok (.istore_n 3, 1) := by decide +kernel
theorem d_X11_copyPlaces_28 : decode (D_X11_copyPlaces).2.1 28 = .ok (.iload_n 3, 1) := by decide +kernel
theorem d_X11_copyPlaces_29 : decode (D_X11_copyPlaces).2.1 29 = .ok (.aload_n 0, 1) := by decide +kernel
theorem d_X11_copyPlaces_30 : decode (D_X11_copyPlaces).2.1 30 = .ok (.getfield 53, 3) := by decide +kernel
theorem d_X11_copyPlaces_33 : decode (D_X11_copyPlaces).2.1 33 = .ok (.getfield 190, 3) := by decide +kernel
theorem d_X11_copyPlaces_36 : decode (D_X11_copyPlaces).2.1 36 = .ok (.if_icmp .ge 31, 3) := by decide +kernel
theorem d_X11_copyPlaces_39 : decode (D_X11_copyPlaces).2.1 39 = .ok (.aload_n 0, 1) := by decide +kernel
theorem d_X11_copyPlaces_40 : decode (D_X11_copyPlaces).2.1 40 = .ok (.getfield 23, 3) := by decide +kernel
theorem d_X11_copyPlaces_43 : decode (D_X11_copyPlaces).2.1 43 = .ok (.iload_n 1, 1) := by decide +kernel
theorem d_X11_copyPlaces_44 : decode (D_X11_copyPlaces).2.1 44 = .ok (.iload_n 3, 1) := by decide +kernel
theorem d_X11_copyPlaces_45 : decode (D_X11_copyPlaces).2.1 45 = .ok (.aload_n 0, 1) := by decide +kernel
theorem d_X11_copyPlaces_46 : decode (D_X11_copyPlaces).2.1 46 = .ok (.getfield 60, 3) := by decide +kernel
theorem d_X11_copyPlaces_49 : decode (D_X11_copyPlaces).2.1 49 = .ok (.aload_n 0, 1) := by decide +kernel
theorem d_X11_copyPlaces_50 : decode (D_X11_copyPlaces).2.1 50 = .ok (.getfield 53, 3) := by decide +kernel
theorem d_X11_copyPlaces_53 : decode (D_X11_copyPlaces).2.1 53 = .ok (.iload_n 3, 1) := by decide +kernel
theorem d_X11_copyPlaces_54 : decode (D_X11_copyPlaces).2.1 54 = .ok (.invokevirtual 285, 3) := by decide +kernel
theorem d_X11_copyPlaces_57 : decode (D_X11_copyPlaces).2.1 57 = .ok (.i2l, 1) := by decide +kernel
theorem d_X11_copyPlaces_58 : decode (D_X11_copyPlaces).2.1 58 = .ok (.invokevirtual 139, 3) := by decide +kernel
theorem d_X11_copyPlaces_61 : decode (D_X11_copyPlaces).2.1 61 = .ok (.iinc 3 1, 3) := by decide +kernel
theorem d_X11_copyPlaces_64 : decode (D_X11_copyPlaces).2.1 64 = .ok (.goto (-36), 3) := by decide +kernel
theorem d_X11_copyPlaces_67 : decode (D_X11_copyPlaces).2.1 67 = .ok (.aload_n 0, 1) := by decide +kernel
theorem d_X11_copyPlaces_68 : decode (D_X11_copyPlaces).2.1 68 = .ok (.aload_n 0, 1) := by decide +kernel
theorem d_X11_copyPlaces_69 : decode (D_X11_copyPlaces).2.1 69 = .ok (.getfield 53, 3) := by decide +kernel
theorem d_X11_copyPlaces_72 : decode (D_X11_copyPlaces).2.1 72 = .ok (.getfield 190, 3) := by decide +kernel
theorem d_X11_copyPlaces_75 : decode (D_X11_copyPlaces).2.1 75 = .ok (.invokevirtual 193, 3) := by decide +kernel
theorem d_X11_copyPlaces_78 : decode (D_X11_copyPlaces).2.1 78 = .ok (.ireturn, 1) := by decide +kernel
def f_X11_copyPlaces_L67 (n : Nat) (M : JMem) : Option (Int × JMem) := bnd (f_X11_answer n (M 40 2) M) fun r1 M2 => some (r1, M2)
set_option maxRecDepth 4000 in
theorem t_X11_copyPlaces_L67 {g : JG} {ad : Nat → Nat} (hs : jStr g ad) (n : Nat) (M : JMem) : jB g D_X11_copyPlaces ad 67 [some (.ref 0), none, none, none] [] M (f_X11_copyPlaces_L67 n M) := by
  unfold f_X11_copyPlaces_L67
  refine jo_aload 0 d_X11_copyPlaces_67 rfl rfl ?_
  refine jo_aload 0 d_X11_copyPlaces_68 rfl rfl ?_
  refine jo_getR (k := 7) cl_11 (Nat.le_of_ble_eq_true rfl) lk_X11_53 rfl kc_0 kr_0_7 d_X11_copyPlaces_69 ?_
  refine jo_getI (k := 2) cl_4 (Nat.le_of_ble_eq_true rfl) lk_X11_190 (Or.inl rfl) kc_40 d_X11_copyPlaces_72 ?_
  refine jo_callV (st := []) (m_X11_answer hs n (M 40 2) M) ok_X11_answer (And.intro (Nat.le_of_ble_eq_true rfl) (Nat.le_of_ble_eq_true rfl)) lm_X11_193 in_X11_answer se_X11_answer rfl kc_0 rfl rfl (And.intro (Nat.zero_le _) (Nat.zero_le _)) rfl (Nat.le_of_ble_eq_true rfl) d_X11_copyPlaces_75 (fun r1 M2 => ?_)
  exact jo_iret rfl d_X11_copyPlaces_78
def f_X11_copyPlaces_L28 (n : Nat) : Nat → Int → Int → JMem → Option (Int × JMem)
  | 0, _, _, _ => none
  | k + 1, v1, v3, M => if jw (M 40 2) ≤ jw v3 then (f_X11_copyPlaces_L67 n M) else (bnd (f_X1_spotOf n 52 40 v3 M) fun r1 M2 => bnd (f_X7_put n v1 v3 (jw r1) M2) fun _ M4 => letv (v3 + 1) fun y5 => (f_X11_copyPlaces_L28 n k) v1 y5 M4)
set_option maxRecDepth 4000 in
theorem t_X11_copyPlaces_L28 {g : JG} {ad : Nat → Nat} (hs : jStr g ad) (n : Nat) : ∀ (k : Nat) (v1 v3 : Int) (M : JMem), jB g D_X11_copyPlaces ad 28 [some (.ref 0), some (ji v1), none, some (ji v3)] [] M (f_X11_copyPlaces_L28 n k v1 v3 M) := by
  intro k
  induction k with
  | zero => intro v1 v3 M; exact jO.none
  | succ k ih =>
    intro v1 v3 M
    rw [f_X11_copyPlaces_L28]
    refine jo_iload 3 d_X11_copyPlaces_28 rfl rfl ?_
    refine jo_aload 0 d_X11_copyPlaces_29 rfl rfl ?_
    refine jo_getR (k := 7) cl_11 (Nat.le_of_ble_eq_true rfl) lk_X11_53 rfl kc_0 kr_0_7 d_X11_copyPlaces_30 ?_
    refine jo_getI (k := 2) cl_4 (Nat.le_of_ble_eq_true rfl) lk_X11_190 (Or.inl rfl) kc_40 d_X11_copyPlaces_33 ?_
    refine jo_icmp_ge 67 d_X11_copyPlaces_36 (by decide) ?_ ?_
    · skip
      exact jO.sub (t_X11_copyPlaces_L67 hs n M) (And.intro rfl True.intro)
    · skip
      refine jo_aload 0 d_X11_copyPlaces_39 rfl rfl ?_
      refine jo_getR (k := 3) cl_11 (Nat.le_of_ble_eq_true rfl) lk_X11_23 rfl kc_0 kr_0_3 d_X11_copyPlaces_40 ?_
      refine jo_iload 1 d_X11_copyPlaces_43 rfl rfl ?_
      refine jo_iload 3 d_X11_copyPlaces_44 rfl rfl ?_
      refine jo_aload 0 d_X11_copyPlaces_45 rfl rfl ?_
      refine jo_getR (k := 8) cl_11 (Nat.le_of_ble_eq_true rfl) lk_X11_60 rfl kc_0 kr_0_8 d_X11_copyPlaces_46 ?_
      refine jo_aload 0 d_X11_copyPlaces_49 rfl rfl ?_
      refine jo_getR (k := 7) cl_11 (Nat.le_of_ble_eq_true rfl) lk_X11_53 rfl kc_0 kr_0_7 d_X11_copyPlaces_50 ?_
      refine jo_iload 3 d_X11_copyPlaces_53 rfl rfl ?_
      refine jo_callV (st := [ji v3, ji v1, .ref 1]) (m_X1_spotOf hs n 52 40 v3 kc_52 kc_40 M) ok_X1_spotOf (And.intro (Nat.le_of_ble_eq_true rfl) (Nat.le_of_ble_eq_true rfl)) lm_X11_285 in_X1_spotOf se_X1_spotOf rfl kc_52 rfl rfl (And.intro (Nat.zero_le _) (Nat.zero_le _)) rfl (Nat.le_of_ble_eq_true rfl) d_X11_copyPlaces_54 (fun r1 M2 => ?_)
      refine jo_i2l d_X11_copyPlaces_57 ?_
      refine jo_callV (st := []) (m_X7_put hs n v1 v3 (jw r1) M2) ok_X7_put (And.intro (Nat.le_of_ble_eq_true rfl) (Nat.le_of_ble_eq_true rfl)) lm_X11_139 in_X7_put se_X7_put rfl kc_1 rfl rfl (And.intro (Nat.zero_le _) (Nat.zero_le _)) rfl (Nat.le_of_ble_eq_true rfl) d_X11_copyPlaces_58 (fun _ M4 => ?_)
      refine jo_iinc 3 d_X11_copyPlaces_61 rfl (Nat.le_of_ble_eq_true rfl) (fun y5 => ?_)
      refine jo_goto 28 d_X11_copyPlaces_64 (by decide) ?_
      exact jO.sub (ih v1 y5 M4) (And.intro rfl (And.intro rfl (And.intro rfl True.intro)))
def f_X11_copyPlaces (n : Nat) (x1 : Int) (M : JMem) : Option (Int × JMem) := bnd (f_X7_whyNotLong n x1 (M 40 2) M) fun r1 M2 => letv r1 fun y3 => if jw y3 = 0 then (letv 0 fun y4 => f_X11_copyPlaces_L28 n n x1 y4 M2) else (bnd (f_X11_refuse n y3 M2) fun r5 M6 => some (r5, M6))
set_option maxRecDepth 4000 in
theorem t_X11_copyPlaces {g : JG} {ad : Nat → Nat} (hs : jStr g ad) (n : Nat) (x1 : Int) (M : JMem) : jB g D_X11_copyPlaces ad 0 [some (.ref 0), some (ji x1), none, none] [] M (f_X11_copyPlaces n x1 M) := by
  unfold f_X11_copyPlaces
  refine jo_aload 0 d_X11_copyPlaces_0 rfl rfl ?_
  refine jo_getR (k := 3) cl_11 (Nat.le_of_ble_eq_true rfl) lk_X11_23 rfl kc_0 kr_0_3 d_X11_copyPlaces_1 ?_
  refine jo_iload 1 d_X11_copyPlaces_4 rfl rfl ?_
  refine jo_aload 0 d_X11_copyPlaces_5 rfl rfl ?_
  refine jo_getR (k := 7) cl_11 (Nat.le_of_ble_eq_true rfl) lk_X11_53 rfl kc_0 kr_0_7 d_X11_copyPlaces_6 ?_
  refine jo_getI (k := 2) cl_4 (Nat.le_of_ble_eq_true rfl) lk_X11_190 (Or.inl rfl) kc_40 d_X11_copyPlaces_9 ?_
  refine jo_callV (st := []) (m_X7_whyNotLong hs n x1 (M 40 2) M) ok_X7_whyNotLong (And.intro (Nat.le_of_ble_eq_true rfl) (Nat.le_of_ble_eq_true rfl)) lm_X11_408 in_X7_whyNotLong se_X7_whyNotLong rfl kc_1 rfl rfl (And.intro (Nat.zero_le _) (Nat.zero_le _)) rfl (Nat.le_of_ble_eq_true rfl) d_X11_copyPlaces_12 (fun r1 M2 => ?_)
  refine jo_istore 2 d_X11_copyPlaces_15 rfl (Nat.le_of_ble_eq_true rfl) (fun y3 => ?_)
  refine jo_iload 2 d_X11_copyPlaces_16 rfl rfl ?_
  refine jo_if_eq 26 d_X11_copyPlaces_17 (by decide) ?_ ?_
  · skip
    refine jo_iconst 0 d_X11_copyPlaces_26 ?_
    refine jo_istore 3 d_X11_copyPlaces_27 rfl (Nat.le_of_ble_eq_true rfl) (fun y4 => ?_)
    exact jO.sub (t_X11_copyPlaces_L28 hs n n x1 y4 M2) (And.intro rfl (And.intro rfl (And.intro rfl True.intro)))
  · skip
    refine jo_aload 0 d_X11_copyPlaces_20 rfl rfl ?_
    refine jo_iload 2 d_X11_copyPlaces_21 rfl rfl ?_
    refine jo_callV (st := []) (m_X11_refuse hs n y3 M2) ok_X11_refuse (And.intro (Nat.le_of_ble_eq_true rfl) (Nat.le_of_ble_eq_true rfl)) lm_X11_143 in_X11_refuse se_X11_refuse rfl kc_0 rfl rfl (And.intro (Nat.zero_le _) (Nat.zero_le _)) rfl (Nat.le_of_ble_eq_true rfl) d_X11_copyPlaces_22 (fun r5 M6 => ?_)
    exact jo_iret rfl d_X11_copyPlaces_25
theorem m_X11_copyPlaces {g : JG} {ad : Nat → Nat} (hs : jStr g ad) (n : Nat) (x1 : Int) (M : JMem) : jMet g jNN ad jR D_X11_copyPlaces yX11_copyPlaces [.ref 0, ji x1] M (f_X11_copyPlaces n x1 M) :=
  jMet.of (lo0 := [some (.ref 0), some (ji x1), none, none]) (by decide) rfl rfl (Nat.le_of_ble_eq_true rfl) (And.intro rfl (And.intro rfl True.intro)) (t_X11_copyPlaces hs n x1 M)
/-! CageLeave.isPlace(I)Z -/
def D_X11_isPlace : JD := (RX11, cX11_isPlace, 2, some .boolean, "isPlace", { frames := 0, cells := 0, slots := 0, locals := 0 })
theorem ok_X11_isPlace : jOk D_X11_isPlace yX11_isPlace 1 := ⟨jTW_mem (k := 993) (by decide +kernel) rfl, jTW_mem (k := 135) (by decide +kernel) rfl, ⟨by decide +kernel, by decide +kernel⟩, by decide +kernel, rfl, rfl⟩
theorem in_X11_isPlace : Cond.instanceMethod yX11_isPlace ∈ jTW := jTW_mem (k := 992) (by decide +kernel) rfl
theorem se_X11_isPlace : Cond.selects yX11_isPlace.cls yX11_isPlace yX11_isPlace ∈ jTW := jTW_mem (k := 21) (by decide +kernel) rfl
theorem lk_X11_212 : Cond.fieldLink RX11 212 (TX4 0).1 (TX4 0).2.1 (TX4 0).2.2.1 ∈ jTW := jTW_mem (k := 305) (by decide +kernel) rfl
theorem d_X11_isPlace_0 : decode (D_X11_isPlace).2.1 0 = .ok (.iload_n 1, 1) := by decide +kernel
theorem d_X11_isPlace_1 : decode (D_X11_isPlace).2.1 1 = .ok (.ifCond .lt 18, 3) := by decide +kernel
theorem d_X11_isPlace_4 : decode (D_X11_isPlace).2.1 4 = .ok (.iload_n 1, 1) := by decide +kernel
theorem d_X11_isPlace_5 : decode (D_X11_isPlace).2.1 5 = .ok (.aload_n 0, 1) := by decide +kernel
theorem d_X11_isPlace_6 : decode (D_X11_isPlace).2.1 6 = .ok (.getfield 53, 3) := by decide +kernel
theorem d_X11_isPlace_9 : decode (D_X11_isPlace).2.1 9 = .ok (.getfield 212, 3) := by decide +kernel
theorem d_X11_isPlace_12 : decode (D_X11_isPlace).2.1 12 = .ok (.if_icmp .ge 7, 3) := by decide +kernel
theorem d_X11_isPlace_15 : decode (D_X11_isPlace).2.1 15 = .ok (.iconst 1, 1) := by decide +kernel
theorem d_X11_isPlace_16 : decode (D_X11_isPlace).2.1 16 = .ok (.goto 4, 3) := by decide +kernel
theorem d_X11_isPlace_19 : decode (D_X11_isPlace).2.1 19 = .ok (.iconst 0, 1) := by decide +kernel
theorem d_X11_isPlace_20 : decode (D_X11_isPlace).2.1 20 = .ok (.ireturn, 1) := by decide +kernel
def f_X11_isPlace (n : Nat) (x1 : Int) (M : JMem) : Option (Int × JMem) := if jw x1 < 0 then (some (0, M)) else (if jw (M 40 0) ≤ jw x1 then (some (0, M)) else (some (1, M)))
set_option maxRecDepth 4000 in
theorem t_X11_isPlace {g : JG} {ad : Nat → Nat} (hs : jStr g ad) (n : Nat) (x1 : Int) (M : JMem) : jB g D_X11_isPlace ad 0 [some (.ref 0), some (ji x1)] [] M (f_X11_isPlace n x1 M) := by
  unfold f_X11_isPlace
  refine jo_iload 1 d_X11_isPlace_0 rfl rfl ?_
  refine jo_if_lt 19 d_X11_isPlace_1 (by decide) ?_ ?_
  · skip
    refine jo_iconst 0 d_X11_isPlace_19 ?_
    exact jo_zret rfl (by decide) d_X11_isPlace_20
  · skip
    refine jo_iload 1 d_X11_isPlace_4 rfl rfl ?_
    refine jo_aload 0 d_X11_isPlace_5 rfl rfl ?_
    refine jo_getR (k := 7) cl_11 (Nat.le_of_ble_eq_true rfl) lk_X11_53 rfl kc_0 kr_0_7 d_X11_isPlace_6 ?_
    refine jo_getI (k := 0) cl_4 (Nat.le_of_ble_eq_true rfl) lk_X11_212 (Or.inl rfl) kc_40 d_X11_isPlace_9 ?_
    refine jo_icmp_ge 19 d_X11_isPlace_12 (by decide) ?_ ?_
    · skip
      refine jo_iconst 0 d_X11_isPlace_19 ?_
      exact jo_zret rfl (by decide) d_X11_isPlace_20
    · skip
      refine jo_iconst 1 d_X11_isPlace_15 ?_
      refine jo_goto 20 d_X11_isPlace_16 (by decide) ?_
      exact jo_zret rfl (by decide) d_X11_isPlace_20
theorem m_X11_isPlace {g : JG} {ad : Nat → Nat} (hs : jStr g ad) (n : Nat) (x1 : Int) (M : JMem) : jMet g jNN ad jR D_X11_isPlace yX11_isPlace [.ref 0, ji x1] M (f_X11_isPlace n x1 M) :=
  jMet.of (lo0 := [some (.ref 0), some (ji x1)]) (by decide) rfl rfl (Nat.le_of_ble_eq_true rfl) (And.intro rfl (And.intro rfl True.intro)) (t_X11_isPlace hs n x1 M)
/-! CageLeave.leastCut(I)I -/
def D_X11_leastCut : JD := (RX11, cX11_leastCut, 5, some .int, "leastCut", { frames := 3, cells := 0, slots := 0, locals := 73 })
theorem ok_X11_leastCut : jOk D_X11_leastCut yX11_leastCut 1 := ⟨jTW_mem (k := 1210) (by decide +kernel) rfl, jTW_mem (k := 135) (by decide +kernel) rfl, ⟨by decide +kernel, by decide +kernel⟩, by decide +kernel, rfl, rfl⟩
theorem in_X11_leastCut : Cond.instanceMethod yX11_leastCut ∈ jTW := jTW_mem (k := 1209) (by decide +kernel) rfl
theorem se_X11_leastCut : Cond.selects yX11_leastCut.cls yX11_leastCut yX11_leastCut ∈ jTW := jTW_mem (k := 35) (by decide +kernel) rfl
theorem lk_X11_237 : Cond.fieldLink RX11 237 (TX1 4).1 (TX1 4).2.1 (TX1 4).2.2.1 ∈ jTW := jTW_mem (k := 412) (by decide +kernel) rfl
theorem lk_X11_92 : Cond.fieldLink RX11 92 (TX11 15).1 (TX11 15).2.1 (TX11 15).2.2.1 ∈ jTW := jTW_mem (k := 622) (by decide +kernel) rfl
theorem lm_X11_349 : Cond.methodLink RX11 349 yX8_soon ∈ jTW := jTW_mem (k := 1164) (by decide +kernel) rfl
theorem lk_X11_215 : Cond.fieldLink RX11 215 (TX4 1).1 (TX4 1).2.1 (TX4 1).2.2.1 ∈ jTW := jTW_mem (k := 311) (by decide +kernel) rfl
theorem lm_X11_346 : Cond.methodLink RX11 346 yX8_order ∈ jTW := jTW_mem (k := 1160) (by decide +kernel) rfl
theorem d_X11_leastCut_0 : decode (D_X11_leastCut).2.1 0 = .ok (.aload_n 0, 1) := by decide +kernel
theorem d_X11_leastCut_1 : decode (D_X11_leastCut).2.1 1 = .ok (.getfield 92, 3) := by decide +kernel
theorem d_X11_leastCut_4 : decode (D_X11_leastCut).2.1 4 = .ok (.aload_n 0, 1) := by decide +kernel
theorem d_X11_leastCut_5 : decode (D_X11_leastCut).2.1 5 = .ok (.getfield 53, 3) := by decide +kernel
theorem d_X11_leastCut_8 : decode (D_X11_leastCut).2.1 8 = .ok (.invokevirtual 346, 3) := by decide +kernel
theorem d_X11_leastCut_11 : decode (D_X11_leastCut).2.1 11 = .ok (.iconst (-1), 1) := by decide +kernel
theorem d_X11_leastCut_12 : decode (D_X11_leastCut).2.1 12 = .ok (.istore_n 2, 1) := by decide +kernel
theorem d_X11_leastCut_13 : decode (D_X11_leastCut).2.1 13 = .ok (.iconst 0, 1) := by decide +kernel
theorem d_X11_leastCut_14 : decode (D_X11_leastCut).2.1 14 = .ok (.istore_n 3, 1) := by decide +kernel
theorem d_X11_leastCut_15 : decode (D_X11_leastCut).2.1 15 = .ok (.iload_n 3, 1) := by decide +kernel
theorem d_X11_leastCut_16 : decode (D_X11_leastCut).2.1 16 = .ok (.iconst 1, 1) := by decide +kernel
theorem d_X11_leastCut_17 : decode (D_X11_leastCut).2.1 17 = .ok (.aload_n 0, 1) := by decide +kernel
theorem d_X11_leastCut_18 : decode (D_X11_leastCut).2.1 18 = .ok (.getfield 53, 3) := by decide +kernel
theorem d_X11_leastCut_21 : decode (D_X11_leastCut).2.1 21 = .ok (.getfield 215, 3) := by decide +kernel
theorem d_X11_leastCut_24 : decode (D_X11_leastCut).2.1 24 = .ok (.ishl, 1) := by decide +kernel
theorem d_X11_leastCut_25 : decode (D_X11_leastCut).2.1 25 = .ok (.if_icmp .ge 79, 3) := by decide +kernel
theorem d_X11_leastCut_28 : decode (D_X11_leastCut).2.1 28 = .ok (.iload_n 2, 1) := by decide +kernel
theorem d_X11_leastCut_29 : decode (D_X11_leastCut).2.1 29 = .ok (.iconst (-1), 1) := by decide +kernel
theorem d_X11_leastCut_30 : decode (D_X11_leastCut).2.1 30 = .ok (.if_icmp .eq 14, 3) := by decide +kernel
theorem d_X11_leastCut_33 : decode (D_X11_leastCut).2.1 33 = .ok (.iload_n 3, 1) := by decide +kernel
theorem d_X11_leastCut_34 : decode (D_X11_leastCut).2.1 34 = .ok (.invokestatic 341, 3) := by decide +kernel
theorem d_X11_leastCut_37 : decode (D_X11_leastCut).2.1 37 = .ok (.iload_n 2, 1) := by decide +kernel
theorem d_X11_leastCut_38 : decode (D_X11_leastCut).2.1 38 = .ok (.invokestatic 341, 3) := by decide +kernel
theorem d_X11_leastCut_41 : decode (D_X11_leastCut).2.1 41 = .ok (.if_icmp .ge 7, 3) := by decide +kernel
theorem d_X11_leastCut_44 : decode (D_X11_leastCut).2.1 44 = .ok (.iconst 1, 1) := by decide +kernel
theorem d_X11_leastCut_45 : decode (D_X11_leastCut).2.1 45 = .ok (.goto 4, 3) := by decide +kernel
theorem d_X11_leastCut_48 : decode (D_X11_leastCut).2.1 48 = .ok (.iconst 0, 1) := by decide +kernel
theorem d_X11_leastCut_49 : decode (D_X11_leastCut).2.1 49 = .ok (.istore 4, 2) := by decide +kernel
theorem d_X11_leastCut_51 : decode (D_X11_leastCut).2.1 51 = .ok (.iload 4, 2) := by decide +kernel
theorem d_X11_leastCut_53 : decode (D_X11_leastCut).2.1 53 = .ok (.ifCond .eq 45, 3) := by decide +kernel
theorem d_X11_leastCut_56 : decode (D_X11_leastCut).2.1 56 = .ok (.iload_n 3, 1) := by decide +kernel
theorem d_X11_leastCut_57 : decode (D_X11_leastCut).2.1 57 = .ok (.aload_n 0, 1) := by decide +kernel
theorem d_X11_leastCut_58 : decode (D_X11_leastCut).2.1 58 = .ok (.getfield 60, 3) := by decide +kernel
theorem d_X11_leastCut_61 : decode (D_X11_leastCut).2.1 61 = .ok (.getfield 237, 3) := by decide +kernel
theorem d_X11_leastCut_64 : decode (D_X11_leastCut).2.1 64 = .ok (.iand, 1) := by decide +kernel
theorem d_X11_leastCut_65 : decode (D_X11_leastCut).2.1 65 = .ok (.ifCond .ne 33, 3) := by decide +kernel
theorem d_X11_leastCut_68 : decode (D_X11_leastCut).2.1 68 = .ok (.aload_n 0, 1) := by decide +kernel
theorem d_X11_leastCut_69 : decode (D_X11_leastCut).2.1 69 = .ok (.getfield 92, 3) := by decide +kernel
theorem d_X11_leastCut_72 : decode (D_X11_leastCut).2.1 72 = .ok (.aload_n 0, 1) := by decide +kernel
theorem d_X11_leastCut_73 : decode (D_X11_leastCut).2.1 73 = .ok (.getfield 53, 3) := by decide +kernel
theorem d_X11_leastCut_76 : decode (D_X11_leastCut).2.1 76 = .ok (.aload_n 0, 1) := by decide +kernel
theorem d_X11_leastCut_77 : decode (D_X11_leastCut).2.1 77 = .ok (.getfield 60, 3) := by decide +kernel
theorem d_X11_leastCut_80 : decode (D_X11_leastCut).2.1 80 = .ok (.getfield 237, 3) := by decide +kernel
theorem d_X11_leastCut_83 : decode (D_X11_leastCut).2.1 83 = .ok (.iload_n 3, 1) := by decide +kernel
theorem d_X11_leastCut_84 : decode (D_X11_leastCut).2.1 84 = .ok (.ior, 1) := by decide +kernel
theorem d_X11_leastCut_85 : decode (D_X11_leastCut).2.1 85 = .ok (.iconst 0, 1) := by decide +kernel
theorem d_X11_leastCut_86 : decode (D_X11_leastCut).2.1 86 = .ok (.iconst 0, 1) := by decide +kernel
theorem d_X11_leastCut_87 : decode (D_X11_leastCut).2.1 87 = .ok (.iload_n 1, 1) := by decide +kernel
theorem d_X11_leastCut_88 : decode (D_X11_leastCut).2.1 88 = .ok (.invokevirtual 349, 3) := by decide +kernel
theorem d_X11_leastCut_91 : decode (D_X11_leastCut).2.1 91 = .ok (.bipush 64, 2) := by decide +kernel
theorem d_X11_leastCut_93 : decode (D_X11_leastCut).2.1 93 = .ok (.if_icmp .le 5, 3) := by decide +kernel
theorem d_X11_leastCut_96 : decode (D_X11_leastCut).2.1 96 = .ok (.iload_n 3, 1) := by decide +kernel
theorem d_X11_leastCut_97 : decode (D_X11_leastCut).2.1 97 = .ok (.istore_n 2, 1) := by decide +kernel
theorem d_X11_leastCut_98 : decode (D_X11_leastCut).2.1 98 = .ok (.iinc 3 1, 3) := by decide +kernel
theorem d_X11_leastCut_101 : decode (D_X11_leastCut).2.1 101 = .ok (.goto (-86), 3) := by decide +kernel
theorem d_X11_leastCut_104 : decode (D_X11_leastCut).2.1 104 = .ok (.iload_n 2, 1) := by decide +kernel
theorem d_X11_leastCut_105 : decode (D_X11_leastCut).2.1 105 = .ok (.ireturn, 1) := by decide +kernel
def f_X11_leastCut_L98 (n : Nat) (r15 : Int → Int → Int → JMem → Option (Int × JMem)) (v1 v2 v3 : Int) (M : JMem) : Option (Int × JMem) := letv (v3 + 1) fun y1 => r15 v1 v2 y1 M
set_option maxRecDepth 4000 in
theorem t_X11_leastCut_L98 {g : JG} {ad : Nat → Nat} (hs : jStr g ad) (n : Nat) (r15 : Int → Int → Int → JMem → Option (Int × JMem)) (hr15 : ∀ (v1 v2 v3 : Int) (M : JMem), jB g D_X11_leastCut ad 15 [some (.ref 0), some (ji v1), some (ji v2), some (ji v3), none] [] M (r15 v1 v2 v3 M)) (v1 v2 v3 : Int) (M : JMem) : jB g D_X11_leastCut ad 98 [some (.ref 0), some (ji v1), some (ji v2), some (ji v3), none] [] M (f_X11_leastCut_L98 n r15 v1 v2 v3 M) := by
  unfold f_X11_leastCut_L98
  refine jo_iinc 3 d_X11_leastCut_98 rfl (Nat.le_of_ble_eq_true rfl) (fun y1 => ?_)
  refine jo_goto 15 d_X11_leastCut_101 (by decide) ?_
  exact jO.sub (hr15 v1 v2 y1 M) (And.intro rfl (And.intro rfl (And.intro rfl (And.intro rfl True.intro))))
def f_X11_leastCut_L49 (n : Nat) (r15 : Int → Int → Int → JMem → Option (Int × JMem)) (v1 v2 v3 w0 : Int) (M : JMem) : Option (Int × JMem) := letv w0 fun y1 => if jw y1 = 0 then (f_X11_leastCut_L98 n r15 v1 v2 v3 M) else (if jw (jand v3 (M 52 4)) = 0 then (bnd (f_X8_soon n 40 (jor (M 52 4) v3) 0 0 v1 M) fun r2 M3 => if jw r2 ≤ jw 64 then (f_X11_leastCut_L98 n r15 v1 v2 v3 M3) else (letv v3 fun y4 => f_X11_leastCut_L98 n r15 v1 y4 v3 M3)) else (f_X11_leastCut_L98 n r15 v1 v2 v3 M))
set_option maxRecDepth 4000 in
theorem t_X11_leastCut_L49 {g : JG} {ad : Nat → Nat} (hs : jStr g ad) (n : Nat) (r15 : Int → Int → Int → JMem → Option (Int × JMem)) (hr15 : ∀ (v1 v2 v3 : Int) (M : JMem), jB g D_X11_leastCut ad 15 [some (.ref 0), some (ji v1), some (ji v2), some (ji v3), none] [] M (r15 v1 v2 v3 M)) (v1 v2 v3 w0 : Int) (M : JMem) : jB g D_X11_leastCut ad 49 [some (.ref 0), some (ji v1), some (ji v2), some (ji v3), none] [ji w0] M (f_X11_leastCut_L49 n r15 v1 v2 v3 w0 M) := by
  unfold f_X11_leastCut_L49
  refine jo_istoreW 4 d_X11_leastCut_49 (Nat.le_of_ble_eq_true rfl) (fun y1 => ?_)
  refine jo_iloadW 4 d_X11_leastCut_51 rfl ?_
  refine jo_if_eq 98 d_X11_leastCut_53 (by decide) ?_ ?_
  · skip
    exact jO.sub (t_X11_leastCut_L98 hs n r15 hr15 v1 v2 v3 M) (And.intro rfl (And.intro rfl (And.intro rfl (And.intro rfl True.intro))))
  · skip
    refine jo_iload 3 d_X11_leastCut_56 rfl rfl ?_
    refine jo_aload 0 d_X11_leastCut_57 rfl rfl ?_
    refine jo_getR (k := 8) cl_11 (Nat.le_of_ble_eq_true rfl) lk_X11_60 rfl kc_0 kr_0_8 d_X11_leastCut_58 ?_
    refine jo_getI (k := 4) cl_1 (Nat.le_of_ble_eq_true rfl) lk_X11_237 (Or.inl rfl) kc_52 d_X11_leastCut_61 ?_
    refine jo_iand d_X11_leastCut_64 ?_
    refine jo_if_ne 98 d_X11_leastCut_65 (by decide) ?_ ?_
    · skip
      exact jO.sub (t_X11_leastCut_L98 hs n r15 hr15 v1 v2 v3 M) (And.intro rfl (And.intro rfl (And.intro rfl (And.intro rfl True.intro))))
    · skip
      refine jo_aload 0 d_X11_leastCut_68 rfl rfl ?_
      refine jo_getR (k := 15) cl_11 (Nat.le_of_ble_eq_true rfl) lk_X11_92 rfl kc_0 kr_0_15 d_X11_leastCut_69 ?_
      refine jo_aload 0 d_X11_leastCut_72 rfl rfl ?_
      refine jo_getR (k := 7) cl_11 (Nat.le_of_ble_eq_true rfl) lk_X11_53 rfl kc_0 kr_0_7 d_X11_leastCut_73 ?_
      refine jo_aload 0 d_X11_leastCut_76 rfl rfl ?_
      refine jo_getR (k := 8) cl_11 (Nat.le_of_ble_eq_true rfl) lk_X11_60 rfl kc_0 kr_0_8 d_X11_leastCut_77 ?_
      refine jo_getI (k := 4) cl_1 (Nat.le_of_ble_eq_true rfl) lk_X11_237 (Or.inl rfl) kc_52 d_X11_leastCut_80 ?_
      refine jo_iload 3 d_X11_leastCut_83 rfl rfl ?_
      refine jo_ior d_X11_leastCut_84 ?_
      refine jo_iconst 0 d_X11_leastCut_85 ?_
      refine jo_iconst 0 d_X11_leastCut_86 ?_
      refine jo_iload 1 d_X11_leastCut_87 rfl rfl ?_
      refine jo_callV (st := []) (m_X8_soon hs n 40 (jor (M 52 4) v3) 0 0 v1 kc_40 M) ok_X8_soon (And.intro (Nat.le_of_ble_eq_true rfl) (Nat.le_of_ble_eq_true rfl)) lm_X11_349 in_X8_soon se_X8_soon rfl kc_76 rfl rfl (And.intro (Nat.zero_le _) (Nat.zero_le _)) rfl (Nat.le_of_ble_eq_true rfl) d_X11_leastCut_88 (fun r2 M3 => ?_)
      refine jo_bipush 64 d_X11_leastCut_91 (by decide) ?_
      refine jo_icmp_le 98 d_X11_leastCut_93 (by decide) ?_ ?_
      · skip
        exact jO.sub (t_X11_leastCut_L98 hs n r15 hr15 v1 v2 v3 M3) (And.intro rfl (And.intro rfl (And.intro rfl (And.intro rfl True.intro))))
      · skip
        refine jo_iload 3 d_X11_leastCut_96 rfl rfl ?_
        refine jo_istore 2 d_X11_leastCut_97 rfl (Nat.le_of_ble_eq_true rfl) (fun y4 => ?_)
        exact jO.sub (t_X11_leastCut_L98 hs n r15 hr15 v1 y4 v3 M3) (And.intro rfl (And.intro rfl (And.intro rfl (And.intro rfl True.intro))))
def f_X11_leastCut_L44 (n : Nat) (r15 : Int → Int → Int → JMem → Option (Int × JMem)) (v1 v2 v3 : Int) (M : JMem) : Option (Int × JMem) := f_X11_leastCut_L49 n r15 v1 v2 v3 1 M
set_option maxRecDepth 4000 in
theorem t_X11_leastCut_L44 {g : JG} {ad : Nat → Nat} (hs : jStr g ad) (n : Nat) (r15 : Int → Int → Int → JMem → Option (Int × JMem)) (hr15 : ∀ (v1 v2 v3 : Int) (M : JMem), jB g D_X11_leastCut ad 15 [some (.ref 0), some (ji v1), some (ji v2), some (ji v3), none] [] M (r15 v1 v2 v3 M)) (v1 v2 v3 : Int) (M : JMem) : jB g D_X11_leastCut ad 44 [some (.ref 0), some (ji v1), some (ji v2), some (ji v3), none] [] M (f_X11_leastCut_L44 n r15 v1 v2 v3 M) := by
  unfold f_X11_leastCut_L44
  refine jo_iconst 1 d_X11_leastCut_44 ?_
  refine jo_goto 49 d_X11_leastCut_45 (by decide) ?_
  exact jO.sub (t_X11_leastCut_L49 hs n r15 hr15 v1 v2 v3 1 M) (And.intro rfl (And.intro rfl (And.intro rfl (And.intro rfl True.intro))))
def f_X11_leastCut_L15 (n : Nat) : Nat → Int → Int → Int → JMem → Option (Int × JMem)
  | 0, _, _, _, _ => none
  | k + 1, v1, v2, v3, M => if jw (jshl 1 (M 40 1)) ≤ jw v3 then (some (v2, M)) else (if jw v2 = jw (-1) then (f_X11_leastCut_L44 n (f_X11_leastCut_L15 n k) v1 v2 v3 M) else (bnd (f_J6_bitCount_0f7a4 n v3 M) fun r1 M2 => bnd (f_J6_bitCount_0f7a4 n v2 M2) fun r3 M4 => if jw r3 ≤ jw r1 then (f_X11_leastCut_L49 n (f_X11_leastCut_L15 n k) v1 v2 v3 0 M4) else (f_X11_leastCut_L44 n (f_X11_leastCut_L15 n k) v1 v2 v3 M4)))
set_option maxRecDepth 4000 in
theorem t_X11_leastCut_L15 {g : JG} {ad : Nat → Nat} (hs : jStr g ad) (n : Nat) : ∀ (k : Nat) (v1 v2 v3 : Int) (M : JMem), jB g D_X11_leastCut ad 15 [some (.ref 0), some (ji v1), some (ji v2), some (ji v3), none] [] M (f_X11_leastCut_L15 n k v1 v2 v3 M) := by
  intro k
  induction k with
  | zero => intro v1 v2 v3 M; exact jO.none
  | succ k ih =>
    intro v1 v2 v3 M
    rw [f_X11_leastCut_L15]
    refine jo_iload 3 d_X11_leastCut_15 rfl rfl ?_
    refine jo_iconst 1 d_X11_leastCut_16 ?_
    refine jo_aload 0 d_X11_leastCut_17 rfl rfl ?_
    refine jo_getR (k := 7) cl_11 (Nat.le_of_ble_eq_true rfl) lk_X11_53 rfl kc_0 kr_0_7 d_X11_leastCut_18 ?_
    refine jo_getI (k := 1) cl_4 (Nat.le_of_ble_eq_true rfl) lk_X11_215 (Or.inl rfl) kc_40 d_X11_leastCut_21 ?_
    refine jo_ishl d_X11_leastCut_24 ?_
    refine jo_icmp_ge 104 d_X11_leastCut_25 (by decide) ?_ ?_
    · skip
      refine jo_iload 2 d_X11_leastCut_104 rfl rfl ?_
      exact jo_iret rfl d_X11_leastCut_105
    · skip
      refine jo_iload 2 d_X11_leastCut_28 rfl rfl ?_
      refine jo_iconst (-1) d_X11_leastCut_29 ?_
      refine jo_icmp_eq 44 d_X11_leastCut_30 (by decide) ?_ ?_
      · skip
        exact jO.sub (t_X11_leastCut_L44 hs n (f_X11_leastCut_L15 n k) ih v1 v2 v3 M) (And.intro rfl (And.intro rfl (And.intro rfl (And.intro rfl True.intro))))
      · skip
        refine jo_iload 3 d_X11_leastCut_33 rfl rfl ?_
        refine jo_callS (st := []) (m_J6_bitCount_0f7a4 hs n v3 M) ok_J6_bitCount_0f7a4 (And.intro (Nat.le_of_ble_eq_true rfl) (Nat.le_of_ble_eq_true rfl)) lm_X11_341 st_J6_bitCount_0f7a4 rfl (And.intro (Nat.zero_le _) (Nat.zero_le _)) rfl (Nat.le_of_ble_eq_true rfl) d_X11_leastCut_34 (fun r1 M2 => ?_)
        refine jo_iload 2 d_X11_leastCut_37 rfl rfl ?_
        refine jo_callS (st := [ji r1]) (m_J6_bitCount_0f7a4 hs n v2 M2) ok_J6_bitCount_0f7a4 (And.intro (Nat.le_of_ble_eq_true rfl) (Nat.le_of_ble_eq_true rfl)) lm_X11_341 st_J6_bitCount_0f7a4 rfl (And.intro (Nat.zero_le _) (Nat.zero_le _)) rfl (Nat.le_of_ble_eq_true rfl) d_X11_leastCut_38 (fun r3 M4 => ?_)
        refine jo_icmp_ge 48 d_X11_leastCut_41 (by decide) ?_ ?_
        · skip
          refine jo_iconst 0 d_X11_leastCut_48 ?_
          exact jO.sub (t_X11_leastCut_L49 hs n (f_X11_leastCut_L15 n k) ih v1 v2 v3 0 M4) (And.intro rfl (And.intro rfl (And.intro rfl (And.intro rfl True.intro))))
        · skip
          exact jO.sub (t_X11_leastCut_L44 hs n (f_X11_leastCut_L15 n k) ih v1 v2 v3 M4) (And.intro rfl (And.intro rfl (And.intro rfl (And.intro rfl True.intro))))
def f_X11_leastCut (n : Nat) (x1 : Int) (M : JMem) : Option (Int × JMem) := bnd (f_X8_order n 40 M) fun _ M2 => letv (-1) fun y3 => letv 0 fun y4 => f_X11_leastCut_L15 n n x1 y3 y4 M2
set_option maxRecDepth 4000 in
theorem t_X11_leastCut {g : JG} {ad : Nat → Nat} (hs : jStr g ad) (n : Nat) (x1 : Int) (M : JMem) : jB g D_X11_leastCut ad 0 [some (.ref 0), some (ji x1), none, none, none] [] M (f_X11_leastCut n x1 M) := by
  unfold f_X11_leastCut
  refine jo_aload 0 d_X11_leastCut_0 rfl rfl ?_
  refine jo_getR (k := 15) cl_11 (Nat.le_of_ble_eq_true rfl) lk_X11_92 rfl kc_0 kr_0_15 d_X11_leastCut_1 ?_
  refine jo_aload 0 d_X11_leastCut_4 rfl rfl ?_
  refine jo_getR (k := 7) cl_11 (Nat.le_of_ble_eq_true rfl) lk_X11_53 rfl kc_0 kr_0_7 d_X11_leastCut_5 ?_
  refine jo_callV (st := []) (m_X8_order hs n 40 kc_40 M) ok_X8_order (And.intro (Nat.le_of_ble_eq_true rfl) (Nat.le_of_ble_eq_true rfl)) lm_X11_346 in_X8_order se_X8_order rfl kc_76 rfl rfl (And.intro (Nat.zero_le _) (Nat.zero_le _)) rfl (Nat.le_of_ble_eq_true rfl) d_X11_leastCut_8 (fun _ M2 => ?_)
  refine jo_iconst (-1) d_X11_leastCut_11 ?_
  refine jo_istore 2 d_X11_leastCut_12 rfl (Nat.le_of_ble_eq_true rfl) (fun y3 => ?_)
  refine jo_iconst 0 d_X11_leastCut_13 ?_
  refine jo_istore 3 d_X11_leastCut_14 rfl (Nat.le_of_ble_eq_true rfl) (fun y4 => ?_)
  exact jO.sub (t_X11_leastCut_L15 hs n n x1 y3 y4 M2) (And.intro rfl (And.intro rfl (And.intro rfl (And.intro rfl True.intro))))
theorem m_X11_leastCut {g : JG} {ad : Nat → Nat} (hs : jStr g ad) (n : Nat) (x1 : Int) (M : JMem) : jMet g jNN ad jR D_X11_leastCut yX11_leastCut [.ref 0, ji x1] M (f_X11_leastCut n x1 M) :=
  jMet.of (lo0 := [some (.ref 0), some (ji x1), none, none, none]) (by decide) rfl rfl (Nat.le_of_ble_eq_true rfl) (And.intro rfl (And.intro rfl True.intro)) (t_X11_leastCut hs n x1 M)
/-! CageLeave.cut(I)I -/
def D_X11_cut : JD := (RX11, cX11_cut, 2, some .int, "cut", { frames := 4, cells := 0, slots := 0, locals := 97 })
theorem ok_X11_cut : jOk D_X11_cut yX11_cut 1 := ⟨jTW_mem (k := 1206) (by decide +kernel) rfl, jTW_mem (k := 135) (by decide +kernel) rfl, ⟨by decide +kernel, by decide +kernel⟩, by decide +kernel, rfl, rfl⟩
theorem in_X11_cut : Cond.instanceMethod yX11_cut ∈ jTW := jTW_mem (k := 1204) (by decide +kernel) rfl
theorem se_X11_cut : Cond.selects yX11_cut.cls yX11_cut yX11_cut ∈ jTW := jTW_mem (k := 1205) (by decide +kernel) rfl
theorem lm_X11_289 : Cond.methodLink RX11 289 yX11_isPlace ∈ jTW := jTW_mem (k := 990) (by decide +kernel) rfl
theorem lm_X11_366 : Cond.methodLink RX11 366 yX11_leastCut ∈ jTW := jTW_mem (k := 1207) (by decide +kernel) rfl
theorem d_X11_cut_0 : decode (D_X11_cut).2.1 0 = .ok (.aload_n 0, 1) := by decide +kernel
theorem d_X11_cut_1 : decode (D_X11_cut).2.1 1 = .ok (.iload_n 1, 1) := by decide +kernel
theorem d_X11_cut_2 : decode (D_X11_cut).2.1 2 = .ok (.invokevirtual 289, 3) := by decide +kernel
theorem d_X11_cut_5 : decode (D_X11_cut).2.1 5 = .ok (.ifCond .eq 7, 3) := by decide +kernel
theorem d_X11_cut_8 : decode (D_X11_cut).2.1 8 = .ok (.iload_n 1, 1) := by decide +kernel
theorem d_X11_cut_9 : decode (D_X11_cut).2.1 9 = .ok (.ifCond .ne 9, 3) := by decide +kernel
theorem d_X11_cut_12 : decode (D_X11_cut).2.1 12 = .ok (.aload_n 0, 1) := by decide +kernel
theorem d_X11_cut_13 : decode (D_X11_cut).2.1 13 = .ok (.iconst 1, 1) := by decide +kernel
theorem d_X11_cut_14 : decode (D_X11_cut).2.1 14 = .ok (.invokevirtual 143, 3) := by decide +kernel
theorem d_X11_cut_17 : decode (D_X11_cut).2.1 17 = .ok (.ireturn, 1) := by decide +kernel
theorem d_X11_cut_18 : decode (D_X11_cut).2.1 18 = .ok (.aload_n 0, 1) := by decide +kernel
theorem d_X11_cut_19 : decode (D_X11_cut).2.1 19 = .ok (.aload_n 0, 1) := by decide +kernel
theorem d_X11_cut_20 : decode (D_X11_cut).2.1 20 = .ok (.iload_n 1, 1) := by decide +kernel
theorem d_X11_cut_21 : decode (D_X11_cut).2.1 21 = .ok (.invokevirtual 366, 3) := by decide +kernel
theorem d_X11_cut_24 : decode (D_X11_cut).2.1 24 = .ok (.invokestatic 341, 3) := by decide +kernel
theorem d_X11_cut_27 : decode (D_X11_cut).2.1 27 = .ok (.invokevirtual 193, 3) := by decide +kernel
theorem d_X11_cut_30 : decode (D_X11_cut).2.1 30 = .ok (.ireturn, 1) := by decide +kernel
def f_X11_cut_L12 (n : Nat) (M : JMem) : Option (Int × JMem) := bnd (f_X11_refuse n 1 M) fun r1 M2 => some (r1, M2)
set_option maxRecDepth 4000 in
theorem t_X11_cut_L12 {g : JG} {ad : Nat → Nat} (hs : jStr g ad) (n : Nat) (M : JMem) : jB g D_X11_cut ad 12 [some (.ref 0), none] [] M (f_X11_cut_L12 n M) := by
  unfold f_X11_cut_L12
  refine jo_aload 0 d_X11_cut_12 rfl rfl ?_
  refine jo_iconst 1 d_X11_cut_13 ?_
  refine jo_callV (st := []) (m_X11_refuse hs n 1 M) ok_X11_refuse (And.intro (Nat.le_of_ble_eq_true rfl) (Nat.le_of_ble_eq_true rfl)) lm_X11_143 in_X11_refuse se_X11_refuse rfl kc_0 rfl rfl (And.intro (Nat.zero_le _) (Nat.zero_le _)) rfl (Nat.le_of_ble_eq_true rfl) d_X11_cut_14 (fun r1 M2 => ?_)
  exact jo_iret rfl d_X11_cut_17
def f_X11_cut (n : Nat) (x1 : Int) (M : JMem) : Option (Int × JMem) := bnd (f_X11_isPlace n x1 M) fun r1 M2 => if jw r1 = 0 then (f_X11_cut_L12 n M2) else (if jw x1 = 0 then (f_X11_cut_L12 n M2) else (bnd (f_X11_leastCut n x1 M2) fun r3 M4 => bnd (f_J6_bitCount_0f7a4 n r3 M4) fun r5 M6 => bnd (f_X11_answer n r5 M6) fun r7 M8 => some (r7, M8)))
set_option maxRecDepth 4000 in
theorem t_X11_cut {g : JG} {ad : Nat → Nat} (hs : jStr g ad) (n : Nat) (x1 : Int) (M : JMem) : jB g D_X11_cut ad 0 [some (.ref 0), some (ji x1)] [] M (f_X11_cut n x1 M) := by
  unfold f_X11_cut
  refine jo_aload 0 d_X11_cut_0 rfl rfl ?_
  refine jo_iload 1 d_X11_cut_1 rfl rfl ?_
  refine jo_callV (st := []) (m_X11_isPlace hs n x1 M) ok_X11_isPlace (And.intro (Nat.le_of_ble_eq_true rfl) (Nat.le_of_ble_eq_true rfl)) lm_X11_289 in_X11_isPlace se_X11_isPlace rfl kc_0 rfl rfl (And.intro (Nat.zero_le _) (Nat.zero_le _)) rfl (Nat.le_of_ble_eq_true rfl) d_X11_cut_2 (fun r1 M2 => ?_)
  refine jo_if_eq 12 d_X11_cut_5 (by decide) ?_ ?_
  · skip
    exact jO.sub (t_X11_cut_L12 hs n M2) (And.intro rfl True.intro)
  · skip
    refine jo_iload 1 d_X11_cut_8 rfl rfl ?_
    refine jo_if_ne 18 d_X11_cut_9 (by decide) ?_ ?_
    · skip
      refine jo_aload 0 d_X11_cut_18 rfl rfl ?_
      refine jo_aload 0 d_X11_cut_19 rfl rfl ?_
      refine jo_iload 1 d_X11_cut_20 rfl rfl ?_
      refine jo_callV (st := [.ref 0]) (m_X11_leastCut hs n x1 M2) ok_X11_leastCut (And.intro (Nat.le_of_ble_eq_true rfl) (Nat.le_of_ble_eq_true rfl)) lm_X11_366 in_X11_leastCut se_X11_leastCut rfl kc_0 rfl rfl (And.intro (Nat.zero_le _) (Nat.zero_le _)) rfl (Nat.le_of_ble_eq_true rfl) d_X11_cut_21 (fun r3 M4 => ?_)
      refine jo_callS (st := [.ref 0]) (m_J6_bitCount_0f7a4 hs n r3 M4) ok_J6_bitCount_0f7a4 (And.intro (Nat.le_of_ble_eq_true rfl) (Nat.le_of_ble_eq_true rfl)) lm_X11_341 st_J6_bitCount_0f7a4 rfl (And.intro (Nat.zero_le _) (Nat.zero_le _)) rfl (Nat.le_of_ble_eq_true rfl) d_X11_cut_24 (fun r5 M6 => ?_)
      refine jo_callV (st := []) (m_X11_answer hs n r5 M6) ok_X11_answer (And.intro (Nat.le_of_ble_eq_true rfl) (Nat.le_of_ble_eq_true rfl)) lm_X11_193 in_X11_answer se_X11_answer rfl kc_0 rfl rfl (And.intro (Nat.zero_le _) (Nat.zero_le _)) rfl (Nat.le_of_ble_eq_true rfl) d_X11_cut_27 (fun r7 M8 => ?_)
      exact jo_iret rfl d_X11_cut_30
    · skip
      exact jO.sub (t_X11_cut_L12 hs n M2) (And.intro rfl True.intro)
theorem m_X11_cut {g : JG} {ad : Nat → Nat} (hs : jStr g ad) (n : Nat) (x1 : Int) (M : JMem) : jMet g jNN ad jR D_X11_cut yX11_cut [.ref 0, ji x1] M (f_X11_cut n x1 M) :=
  jMet.of (lo0 := [some (.ref 0), some (ji x1)]) (by decide) rfl rfl (Nat.le_of_ble_eq_true rfl) (And.intro rfl (And.intro rfl True.intro)) (t_X11_cut hs n x1 M)
/-! CageLeave.cutSet(I)I -/
def D_X11_cutSet : JD := (RX11, cX11_cutSet, 2, some .int, "cutSet", { frames := 4, cells := 0, slots := 0, locals := 97 })
theorem ok_X11_cutSet : jOk D_X11_cutSet yX11_cutSet 1 := ⟨jTW_mem (k := 1214) (by decide +kernel) rfl, jTW_mem (k := 135) (by decide +kernel) rfl, ⟨by decide +kernel, by decide +kernel⟩, by decide +kernel, rfl, rfl⟩
theorem in_X11_cutSet : Cond.instanceMethod yX11_cutSet ∈ jTW := jTW_mem (k := 1212) (by decide +kernel) rfl
theorem se_X11_cutSet : Cond.selects yX11_cutSet.cls yX11_cutSet yX11_cutSet ∈ jTW := jTW_mem (k := 1213) (by decide +kernel) rfl
theorem d_X11_cutSet_0 : decode (D_X11_cutSet).2.1 0 = .ok (.aload_n 0, 1) := by decide +kernel
theorem d_X11_cutSet_1 : decode (D_X11_cutSet).2.1 1 = .ok (.iload_n 1, 1) := by decide +kernel
theorem d_X11_cutSet_2 : decode (D_X11_cutSet).2.1 2 = .ok (.invokevirtual 289, 3) := by decide +kernel
theorem d_X11_cutSet_5 : decode (D_X11_cutSet).2.1 5 = .ok (.ifCond .eq 7, 3) := by decide +kernel
theorem d_X11_cutSet_8 : decode (D_X11_cutSet).2.1 8 = .ok (.iload_n 1, 1) := by decide +kernel
theorem d_X11_cutSet_9 : decode (D_X11_cutSet).2.1 9 = .ok (.ifCond .ne 9, 3) := by decide +kernel
theorem d_X11_cutSet_12 : decode (D_X11_cutSet).2.1 12 = .ok (.aload_n 0, 1) := by decide +kernel
theorem d_X11_cutSet_13 : decode (D_X11_cutSet).2.1 13 = .ok (.iconst 1, 1) := by decide +kernel
theorem d_X11_cutSet_14 : decode (D_X11_cutSet).2.1 14 = .ok (.invokevirtual 143, 3) := by decide +kernel
theorem d_X11_cutSet_17 : decode (D_X11_cutSet).2.1 17 = .ok (.ireturn, 1) := by decide +kernel
theorem d_X11_cutSet_18 : decode (D_X11_cutSet).2.1 18 = .ok (.aload_n 0, 1) := by decide +kernel
theorem d_X11_cutSet_19 : decode (D_X11_cutSet).2.1 19 = .ok (.aload_n 0, 1) := by decide +kernel
theorem d_X11_cutSet_20 : decode (D_X11_cutSet).2.1 20 = .ok (.iload_n 1, 1) := by decide +kernel
theorem d_X11_cutSet_21 : decode (D_X11_cutSet).2.1 21 = .ok (.invokevirtual 366, 3) := by decide +kernel
theorem d_X11_cutSet_24 : decode (D_X11_cutSet).2.1 24 = .ok (.invokevirtual 193, 3) := by decide +kernel
theorem d_X11_cutSet_27 : decode (D_X11_cutSet).2.1 27 = .ok (.ireturn, 1) := by decide +kernel
def f_X11_cutSet_L12 (n : Nat) (M : JMem) : Option (Int × JMem) := bnd (f_X11_refuse n 1 M) fun r1 M2 => some (r1, M2)
set_option maxRecDepth 4000 in
theorem t_X11_cutSet_L12 {g : JG} {ad : Nat → Nat} (hs : jStr g ad) (n : Nat) (M : JMem) : jB g D_X11_cutSet ad 12 [some (.ref 0), none] [] M (f_X11_cutSet_L12 n M) := by
  unfold f_X11_cutSet_L12
  refine jo_aload 0 d_X11_cutSet_12 rfl rfl ?_
  refine jo_iconst 1 d_X11_cutSet_13 ?_
  refine jo_callV (st := []) (m_X11_refuse hs n 1 M) ok_X11_refuse (And.intro (Nat.le_of_ble_eq_true rfl) (Nat.le_of_ble_eq_true rfl)) lm_X11_143 in_X11_refuse se_X11_refuse rfl kc_0 rfl rfl (And.intro (Nat.zero_le _) (Nat.zero_le _)) rfl (Nat.le_of_ble_eq_true rfl) d_X11_cutSet_14 (fun r1 M2 => ?_)
  exact jo_iret rfl d_X11_cutSet_17
def f_X11_cutSet (n : Nat) (x1 : Int) (M : JMem) : Option (Int × JMem) := bnd (f_X11_isPlace n x1 M) fun r1 M2 => if jw r1 = 0 then (f_X11_cutSet_L12 n M2) else (if jw x1 = 0 then (f_X11_cutSet_L12 n M2) else (bnd (f_X11_leastCut n x1 M2) fun r3 M4 => bnd (f_X11_answer n r3 M4) fun r5 M6 => some (r5, M6)))
set_option maxRecDepth 4000 in
theorem t_X11_cutSet {g : JG} {ad : Nat → Nat} (hs : jStr g ad) (n : Nat) (x1 : Int) (M : JMem) : jB g D_X11_cutSet ad 0 [some (.ref 0), some (ji x1)] [] M (f_X11_cutSet n x1 M) := by
  unfold f_X11_cutSet
  refine jo_aload 0 d_X11_cutSet_0 rfl rfl ?_
  refine jo_iload 1 d_X11_cutSet_1 rfl rfl ?_
  refine jo_callV (st := []) (m_X11_isPlace hs n x1 M) ok_X11_isPlace (And.intro (Nat.le_of_ble_eq_true rfl) (Nat.le_of_ble_eq_true rfl)) lm_X11_289 in_X11_isPlace se_X11_isPlace rfl kc_0 rfl rfl (And.intro (Nat.zero_le _) (Nat.zero_le _)) rfl (Nat.le_of_ble_eq_true rfl) d_X11_cutSet_2 (fun r1 M2 => ?_)
  refine jo_if_eq 12 d_X11_cutSet_5 (by decide) ?_ ?_
  · skip
    exact jO.sub (t_X11_cutSet_L12 hs n M2) (And.intro rfl True.intro)
  · skip
    refine jo_iload 1 d_X11_cutSet_8 rfl rfl ?_
    refine jo_if_ne 18 d_X11_cutSet_9 (by decide) ?_ ?_
    · skip
      refine jo_aload 0 d_X11_cutSet_18 rfl rfl ?_
      refine jo_aload 0 d_X11_cutSet_19 rfl rfl ?_
      refine jo_iload 1 d_X11_cutSet_20 rfl rfl ?_
      refine jo_callV (st := [.ref 0]) (m_X11_leastCut hs n x1 M2) ok_X11_leastCut (And.intro (Nat.le_of_ble_eq_true rfl) (Nat.le_of_ble_eq_true rfl)) lm_X11_366 in_X11_leastCut se_X11_leastCut rfl kc_0 rfl rfl (And.intro (Nat.zero_le _) (Nat.zero_le _)) rfl (Nat.le_of_ble_eq_true rfl) d_X11_cutSet_21 (fun r3 M4 => ?_)
      refine jo_callV (st := []) (m_X11_answer hs n r3 M4) ok_X11_answer (And.intro (Nat.le_of_ble_eq_true rfl) (Nat.le_of_ble_eq_true rfl)) lm_X11_193 in_X11_answer se_X11_answer rfl kc_0 rfl rfl (And.intro (Nat.zero_le _) (Nat.zero_le _)) rfl (Nat.le_of_ble_eq_true rfl) d_X11_cutSet_24 (fun r5 M6 => ?_)
      exact jo_iret rfl d_X11_cutSet_27
    · skip
      exact jO.sub (t_X11_cutSet_L12 hs n M2) (And.intro rfl True.intro)
theorem m_X11_cutSet {g : JG} {ad : Nat → Nat} (hs : jStr g ad) (n : Nat) (x1 : Int) (M : JMem) : jMet g jNN ad jR D_X11_cutSet yX11_cutSet [.ref 0, ji x1] M (f_X11_cutSet n x1 M) :=
  jMet.of (lo0 := [some (.ref 0), some (ji x1)]) (by decide) rfl rfl (Nat.le_of_ble_eq_true rfl) (And.intro rfl (And.intro rfl True.intro)) (t_X11_cutSet hs n x1 M)
/-! CageLeave.goOnUntil(I)V -/
def D_X11_goOnUntil : JD := (RX11, cX11_goOnUntil, 2, none, "goOnUntil", { frames := 4, cells := 0, slots := 0, locals := 95 })
theorem ok_X11_goOnUntil : jOk D_X11_goOnUntil yX11_goOnUntil 1 := ⟨jTW_mem (k := 1100) (by decide +kernel) rfl, jTW_mem (k := 135) (by decide +kernel) rfl, ⟨by decide +kernel, by decide +kernel⟩, by decide +kernel, rfl, rfl⟩
theorem in_X11_goOnUntil : Cond.instanceMethod yX11_goOnUntil ∈ jTW := jTW_mem (k := 1099) (by decide +kernel) rfl
theorem se_X11_goOnUntil : Cond.selects yX11_goOnUntil.cls yX11_goOnUntil yX11_goOnUntil ∈ jTW := jTW_mem (k := 29) (by decide +kernel) rfl
theorem lk_X11_86 : Cond.fieldLink RX11 86 (TX11 14).1 (TX11 14).2.1 (TX11 14).2.2.1 ∈ jTW := jTW_mem (k := 621) (by decide +kernel) rfl
theorem lm_X11_184 : Cond.methodLink RX11 184 yX1_copyFrom ∈ jTW := jTW_mem (k := 878) (by decide +kernel) rfl
theorem lm_X11_303 : Cond.methodLink RX11 303 yX1_passUntil ∈ jTW := jTW_mem (k := 1011) (by decide +kernel) rfl
theorem d_X11_goOnUntil_0 : decode (D_X11_goOnUntil).2.1 0 = .ok (.aload_n 0, 1) := by decide +kernel
theorem d_X11_goOnUntil_1 : decode (D_X11_goOnUntil).2.1 1 = .ok (.getfield 86, 3) := by decide +kernel
theorem d_X11_goOnUntil_4 : decode (D_X11_goOnUntil).2.1 4 = .ok (.aload_n 0, 1) := by decide +kernel
theorem d_X11_goOnUntil_5 : decode (D_X11_goOnUntil).2.1 5 = .ok (.getfield 60, 3) := by decide +kernel
theorem d_X11_goOnUntil_8 : decode (D_X11_goOnUntil).2.1 8 = .ok (.invokevirtual 184, 3) := by decide +kernel
theorem d_X11_goOnUntil_11 : decode (D_X11_goOnUntil).2.1 11 = .ok (.aload_n 0, 1) := by decide +kernel
theorem d_X11_goOnUntil_12 : decode (D_X11_goOnUntil).2.1 12 = .ok (.getfield 86, 3) := by decide +kernel
theorem d_X11_goOnUntil_15 : decode (D_X11_goOnUntil).2.1 15 = .ok (.aload_n 0, 1) := by decide +kernel
theorem d_X11_goOnUntil_16 : decode (D_X11_goOnUntil).2.1 16 = .ok (.getfield 53, 3) := by decide +kernel
theorem d_X11_goOnUntil_19 : decode (D_X11_goOnUntil).2.1 19 = .ok (.iload_n 1, 1) := by decide +kernel
theorem d_X11_goOnUntil_20 : decode (D_X11_goOnUntil).2.1 20 = .ok (.invokevirtual 303, 3) := by decide +kernel
theorem d_X11_goOnUntil_23 : decode (D_X11_goOnUntil).2.1 23 = .ok (.pop, 1) := by decide +kernel
theorem d_X11_goOnUntil_24 : decode (D_X11_goOnUntil).2.1 24 = .ok (.return_, 1) := by decide +kernel
def f_X11_goOnUntil (n : Nat) (x1 : Int) (M : JMem) : Option (Int × JMem) := bnd (f_X1_copyFrom n 68 52 M) fun _ M2 => bnd (f_X1_passUntil n 68 40 x1 M2) fun r3 M4 => some (0, M4)
set_option maxRecDepth 4000 in
theorem t_X11_goOnUntil {g : JG} {ad : Nat → Nat} (hs : jStr g ad) (n : Nat) (x1 : Int) (M : JMem) : jB g D_X11_goOnUntil ad 0 [some (.ref 0), some (ji x1)] [] M (f_X11_goOnUntil n x1 M) := by
  unfold f_X11_goOnUntil
  refine jo_aload 0 d_X11_goOnUntil_0 rfl rfl ?_
  refine jo_getR (k := 14) cl_11 (Nat.le_of_ble_eq_true rfl) lk_X11_86 rfl kc_0 kr_0_14 d_X11_goOnUntil_1 ?_
  refine jo_aload 0 d_X11_goOnUntil_4 rfl rfl ?_
  refine jo_getR (k := 8) cl_11 (Nat.le_of_ble_eq_true rfl) lk_X11_60 rfl kc_0 kr_0_8 d_X11_goOnUntil_5 ?_
  refine jo_callV (st := []) (m_X1_copyFrom hs n 68 52 kc_68 kc_52 M) ok_X1_copyFrom (And.intro (Nat.le_of_ble_eq_true rfl) (Nat.le_of_ble_eq_true rfl)) lm_X11_184 in_X1_copyFrom se_X1_copyFrom rfl kc_68 rfl rfl (And.intro (Nat.zero_le _) (Nat.zero_le _)) rfl (Nat.le_of_ble_eq_true rfl) d_X11_goOnUntil_8 (fun _ M2 => ?_)
  refine jo_aload 0 d_X11_goOnUntil_11 rfl rfl ?_
  refine jo_getR (k := 14) cl_11 (Nat.le_of_ble_eq_true rfl) lk_X11_86 rfl kc_0 kr_0_14 d_X11_goOnUntil_12 ?_
  refine jo_aload 0 d_X11_goOnUntil_15 rfl rfl ?_
  refine jo_getR (k := 7) cl_11 (Nat.le_of_ble_eq_true rfl) lk_X11_53 rfl kc_0 kr_0_7 d_X11_goOnUntil_16 ?_
  refine jo_iload 1 d_X11_goOnUntil_19 rfl rfl ?_
  refine jo_callV (st := []) (m_X1_passUntil hs n 68 40 x1 kc_68 kc_40 M2) ok_X1_passUntil (And.intro (Nat.le_of_ble_eq_true rfl) (Nat.le_of_ble_eq_true rfl)) lm_X11_303 in_X1_passUntil se_X1_passUntil rfl kc_68 rfl rfl (And.intro (Nat.zero_le _) (Nat.zero_le _)) rfl (Nat.le_of_ble_eq_true rfl) d_X11_goOnUntil_20 (fun r3 M4 => ?_)
  refine jo_pop d_X11_goOnUntil_23 rfl ?_
  exact jo_vret rfl d_X11_goOnUntil_24
theorem m_X11_goOnUntil {g : JG} {ad : Nat → Nat} (hs : jStr g ad) (n : Nat) (x1 : Int) (M : JMem) : jMet g jNN ad jR D_X11_goOnUntil yX11_goOnUntil [.ref 0, ji x1] M (f_X11_goOnUntil n x1 M) :=
  jMet.of (lo0 := [some (.ref 0), some (ji x1)]) (by decide) rfl rfl (Nat.le_of_ble_eq_true rfl) (And.intro rfl (And.intro rfl True.intro)) (t_X11_goOnUntil hs n x1 M)
/-! CageLeave.whyNotEatenYet(I)I -/
def D_X11_whyNotEatenYet : JD := (RX11, cX11_whyNotEatenYet, 2, some .int, "whyNotEatenYet", { frames := 5, cells := 0, slots := 0, locals := 116 })
theorem ok_X11_whyNotEatenYet : jOk D_X11_whyNotEatenYet yX11_whyNotEatenYet 1 := ⟨jTW_mem (k := 1108) (by decide +kernel) rfl, jTW_mem (k := 135) (by decide +kernel) rfl, ⟨by decide +kernel, by decide +kernel⟩, by decide +kernel, rfl, rfl⟩
theorem in_X11_whyNotEatenYet : Cond.instanceMethod yX11_whyNotEatenYet ∈ jTW := jTW_mem (k := 1107) (by decide +kernel) rfl
theorem se_X11_whyNotEatenYet : Cond.selects yX11_whyNotEatenYet.cls yX11_whyNotEatenYet yX11_whyNotEatenYet ∈ jTW := jTW_mem (k := 30) (by decide +kernel) rfl
theorem lm_X11_323 : Cond.methodLink RX11 323 yX11_goOnUntil ∈ jTW := jTW_mem (k := 1097) (by decide +kernel) rfl
theorem d_X11_whyNotEatenYet_0 : decode (D_X11_whyNotEatenYet).2.1 0 = .ok (.aload_n 0, 1) := by decide +kernel
theorem d_X11_whyNotEatenYet_1 : decode (D_X11_whyNotEatenYet).2.1 1 = .ok (.iload_n 1, 1) := by decide +kernel
theorem d_X11_whyNotEatenYet_2 : decode (D_X11_whyNotEatenYet).2.1 2 = .ok (.invokevirtual 264, 3) := by decide +kernel
theorem d_X11_whyNotEatenYet_5 : decode (D_X11_whyNotEatenYet).2.1 5 = .ok (.ifCond .ne 5, 3) := by decide +kernel
theorem d_X11_whyNotEatenYet_8 : decode (D_X11_whyNotEatenYet).2.1 8 = .ok (.iconst 1, 1) := by decide +kernel
theorem d_X11_whyNotEatenYet_9 : decode (D_X11_whyNotEatenYet).2.1 9 = .ok (.ireturn, 1) := by decide +kernel
theorem d_X11_whyNotEatenYet_10 : decode (D_X11_whyNotEatenYet).2.1 10 = .ok (.aload_n 0, 1) := by decide +kernel
theorem d_X11_whyNotEatenYet_11 : decode (D_X11_whyNotEatenYet).2.1 11 = .ok (.getfield 60, 3) := by decide +kernel
theorem d_X11_whyNotEatenYet_14 : decode (D_X11_whyNotEatenYet).2.1 14 = .ok (.iload_n 1, 1) := by decide +kernel
theorem d_X11_whyNotEatenYet_15 : decode (D_X11_whyNotEatenYet).2.1 15 = .ok (.invokevirtual 282, 3) := by decide +kernel
theorem d_X11_whyNotEatenYet_18 : decode (D_X11_whyNotEatenYet).2.1 18 = .ok (.ifCond .eq 6, 3) := by decide +kernel
theorem d_X11_whyNotEatenYet_21 : decode (D_X11_whyNotEatenYet).2.1 21 = .ok (.bipush 6, 2) := by decide +kernel
theorem d_X11_whyNotEatenYet_23 : decode (D_X11_whyNotEatenYet).2.1 23 = .ok (.ireturn, 1) := by decide +kernel
theorem d_X11_whyNotEatenYet_24 : decode (D_X11_whyNotEatenYet).2.1 24 = .ok (.aload_n 0, 1) := by decide +kernel
theorem d_X11_whyNotEatenYet_25 : decode (D_X11_whyNotEatenYet).2.1 25 = .ok (.bipush 64, 2) := by decide +kernel
theorem d_X11_whyNotEatenYet_27 : decode (D_X11_whyNotEatenYet).2.1 27 = .ok (.invokevirtual 323, 3) := by decide +kernel
theorem d_X11_whyNotEatenYet_30 : decode (D_X11_whyNotEatenYet).2.1 30 = .ok (.aload_n 0, 1) := by decide +kernel
theorem d_X11_whyNotEatenYet_31 : decode (D_X11_whyNotEatenYet).2.1 31 = .ok (.getfield 86, 3) := by decide +kernel
theorem d_X11_whyNotEatenYet_34 : decode (D_X11_whyNotEatenYet).2.1 34 = .ok (.iload_n 1, 1) := by decide +kernel
theorem d_X11_whyNotEatenYet_35 : decode (D_X11_whyNotEatenYet).2.1 35 = .ok (.invokevirtual 282, 3) := by decide +kernel
theorem d_X11_whyNotEatenYet_38 : decode (D_X11_whyNotEatenYet).2.1 38 = .ok (.ifCond .eq 7, 3) := by decide +kernel
theorem d_X11_whyNotEatenYet_41 : decode (D_X11_whyNotEatenYet).2.1 41 = .ok (.iconst 0, 1) := by decide +kernel
theorem d_X11_whyNotEatenYet_42 : decode (D_X11_whyNotEatenYet).2.1 42 = .ok (.goto 5, 3) := by decide +kernel
theorem d_X11_whyNotEatenYet_45 : decode (D_X11_whyNotEatenYet).2.1 45 = .ok (.bipush 6, 2) := by decide +kernel
theorem d_X11_whyNotEatenYet_47 : decode (D_X11_whyNotEatenYet).2.1 47 = .ok (.ireturn, 1) := by decide +kernel
def f_X11_whyNotEatenYet (n : Nat) (x1 : Int) (M : JMem) : Option (Int × JMem) := bnd (f_X11_isBeast n x1 M) fun r1 M2 => if jw r1 = 0 then (some (1, M2)) else (bnd (f_X1_isEaten n 52 x1 M2) fun r3 M4 => if jw r3 = 0 then (bnd (f_X11_goOnUntil n 64 M4) fun _ M6 => bnd (f_X1_isEaten n 68 x1 M6) fun r7 M8 => if jw r7 = 0 then (some (6, M8)) else (some (0, M8))) else (some (6, M4)))
set_option maxRecDepth 4000 in
theorem t_X11_whyNotEatenYet {g : JG} {ad : Nat → Nat} (hs : jStr g ad) (n : Nat) (x1 : Int) (M : JMem) : jB g D_X11_whyNotEatenYet ad 0 [some (.ref 0), some (ji x1)] [] M (f_X11_whyNotEatenYet n x1 M) := by
  unfold f_X11_whyNotEatenYet
  refine jo_aload 0 d_X11_whyNotEatenYet_0 rfl rfl ?_
  refine jo_iload 1 d_X11_whyNotEatenYet_1 rfl rfl ?_
  refine jo_callV (st := []) (m_X11_isBeast hs n x1 M) ok_X11_isBeast (And.intro (Nat.le_of_ble_eq_true rfl) (Nat.le_of_ble_eq_true rfl)) lm_X11_264 in_X11_isBeast se_X11_isBeast rfl kc_0 rfl rfl (And.intro (Nat.zero_le _) (Nat.zero_le _)) rfl (Nat.le_of_ble_eq_true rfl) d_X11_whyNotEatenYet_2 (fun r1 M2 => ?_)
  refine jo_if_ne 10 d_X11_whyNotEatenYet_5 (by decide) ?_ ?_
  · skip
    refine jo_aload 0 d_X11_whyNotEatenYet_10 rfl rfl ?_
    refine jo_getR (k := 8) cl_11 (Nat.le_of_ble_eq_true rfl) lk_X11_60 rfl kc_0 kr_0_8 d_X11_whyNotEatenYet_11 ?_
    refine jo_iload 1 d_X11_whyNotEatenYet_14 rfl rfl ?_
    refine jo_callV (st := []) (m_X1_isEaten hs n 52 x1 kc_52 M2) ok_X1_isEaten (And.intro (Nat.le_of_ble_eq_true rfl) (Nat.le_of_ble_eq_true rfl)) lm_X11_282 in_X1_isEaten se_X1_isEaten rfl kc_52 rfl rfl (And.intro (Nat.zero_le _) (Nat.zero_le _)) rfl (Nat.le_of_ble_eq_true rfl) d_X11_whyNotEatenYet_15 (fun r3 M4 => ?_)
    refine jo_if_eq 24 d_X11_whyNotEatenYet_18 (by decide) ?_ ?_
    · skip
      refine jo_aload 0 d_X11_whyNotEatenYet_24 rfl rfl ?_
      refine jo_bipush 64 d_X11_whyNotEatenYet_25 (by decide) ?_
      refine jo_callV (st := []) (m_X11_goOnUntil hs n 64 M4) ok_X11_goOnUntil (And.intro (Nat.le_of_ble_eq_true rfl) (Nat.le_of_ble_eq_true rfl)) lm_X11_323 in_X11_goOnUntil se_X11_goOnUntil rfl kc_0 rfl rfl (And.intro (Nat.zero_le _) (Nat.zero_le _)) rfl (Nat.le_of_ble_eq_true rfl) d_X11_whyNotEatenYet_27 (fun _ M6 => ?_)
      refine jo_aload 0 d_X11_whyNotEatenYet_30 rfl rfl ?_
      refine jo_getR (k := 14) cl_11 (Nat.le_of_ble_eq_true rfl) lk_X11_86 rfl kc_0 kr_0_14 d_X11_whyNotEatenYet_31 ?_
      refine jo_iload 1 d_X11_whyNotEatenYet_34 rfl rfl ?_
      refine jo_callV (st := []) (m_X1_isEaten hs n 68 x1 kc_68 M6) ok_X1_isEaten (And.intro (Nat.le_of_ble_eq_true rfl) (Nat.le_of_ble_eq_true rfl)) lm_X11_282 in_X1_isEaten se_X1_isEaten rfl kc_68 rfl rfl (And.intro (Nat.zero_le _) (Nat.zero_le _)) rfl (Nat.le_of_ble_eq_true rfl) d_X11_whyNotEatenYet_35 (fun r7 M8 => ?_)
      refine jo_if_eq 45 d_X11_whyNotEatenYet_38 (by decide) ?_ ?_
      · skip
        refine jo_bipush 6 d_X11_whyNotEatenYet_45 (by decide) ?_
        exact jo_iret rfl d_X11_whyNotEatenYet_47
      · skip
        refine jo_iconst 0 d_X11_whyNotEatenYet_41 ?_
        refine jo_goto 47 d_X11_whyNotEatenYet_42 (by decide) ?_
        exact jo_iret rfl d_X11_whyNotEatenYet_47
    · skip
      refine jo_bipush 6 d_X11_whyNotEatenYet_21 (by decide) ?_
      exact jo_iret rfl d_X11_whyNotEatenYet_23
  · skip
    refine jo_iconst 1 d_X11_whyNotEatenYet_8 ?_
    exact jo_iret rfl d_X11_whyNotEatenYet_9
theorem m_X11_whyNotEatenYet {g : JG} {ad : Nat → Nat} (hs : jStr g ad) (n : Nat) (x1 : Int) (M : JMem) : jMet g jNN ad jR D_X11_whyNotEatenYet yX11_whyNotEatenYet [.ref 0, ji x1] M (f_X11_whyNotEatenYet n x1 M) :=
  jMet.of (lo0 := [some (.ref 0), some (ji x1)]) (by decide) rfl rfl (Nat.le_of_ble_eq_true rfl) (And.intro rfl (And.intro rfl True.intro)) (t_X11_whyNotEatenYet hs n x1 M)
/-! CageLeave.eatenAt(I)I -/
def D_X11_eatenAt : JD := (RX11, cX11_eatenAt, 3, some .int, "eatenAt", { frames := 6, cells := 0, slots := 0, locals := 137 })
theorem ok_X11_eatenAt : jOk D_X11_eatenAt yX11_eatenAt 1 := ⟨jTW_mem (k := 1104) (by decide +kernel) rfl, jTW_mem (k := 135) (by decide +kernel) rfl, ⟨by decide +kernel, by decide +kernel⟩, by decide +kernel, rfl, rfl⟩
theorem in_X11_eatenAt : Cond.instanceMethod yX11_eatenAt ∈ jTW := jTW_mem (k := 1102) (by decide +kernel) rfl
theorem se_X11_eatenAt : Cond.selects yX11_eatenAt.cls yX11_eatenAt yX11_eatenAt ∈ jTW := jTW_mem (k := 1103) (by decide +kernel) rfl
theorem lm_X11_326 : Cond.methodLink RX11 326 yX11_whyNotEatenYet ∈ jTW := jTW_mem (k := 1105) (by decide +kernel) rfl
theorem lk_X11_329 : Cond.fieldLink RX11 329 (TX1 11).1 (TX1 11).2.1 (TX1 11).2.2.1 ∈ jTW := jTW_mem (k := 428) (by decide +kernel) rfl
theorem d_X11_eatenAt_0 : decode (D_X11_eatenAt).2.1 0 = .ok (.aload_n 0, 1) := by decide +kernel
theorem d_X11_eatenAt_1 : decode (D_X11_eatenAt).2.1 1 = .ok (.iload_n 1, 1) := by decide +kernel
theorem d_X11_eatenAt_2 : decode (D_X11_eatenAt).2.1 2 = .ok (.invokevirtual 326, 3) := by decide +kernel
theorem d_X11_eatenAt_5 : decode (D_X11_eatenAt).2.1 5 = .ok (.istore_n 2, 1) := by decide +kernel
theorem d_X11_eatenAt_6 : decode (D_X11_eatenAt).2.1 6 = .ok (.iload_n 2, 1) := by decide +kernel
theorem d_X11_eatenAt_7 : decode (D_X11_eatenAt).2.1 7 = .ok (.ifCond .ne 19, 3) := by decide +kernel
theorem d_X11_eatenAt_10 : decode (D_X11_eatenAt).2.1 10 = .ok (.aload_n 0, 1) := by decide +kernel
theorem d_X11_eatenAt_11 : decode (D_X11_eatenAt).2.1 11 = .ok (.aload_n 0, 1) := by decide +kernel
theorem d_X11_eatenAt_12 : decode (D_X11_eatenAt).2.1 12 = .ok (.getfield 86, 3) := by decide +kernel
theorem d_X11_eatenAt_15 : decode (D_X11_eatenAt).2.1 15 = .ok (.getfield 329, 3) := by decide +kernel
theorem d_X11_eatenAt_18 : decode (D_X11_eatenAt).2.1 18 = .ok (.iload_n 1, 1) := by decide +kernel
theorem d_X11_eatenAt_19 : decode (D_X11_eatenAt).2.1 19 = .ok (.iaload, 1) := by decide +kernel
theorem d_X11_eatenAt_20 : decode (D_X11_eatenAt).2.1 20 = .ok (.invokevirtual 193, 3) := by decide +kernel
theorem d_X11_eatenAt_23 : decode (D_X11_eatenAt).2.1 23 = .ok (.goto 8, 3) := by decide +kernel
theorem d_X11_eatenAt_26 : decode (D_X11_eatenAt).2.1 26 = .ok (.aload_n 0, 1) := by decide +kernel
theorem d_X11_eatenAt_27 : decode (D_X11_eatenAt).2.1 27 = .ok (.iload_n 2, 1) := by decide +kernel
theorem d_X11_eatenAt_28 : decode (D_X11_eatenAt).2.1 28 = .ok (.invokevirtual 143, 3) := by decide +kernel
theorem d_X11_eatenAt_31 : decode (D_X11_eatenAt).2.1 31 = .ok (.ireturn, 1) := by decide +kernel
def f_X11_eatenAt (n : Nat) (x1 : Int) (M : JMem) : Option (Int × JMem) := bnd (f_X11_whyNotEatenYet n x1 M) fun r1 M2 => letv r1 fun y3 => if jw y3 = 0 then (chk (jin x1 8) <| bnd (f_X11_answer n (M2 (68 + 7) (jw x1).toNat) M2) fun r6 M7 => some (r6, M7)) else (bnd (f_X11_refuse n y3 M2) fun r4 M5 => some (r4, M5))
set_option maxRecDepth 4000 in
theorem t_X11_eatenAt {g : JG} {ad : Nat → Nat} (hs : jStr g ad) (n : Nat) (x1 : Int) (M : JMem) : jB g D_X11_eatenAt ad 0 [some (.ref 0), some (ji x1), none] [] M (f_X11_eatenAt n x1 M) := by
  unfold f_X11_eatenAt
  refine jo_aload 0 d_X11_eatenAt_0 rfl rfl ?_
  refine jo_iload 1 d_X11_eatenAt_1 rfl rfl ?_
  refine jo_callV (st := []) (m_X11_whyNotEatenYet hs n x1 M) ok_X11_whyNotEatenYet (And.intro (Nat.le_of_ble_eq_true rfl) (Nat.le_of_ble_eq_true rfl)) lm_X11_326 in_X11_whyNotEatenYet se_X11_whyNotEatenYet rfl kc_0 rfl rfl (And.intro (Nat.zero_le _) (Nat.zero_le _)) rfl (Nat.le_of_ble_eq_true rfl) d_X11_eatenAt_2 (fun r1 M2 => ?_)
  refine jo_istore 2 d_X11_eatenAt_5 rfl (Nat.le_of_ble_eq_true rfl) (fun y3 => ?_)
  refine jo_iload 2 d_X11_eatenAt_6 rfl rfl ?_
  refine jo_if_ne 26 d_X11_eatenAt_7 (by decide) ?_ ?_
  · skip
    refine jo_aload 0 d_X11_eatenAt_26 rfl rfl ?_
    refine jo_iload 2 d_X11_eatenAt_27 rfl rfl ?_
    refine jo_callV (st := []) (m_X11_refuse hs n y3 M2) ok_X11_refuse (And.intro (Nat.le_of_ble_eq_true rfl) (Nat.le_of_ble_eq_true rfl)) lm_X11_143 in_X11_refuse se_X11_refuse rfl kc_0 rfl rfl (And.intro (Nat.zero_le _) (Nat.zero_le _)) rfl (Nat.le_of_ble_eq_true rfl) d_X11_eatenAt_28 (fun r4 M5 => ?_)
    exact jo_iret rfl d_X11_eatenAt_31
  · skip
    refine jo_aload 0 d_X11_eatenAt_10 rfl rfl ?_
    refine jo_aload 0 d_X11_eatenAt_11 rfl rfl ?_
    refine jo_getR (k := 14) cl_11 (Nat.le_of_ble_eq_true rfl) lk_X11_86 rfl kc_0 kr_0_14 d_X11_eatenAt_12 ?_
    refine jo_getR (k := 11) cl_1 (Nat.le_of_ble_eq_true rfl) lk_X11_329 rfl kc_68 (kr_Now_11 kc_68) d_X11_eatenAt_15 ?_
    refine jo_iload 1 d_X11_eatenAt_18 rfl rfl ?_
    refine jo_iald (N := 8) (ka_Now_11 kc_68) d_X11_eatenAt_19 ?_
    refine jo_callV (st := []) (m_X11_answer hs n (M2 (68 + 7) (jw x1).toNat) M2) ok_X11_answer (And.intro (Nat.le_of_ble_eq_true rfl) (Nat.le_of_ble_eq_true rfl)) lm_X11_193 in_X11_answer se_X11_answer rfl kc_0 rfl rfl (And.intro (Nat.zero_le _) (Nat.zero_le _)) rfl (Nat.le_of_ble_eq_true rfl) d_X11_eatenAt_20 (fun r6 M7 => ?_)
    refine jo_goto 31 d_X11_eatenAt_23 (by decide) ?_
    exact jo_iret rfl d_X11_eatenAt_31
theorem m_X11_eatenAt {g : JG} {ad : Nat → Nat} (hs : jStr g ad) (n : Nat) (x1 : Int) (M : JMem) : jMet g jNN ad jR D_X11_eatenAt yX11_eatenAt [.ref 0, ji x1] M (f_X11_eatenAt n x1 M) :=
  jMet.of (lo0 := [some (.ref 0), some (ji x1), none]) (by decide) rfl rfl (Nat.le_of_ble_eq_true rfl) (And.intro rfl (And.intro rfl True.intro)) (t_X11_eatenAt hs n x1 M)
/-! CageLeave.whyNotLetOut(I)I -/
def D_X11_whyNotLetOut : JD := (RX11, cX11_whyNotLetOut, 2, some .int, "whyNotLetOut", { frames := 1, cells := 0, slots := 0, locals := 21 })
theorem ok_X11_whyNotLetOut : jOk D_X11_whyNotLetOut yX11_whyNotLetOut 1 := ⟨jTW_mem (k := 1128) (by decide +kernel) rfl, jTW_mem (k := 135) (by decide +kernel) rfl, ⟨by decide +kernel, by decide +kernel⟩, by decide +kernel, rfl, rfl⟩
theorem in_X11_whyNotLetOut : Cond.instanceMethod yX11_whyNotLetOut ∈ jTW := jTW_mem (k := 1127) (by decide +kernel) rfl
theorem se_X11_whyNotLetOut : Cond.selects yX11_whyNotLetOut.cls yX11_whyNotLetOut yX11_whyNotLetOut ∈ jTW := jTW_mem (k := 31) (by decide +kernel) rfl
theorem d_X11_whyNotLetOut_0 : decode (D_X11_whyNotLetOut).2.1 0 = .ok (.aload_n 0, 1) := by decide +kernel
theorem d_X11_whyNotLetOut_1 : decode (D_X11_whyNotLetOut).2.1 1 = .ok (.iload_n 1, 1) := by decide +kernel
theorem d_X11_whyNotLetOut_2 : decode (D_X11_whyNotLetOut).2.1 2 = .ok (.invokevirtual 379, 3) := by decide +kernel
theorem d_X11_whyNotLetOut_5 : decode (D_X11_whyNotLetOut).2.1 5 = .ok (.ifCond .ne 5, 3) := by decide +kernel
theorem d_X11_whyNotLetOut_8 : decode (D_X11_whyNotLetOut).2.1 8 = .ok (.iconst 1, 1) := by decide +kernel
theorem d_X11_whyNotLetOut_9 : decode (D_X11_whyNotLetOut).2.1 9 = .ok (.ireturn, 1) := by decide +kernel
theorem d_X11_whyNotLetOut_10 : decode (D_X11_whyNotLetOut).2.1 10 = .ok (.iload_n 1, 1) := by decide +kernel
theorem d_X11_whyNotLetOut_11 : decode (D_X11_whyNotLetOut).2.1 11 = .ok (.aload_n 0, 1) := by decide +kernel
theorem d_X11_whyNotLetOut_12 : decode (D_X11_whyNotLetOut).2.1 12 = .ok (.getfield 60, 3) := by decide +kernel
theorem d_X11_whyNotLetOut_15 : decode (D_X11_whyNotLetOut).2.1 15 = .ok (.getfield 230, 3) := by decide +kernel
theorem d_X11_whyNotLetOut_18 : decode (D_X11_whyNotLetOut).2.1 18 = .ok (.iand, 1) := by decide +kernel
theorem d_X11_whyNotLetOut_19 : decode (D_X11_whyNotLetOut).2.1 19 = .ok (.ifCond .eq 8, 3) := by decide +kernel
theorem d_X11_whyNotLetOut_22 : decode (D_X11_whyNotLetOut).2.1 22 = .ok (.bipush 7, 2) := by decide +kernel
theorem d_X11_whyNotLetOut_24 : decode (D_X11_whyNotLetOut).2.1 24 = .ok (.goto 4, 3) := by decide +kernel
theorem d_X11_whyNotLetOut_27 : decode (D_X11_whyNotLetOut).2.1 27 = .ok (.iconst 0, 1) := by decide +kernel
theorem d_X11_whyNotLetOut_28 : decode (D_X11_whyNotLetOut).2.1 28 = .ok (.ireturn, 1) := by decide +kernel
def f_X11_whyNotLetOut (n : Nat) (x1 : Int) (M : JMem) : Option (Int × JMem) := bnd (f_X11_isSet n x1 M) fun r1 M2 => if jw r1 = 0 then (some (1, M2)) else (if jw (jand x1 (M2 52 3)) = 0 then (some (0, M2)) else (some (7, M2)))
set_option maxRecDepth 4000 in
theorem t_X11_whyNotLetOut {g : JG} {ad : Nat → Nat} (hs : jStr g ad) (n : Nat) (x1 : Int) (M : JMem) : jB g D_X11_whyNotLetOut ad 0 [some (.ref 0), some (ji x1)] [] M (f_X11_whyNotLetOut n x1 M) := by
  unfold f_X11_whyNotLetOut
  refine jo_aload 0 d_X11_whyNotLetOut_0 rfl rfl ?_
  refine jo_iload 1 d_X11_whyNotLetOut_1 rfl rfl ?_
  refine jo_callV (st := []) (m_X11_isSet hs n x1 M) ok_X11_isSet (And.intro (Nat.le_of_ble_eq_true rfl) (Nat.le_of_ble_eq_true rfl)) lm_X11_379 in_X11_isSet se_X11_isSet rfl kc_0 rfl rfl (And.intro (Nat.zero_le _) (Nat.zero_le _)) rfl (Nat.le_of_ble_eq_true rfl) d_X11_whyNotLetOut_2 (fun r1 M2 => ?_)
  refine jo_if_ne 10 d_X11_whyNotLetOut_5 (by decide) ?_ ?_
  · skip
    refine jo_iload 1 d_X11_whyNotLetOut_10 rfl rfl ?_
    refine jo_aload 0 d_X11_whyNotLetOut_11 rfl rfl ?_
    refine jo_getR (k := 8) cl_11 (Nat.le_of_ble_eq_true rfl) lk_X11_60 rfl kc_0 kr_0_8 d_X11_whyNotLetOut_12 ?_
    refine jo_getI (k := 3) cl_1 (Nat.le_of_ble_eq_true rfl) lk_X11_230 (Or.inl rfl) kc_52 d_X11_whyNotLetOut_15 ?_
    refine jo_iand d_X11_whyNotLetOut_18 ?_
    refine jo_if_eq 27 d_X11_whyNotLetOut_19 (by decide) ?_ ?_
    · skip
      refine jo_iconst 0 d_X11_whyNotLetOut_27 ?_
      exact jo_iret rfl d_X11_whyNotLetOut_28
    · skip
      refine jo_bipush 7 d_X11_whyNotLetOut_22 (by decide) ?_
      refine jo_goto 28 d_X11_whyNotLetOut_24 (by decide) ?_
      exact jo_iret rfl d_X11_whyNotLetOut_28
  · skip
    refine jo_iconst 1 d_X11_whyNotLetOut_8 ?_
    exact jo_iret rfl d_X11_whyNotLetOut_9
theorem m_X11_whyNotLetOut {g : JG} {ad : Nat → Nat} (hs : jStr g ad) (n : Nat) (x1 : Int) (M : JMem) : jMet g jNN ad jR D_X11_whyNotLetOut yX11_whyNotLetOut [.ref 0, ji x1] M (f_X11_whyNotLetOut n x1 M) :=
  jMet.of (lo0 := [some (.ref 0), some (ji x1)]) (by decide) rfl rfl (Nat.le_of_ble_eq_true rfl) (And.intro rfl (And.intro rfl True.intro)) (t_X11_whyNotLetOut hs n x1 M)
/-! CageLeave.eatenOutside(I)I -/
def D_X11_eatenOutside : JD := (RX11, cX11_eatenOutside, 2, some .int, "eatenOutside", { frames := 4, cells := 0, slots := 0, locals := 104 })
theorem ok_X11_eatenOutside : jOk D_X11_eatenOutside yX11_eatenOutside 1 := ⟨jTW_mem (k := 1136) (by decide +kernel) rfl, jTW_mem (k := 135) (by decide +kernel) rfl, ⟨by decide +kernel, by decide +kernel⟩, by decide +kernel, rfl, rfl⟩
theorem in_X11_eatenOutside : Cond.instanceMethod yX11_eatenOutside ∈ jTW := jTW_mem (k := 1135) (by decide +kernel) rfl
theorem se_X11_eatenOutside : Cond.selects yX11_eatenOutside.cls yX11_eatenOutside yX11_eatenOutside ∈ jTW := jTW_mem (k := 33) (by decide +kernel) rfl
theorem lm_X11_427 : Cond.methodLink RX11 427 yX1_letOut ∈ jTW := jTW_mem (k := 1137) (by decide +kernel) rfl
theorem d_X11_eatenOutside_0 : decode (D_X11_eatenOutside).2.1 0 = .ok (.aload_n 0, 1) := by decide +kernel
theorem d_X11_eatenOutside_1 : decode (D_X11_eatenOutside).2.1 1 = .ok (.getfield 86, 3) := by decide +kernel
theorem d_X11_eatenOutside_4 : decode (D_X11_eatenOutside).2.1 4 = .ok (.aload_n 0, 1) := by decide +kernel
theorem d_X11_eatenOutside_5 : decode (D_X11_eatenOutside).2.1 5 = .ok (.getfield 53, 3) := by decide +kernel
theorem d_X11_eatenOutside_8 : decode (D_X11_eatenOutside).2.1 8 = .ok (.aload_n 0, 1) := by decide +kernel
theorem d_X11_eatenOutside_9 : decode (D_X11_eatenOutside).2.1 9 = .ok (.getfield 60, 3) := by decide +kernel
theorem d_X11_eatenOutside_12 : decode (D_X11_eatenOutside).2.1 12 = .ok (.iload_n 1, 1) := by decide +kernel
theorem d_X11_eatenOutside_13 : decode (D_X11_eatenOutside).2.1 13 = .ok (.invokevirtual 427, 3) := by decide +kernel
theorem d_X11_eatenOutside_16 : decode (D_X11_eatenOutside).2.1 16 = .ok (.aload_n 0, 1) := by decide +kernel
theorem d_X11_eatenOutside_17 : decode (D_X11_eatenOutside).2.1 17 = .ok (.getfield 86, 3) := by decide +kernel
theorem d_X11_eatenOutside_20 : decode (D_X11_eatenOutside).2.1 20 = .ok (.aload_n 0, 1) := by decide +kernel
theorem d_X11_eatenOutside_21 : decode (D_X11_eatenOutside).2.1 21 = .ok (.getfield 53, 3) := by decide +kernel
theorem d_X11_eatenOutside_24 : decode (D_X11_eatenOutside).2.1 24 = .ok (.bipush 64, 2) := by decide +kernel
theorem d_X11_eatenOutside_26 : decode (D_X11_eatenOutside).2.1 26 = .ok (.invokevirtual 303, 3) := by decide +kernel
theorem d_X11_eatenOutside_29 : decode (D_X11_eatenOutside).2.1 29 = .ok (.ireturn, 1) := by decide +kernel
def f_X11_eatenOutside (n : Nat) (x1 : Int) (M : JMem) : Option (Int × JMem) := bnd (f_X1_letOut n 68 40 52 x1 M) fun _ M2 => bnd (f_X1_passUntil n 68 40 64 M2) fun r3 M4 => some (r3, M4)
set_option maxRecDepth 4000 in
theorem t_X11_eatenOutside {g : JG} {ad : Nat → Nat} (hs : jStr g ad) (n : Nat) (x1 : Int) (M : JMem) : jB g D_X11_eatenOutside ad 0 [some (.ref 0), some (ji x1)] [] M (f_X11_eatenOutside n x1 M) := by
  unfold f_X11_eatenOutside
  refine jo_aload 0 d_X11_eatenOutside_0 rfl rfl ?_
  refine jo_getR (k := 14) cl_11 (Nat.le_of_ble_eq_true rfl) lk_X11_86 rfl kc_0 kr_0_14 d_X11_eatenOutside_1 ?_
  refine jo_aload 0 d_X11_eatenOutside_4 rfl rfl ?_
  refine jo_getR (k := 7) cl_11 (Nat.le_of_ble_eq_true rfl) lk_X11_53 rfl kc_0 kr_0_7 d_X11_eatenOutside_5 ?_
  refine jo_aload 0 d_X11_eatenOutside_8 rfl rfl ?_
  refine jo_getR (k := 8) cl_11 (Nat.le_of_ble_eq_true rfl) lk_X11_60 rfl kc_0 kr_0_8 d_X11_eatenOutside_9 ?_
  refine jo_iload 1 d_X11_eatenOutside_12 rfl rfl ?_
  refine jo_callV (st := []) (m_X1_letOut hs n 68 40 52 x1 kc_68 kc_40 kc_52 M) ok_X1_letOut (And.intro (Nat.le_of_ble_eq_true rfl) (Nat.le_of_ble_eq_true rfl)) lm_X11_427 in_X1_letOut se_X1_letOut rfl kc_68 rfl rfl (And.intro (Nat.zero_le _) (Nat.zero_le _)) rfl (Nat.le_of_ble_eq_true rfl) d_X11_eatenOutside_13 (fun _ M2 => ?_)
  refine jo_aload 0 d_X11_eatenOutside_16 rfl rfl ?_
  refine jo_getR (k := 14) cl_11 (Nat.le_of_ble_eq_true rfl) lk_X11_86 rfl kc_0 kr_0_14 d_X11_eatenOutside_17 ?_
  refine jo_aload 0 d_X11_eatenOutside_20 rfl rfl ?_
  refine jo_getR (k := 7) cl_11 (Nat.le_of_ble_eq_true rfl) lk_X11_53 rfl kc_0 kr_0_7 d_X11_eatenOutside_21 ?_
  refine jo_bipush 64 d_X11_eatenOutside_24 (by decide) ?_
  refine jo_callV (st := []) (m_X1_passUntil hs n 68 40 64 kc_68 kc_40 M2) ok_X1_passUntil (And.intro (Nat.le_of_ble_eq_true rfl) (Nat.le_of_ble_eq_true rfl)) lm_X11_303 in_X1_passUntil se_X1_passUntil rfl kc_68 rfl rfl (And.intro (Nat.zero_le _) (Nat.zero_le _)) rfl (Nat.le_of_ble_eq_true rfl) d_X11_eatenOutside_26 (fun r3 M4 => ?_)
  exact jo_iret rfl d_X11_eatenOutside_29
theorem m_X11_eatenOutside {g : JG} {ad : Nat → Nat} (hs : jStr g ad) (n : Nat) (x1 : Int) (M : JMem) : jMet g jNN ad jR D_X11_eatenOutside yX11_eatenOutside [.ref 0, ji x1] M (f_X11_eatenOutside n x1 M) :=
  jMet.of (lo0 := [some (.ref 0), some (ji x1)]) (by decide) rfl rfl (Nat.le_of_ble_eq_true rfl) (And.intro rfl (And.intro rfl True.intro)) (t_X11_eatenOutside hs n x1 M)
/-! CageLeave.eatenBy(I)I -/
def D_X11_eatenBy : JD := (RX11, cX11_eatenBy, 3, some .int, "eatenBy", { frames := 5, cells := 0, slots := 0, locals := 125 })
theorem ok_X11_eatenBy : jOk D_X11_eatenBy yX11_eatenBy 1 := ⟨jTW_mem (k := 1145) (by decide +kernel) rfl, jTW_mem (k := 135) (by decide +kernel) rfl, ⟨by decide +kernel, by decide +kernel⟩, by decide +kernel, rfl, rfl⟩
theorem in_X11_eatenBy : Cond.instanceMethod yX11_eatenBy ∈ jTW := jTW_mem (k := 1143) (by decide +kernel) rfl
theorem se_X11_eatenBy : Cond.selects yX11_eatenBy.cls yX11_eatenBy yX11_eatenBy ∈ jTW := jTW_mem (k := 1144) (by decide +kernel) rfl
theorem lm_X11_335 : Cond.methodLink RX11 335 yX11_whyNotLetOut ∈ jTW := jTW_mem (k := 1125) (by decide +kernel) rfl
theorem lm_X11_338 : Cond.methodLink RX11 338 yX11_eatenOutside ∈ jTW := jTW_mem (k := 1133) (by decide +kernel) rfl
theorem d_X11_eatenBy_0 : decode (D_X11_eatenBy).2.1 0 = .ok (.aload_n 0, 1) := by decide +kernel
theorem d_X11_eatenBy_1 : decode (D_X11_eatenBy).2.1 1 = .ok (.iload_n 1, 1) := by decide +kernel
theorem d_X11_eatenBy_2 : decode (D_X11_eatenBy).2.1 2 = .ok (.invokevirtual 335, 3) := by decide +kernel
theorem d_X11_eatenBy_5 : decode (D_X11_eatenBy).2.1 5 = .ok (.istore_n 2, 1) := by decide +kernel
theorem d_X11_eatenBy_6 : decode (D_X11_eatenBy).2.1 6 = .ok (.iload_n 2, 1) := by decide +kernel
theorem d_X11_eatenBy_7 : decode (D_X11_eatenBy).2.1 7 = .ok (.ifCond .ne 15, 3) := by decide +kernel
theorem d_X11_eatenBy_10 : decode (D_X11_eatenBy).2.1 10 = .ok (.aload_n 0, 1) := by decide +kernel
theorem d_X11_eatenBy_11 : decode (D_X11_eatenBy).2.1 11 = .ok (.aload_n 0, 1) := by decide +kernel
theorem d_X11_eatenBy_12 : decode (D_X11_eatenBy).2.1 12 = .ok (.iload_n 1, 1) := by decide +kernel
theorem d_X11_eatenBy_13 : decode (D_X11_eatenBy).2.1 13 = .ok (.invokevirtual 338, 3) := by decide +kernel
theorem d_X11_eatenBy_16 : decode (D_X11_eatenBy).2.1 16 = .ok (.invokevirtual 193, 3) := by decide +kernel
theorem d_X11_eatenBy_19 : decode (D_X11_eatenBy).2.1 19 = .ok (.goto 8, 3) := by decide +kernel
theorem d_X11_eatenBy_22 : decode (D_X11_eatenBy).2.1 22 = .ok (.aload_n 0, 1) := by decide +kernel
theorem d_X11_eatenBy_23 : decode (D_X11_eatenBy).2.1 23 = .ok (.iload_n 2, 1) := by decide +kernel
theorem d_X11_eatenBy_24 : decode (D_X11_eatenBy).2.1 24 = .ok (.invokevirtual 143, 3) := by decide +kernel
theorem d_X11_eatenBy_27 : decode (D_X11_eatenBy).2.1 27 = .ok (.ireturn, 1) := by decide +kernel
def f_X11_eatenBy (n : Nat) (x1 : Int) (M : JMem) : Option (Int × JMem) := bnd (f_X11_whyNotLetOut n x1 M) fun r1 M2 => letv r1 fun y3 => if jw y3 = 0 then (bnd (f_X11_eatenOutside n x1 M2) fun r6 M7 => bnd (f_X11_answer n r6 M7) fun r8 M9 => some (r8, M9)) else (bnd (f_X11_refuse n y3 M2) fun r4 M5 => some (r4, M5))
set_option maxRecDepth 4000 in
theorem t_X11_eatenBy {g : JG} {ad : Nat → Nat} (hs : jStr g ad) (n : Nat) (x1 : Int) (M : JMem) : jB g D_X11_eatenBy ad 0 [some (.ref 0), some (ji x1), none] [] M (f_X11_eatenBy n x1 M) := by
  unfold f_X11_eatenBy
  refine jo_aload 0 d_X11_eatenBy_0 rfl rfl ?_
  refine jo_iload 1 d_X11_eatenBy_1 rfl rfl ?_
  refine jo_callV (st := []) (m_X11_whyNotLetOut hs n x1 M) ok_X11_whyNotLetOut (And.intro (Nat.le_of_ble_eq_true rfl) (Nat.le_of_ble_eq_true rfl)) lm_X11_335 in_X11_whyNotLetOut se_X11_whyNotLetOut rfl kc_0 rfl rfl (And.intro (Nat.zero_le _) (Nat.zero_le _)) rfl (Nat.le_of_ble_eq_true rfl) d_X11_eatenBy_2 (fun r1 M2 => ?_)
  refine jo_istore 2 d_X11_eatenBy_5 rfl (Nat.le_of_ble_eq_true rfl) (fun y3 => ?_)
  refine jo_iload 2 d_X11_eatenBy_6 rfl rfl ?_
  refine jo_if_ne 22 d_X11_eatenBy_7 (by decide) ?_ ?_
  · skip
    refine jo_aload 0 d_X11_eatenBy_22 rfl rfl ?_
    refine jo_iload 2 d_X11_eatenBy_23 rfl rfl ?_
    refine jo_callV (st := []) (m_X11_refuse hs n y3 M2) ok_X11_refuse (And.intro (Nat.le_of_ble_eq_true rfl) (Nat.le_of_ble_eq_true rfl)) lm_X11_143 in_X11_refuse se_X11_refuse rfl kc_0 rfl rfl (And.intro (Nat.zero_le _) (Nat.zero_le _)) rfl (Nat.le_of_ble_eq_true rfl) d_X11_eatenBy_24 (fun r4 M5 => ?_)
    exact jo_iret rfl d_X11_eatenBy_27
  · skip
    refine jo_aload 0 d_X11_eatenBy_10 rfl rfl ?_
    refine jo_aload 0 d_X11_eatenBy_11 rfl rfl ?_
    refine jo_iload 1 d_X11_eatenBy_12 rfl rfl ?_
    refine jo_callV (st := [.ref 0]) (m_X11_eatenOutside hs n x1 M2) ok_X11_eatenOutside (And.intro (Nat.le_of_ble_eq_true rfl) (Nat.le_of_ble_eq_true rfl)) lm_X11_338 in_X11_eatenOutside se_X11_eatenOutside rfl kc_0 rfl rfl (And.intro (Nat.zero_le _) (Nat.zero_le _)) rfl (Nat.le_of_ble_eq_true rfl) d_X11_eatenBy_13 (fun r6 M7 => ?_)
    refine jo_callV (st := []) (m_X11_answer hs n r6 M7) ok_X11_answer (And.intro (Nat.le_of_ble_eq_true rfl) (Nat.le_of_ble_eq_true rfl)) lm_X11_193 in_X11_answer se_X11_answer rfl kc_0 rfl rfl (And.intro (Nat.zero_le _) (Nat.zero_le _)) rfl (Nat.le_of_ble_eq_true rfl) d_X11_eatenBy_16 (fun r8 M9 => ?_)
    refine jo_goto 27 d_X11_eatenBy_19 (by decide) ?_
    exact jo_iret rfl d_X11_eatenBy_27
theorem m_X11_eatenBy {g : JG} {ad : Nat → Nat} (hs : jStr g ad) (n : Nat) (x1 : Int) (M : JMem) : jMet g jNN ad jR D_X11_eatenBy yX11_eatenBy [.ref 0, ji x1] M (f_X11_eatenBy n x1 M) :=
  jMet.of (lo0 := [some (.ref 0), some (ji x1), none]) (by decide) rfl rfl (Nat.le_of_ble_eq_true rfl) (And.intro rfl (And.intro rfl True.intro)) (t_X11_eatenBy hs n x1 M)
/-! CageLeave.eater(I)I -/
def D_X11_eater : JD := (RX11, cX11_eater, 3, some .int, "eater", { frames := 6, cells := 0, slots := 0, locals := 137 })
theorem ok_X11_eater : jOk D_X11_eater yX11_eater 1 := ⟨jTW_mem (k := 1112) (by decide +kernel) rfl, jTW_mem (k := 135) (by decide +kernel) rfl, ⟨by decide +kernel, by decide +kernel⟩, by decide +kernel, rfl, rfl⟩
theorem in_X11_eater : Cond.instanceMethod yX11_eater ∈ jTW := jTW_mem (k := 1110) (by decide +kernel) rfl
theorem se_X11_eater : Cond.selects yX11_eater.cls yX11_eater yX11_eater ∈ jTW := jTW_mem (k := 1111) (by decide +kernel) rfl
theorem lk_X11_332 : Cond.fieldLink RX11 332 (TX1 10).1 (TX1 10).2.1 (TX1 10).2.2.1 ∈ jTW := jTW_mem (k := 426) (by decide +kernel) rfl
theorem d_X11_eater_0 : decode (D_X11_eater).2.1 0 = .ok (.aload_n 0, 1) := by decide +kernel
theorem d_X11_eater_1 : decode (D_X11_eater).2.1 1 = .ok (.iload_n 1, 1) := by decide +kernel
theorem d_X11_eater_2 : decode (D_X11_eater).2.1 2 = .ok (.invokevirtual 326, 3) := by decide +kernel
theorem d_X11_eater_5 : decode (D_X11_eater).2.1 5 = .ok (.istore_n 2, 1) := by decide +kernel
theorem d_X11_eater_6 : decode (D_X11_eater).2.1 6 = .ok (.iload_n 2, 1) := by decide +kernel
theorem d_X11_eater_7 : decode (D_X11_eater).2.1 7 = .ok (.ifCond .ne 19, 3) := by decide +kernel
theorem d_X11_eater_10 : decode (D_X11_eater).2.1 10 = .ok (.aload_n 0, 1) := by decide +kernel
theorem d_X11_eater_11 : decode (D_X11_eater).2.1 11 = .ok (.aload_n 0, 1) := by decide +kernel
theorem d_X11_eater_12 : decode (D_X11_eater).2.1 12 = .ok (.getfield 86, 3) := by decide +kernel
theorem d_X11_eater_15 : decode (D_X11_eater).2.1 15 = .ok (.getfield 332, 3) := by decide +kernel
theorem d_X11_eater_18 : decode (D_X11_eater).2.1 18 = .ok (.iload_n 1, 1) := by decide +kernel
theorem d_X11_eater_19 : decode (D_X11_eater).2.1 19 = .ok (.iaload, 1) := by decide +kernel
theorem d_X11_eater_20 : decode (D_X11_eater).2.1 20 = .ok (.invokevirtual 193, 3) := by decide +kernel
theorem d_X11_eater_23 : decode (D_X11_eater).2.1 23 = .ok (.goto 8, 3) := by decide +kernel
theorem d_X11_eater_26 : decode (D_X11_eater).2.1 26 = .ok (.aload_n 0, 1) := by decide +kernel
theorem d_X11_eater_27 : decode (D_X11_eater).2.1 27 = .ok (.iload_n 2, 1) := by decide +kernel
theorem d_X11_eater_28 : decode (D_X11_eater).2.1 28 = .ok (.invokevirtual 143, 3) := by decide +kernel
theorem d_X11_eater_31 : decode (D_X11_eater).2.1 31 = .ok (.ireturn, 1) := by decide +kernel
def f_X11_eater (n : Nat) (x1 : Int) (M : JMem) : Option (Int × JMem) := bnd (f_X11_whyNotEatenYet n x1 M) fun r1 M2 => letv r1 fun y3 => if jw y3 = 0 then (chk (jin x1 8) <| bnd (f_X11_answer n (M2 (68 + 6) (jw x1).toNat) M2) fun r6 M7 => some (r6, M7)) else (bnd (f_X11_refuse n y3 M2) fun r4 M5 => some (r4, M5))
set_option maxRecDepth 4000 in
theorem t_X11_eater {g : JG} {ad : Nat → Nat} (hs : jStr g ad) (n : Nat) (x1 : Int) (M : JMem) : jB g D_X11_eater ad 0 [some (.ref 0), some (ji x1), none] [] M (f_X11_eater n x1 M) := by
  unfold f_X11_eater
  refine jo_aload 0 d_X11_eater_0 rfl rfl ?_
  refine jo_iload 1 d_X11_eater_1 rfl rfl ?_
  refine jo_callV (st := []) (m_X11_whyNotEatenYet hs n x1 M) ok_X11_whyNotEatenYet (And.intro (Nat.le_of_ble_eq_true rfl) (Nat.le_of_ble_eq_true rfl)) lm_X11_326 in_X11_whyNotEatenYet se_X11_whyNotEatenYet rfl kc_0 rfl rfl (And.intro (Nat.zero_le _) (Nat.zero_le _)) rfl (Nat.le_of_ble_eq_true rfl) d_X11_eater_2 (fun r1 M2 => ?_)
  refine jo_istore 2 d_X11_eater_5 rfl (Nat.le_of_ble_eq_true rfl) (fun y3 => ?_)
  refine jo_iload 2 d_X11_eater_6 rfl rfl ?_
  refine jo_if_ne 26 d_X11_eater_7 (by decide) ?_ ?_
  · skip
    refine jo_aload 0 d_X11_eater_26 rfl rfl ?_
    refine jo_iload 2 d_X11_eater_27 rfl rfl ?_
    refine jo_callV (st := []) (m_X11_refuse hs n y3 M2) ok_X11_refuse (And.intro (Nat.le_of_ble_eq_true rfl) (Nat.le_of_ble_eq_true rfl)) lm_X11_143 in_X11_refuse se_X11_refuse rfl kc_0 rfl rfl (And.intro (Nat.zero_le _) (Nat.zero_le _)) rfl (Nat.le_of_ble_eq_true rfl) d_X11_eater_28 (fun r4 M5 => ?_)
    exact jo_iret rfl d_X11_eater_31
  · skip
    refine jo_aload 0 d_X11_eater_10 rfl rfl ?_
    refine jo_aload 0 d_X11_eater_11 rfl rfl ?_
    refine jo_getR (k := 14) cl_11 (Nat.le_of_ble_eq_true rfl) lk_X11_86 rfl kc_0 kr_0_14 d_X11_eater_12 ?_
    refine jo_getR (k := 10) cl_1 (Nat.le_of_ble_eq_true rfl) lk_X11_332 rfl kc_68 (kr_Now_10 kc_68) d_X11_eater_15 ?_
    refine jo_iload 1 d_X11_eater_18 rfl rfl ?_
    refine jo_iald (N := 8) (ka_Now_10 kc_68) d_X11_eater_19 ?_
    refine jo_callV (st := []) (m_X11_answer hs n (M2 (68 + 6) (jw x1).toNat) M2) ok_X11_answer (And.intro (Nat.le_of_ble_eq_true rfl) (Nat.le_of_ble_eq_true rfl)) lm_X11_193 in_X11_answer se_X11_answer rfl kc_0 rfl rfl (And.intro (Nat.zero_le _) (Nat.zero_le _)) rfl (Nat.le_of_ble_eq_true rfl) d_X11_eater_20 (fun r6 M7 => ?_)
    refine jo_goto 31 d_X11_eater_23 (by decide) ?_
    exact jo_iret rfl d_X11_eater_31
theorem m_X11_eater {g : JG} {ad : Nat → Nat} (hs : jStr g ad) (n : Nat) (x1 : Int) (M : JMem) : jMet g jNN ad jR D_X11_eater yX11_eater [.ref 0, ji x1] M (f_X11_eater n x1 M) :=
  jMet.of (lo0 := [some (.ref 0), some (ji x1), none]) (by decide) rfl rfl (Nat.le_of_ble_eq_true rfl) (And.intro rfl (And.intro rfl True.intro)) (t_X11_eater hs n x1 M)
/-! CageLeave.fault(I)I -/
def D_X11_fault : JD := (RX11, cX11_fault, 2, some .int, "fault", { frames := 0, cells := 0, slots := 0, locals := 0 })
theorem ok_X11_fault : jOk D_X11_fault yX11_fault 1 := ⟨jTW_mem (k := 944) (by decide +kernel) rfl, jTW_mem (k := 135) (by decide +kernel) rfl, ⟨by decide +kernel, by decide +kernel⟩, by decide +kernel, rfl, rfl⟩
theorem in_X11_fault : Cond.instanceMethod yX11_fault ∈ jTW := jTW_mem (k := 942) (by decide +kernel) rfl
theorem se_X11_fault : Cond.selects yX11_fault.cls yX11_fault yX11_fault ∈ jTW := jTW_mem (k := 943) (by decide +kernel) rfl
theorem lk_X11_30 : Cond.fieldLink RX11 30 (TX11 4).1 (TX11 4).2.1 (TX11 4).2.2.1 ∈ jTW := jTW_mem (k := 611) (by decide +kernel) rfl
theorem lk_X11_209 : Cond.fieldLink RX11 209 (TX6 3).1 (TX6 3).2.1 (TX6 3).2.2.1 ∈ jTW := jTW_mem (k := 251) (by decide +kernel) rfl
theorem lk_X11_206 : Cond.fieldLink RX11 206 (TX6 2).1 (TX6 2).2.1 (TX6 2).2.2.1 ∈ jTW := jTW_mem (k := 249) (by decide +kernel) rfl
theorem d_X11_fault_0 : decode (D_X11_fault).2.1 0 = .ok (.iload_n 1, 1) := by decide +kernel
theorem d_X11_fault_1 : decode (D_X11_fault).2.1 1 = .ok (.ifCond .ne 11, 3) := by decide +kernel
theorem d_X11_fault_4 : decode (D_X11_fault).2.1 4 = .ok (.aload_n 0, 1) := by decide +kernel
theorem d_X11_fault_5 : decode (D_X11_fault).2.1 5 = .ok (.getfield 30, 3) := by decide +kernel
theorem d_X11_fault_8 : decode (D_X11_fault).2.1 8 = .ok (.getfield 206, 3) := by decide +kernel
theorem d_X11_fault_11 : decode (D_X11_fault).2.1 11 = .ok (.ireturn, 1) := by decide +kernel
theorem d_X11_fault_12 : decode (D_X11_fault).2.1 12 = .ok (.iload_n 1, 1) := by decide +kernel
theorem d_X11_fault_13 : decode (D_X11_fault).2.1 13 = .ok (.iconst 1, 1) := by decide +kernel
theorem d_X11_fault_14 : decode (D_X11_fault).2.1 14 = .ok (.if_icmp .ne 13, 3) := by decide +kernel
theorem d_X11_fault_17 : decode (D_X11_fault).2.1 17 = .ok (.aload_n 0, 1) := by decide +kernel
theorem d_X11_fault_18 : decode (D_X11_fault).2.1 18 = .ok (.getfield 30, 3) := by decide +kernel
theorem d_X11_fault_21 : decode (D_X11_fault).2.1 21 = .ok (.getfield 209, 3) := by decide +kernel
theorem d_X11_fault_24 : decode (D_X11_fault).2.1 24 = .ok (.goto 4, 3) := by decide +kernel
theorem d_X11_fault_27 : decode (D_X11_fault).2.1 27 = .ok (.iconst (-1), 1) := by decide +kernel
theorem d_X11_fault_28 : decode (D_X11_fault).2.1 28 = .ok (.ireturn, 1) := by decide +kernel
def f_X11_fault (n : Nat) (x1 : Int) (M : JMem) : Option (Int × JMem) := if jw x1 = 0 then (some ((M 9 2), M)) else (if jw x1 = jw 1 then (some ((M 9 3), M)) else (some ((-1), M)))
set_option maxRecDepth 4000 in
theorem t_X11_fault {g : JG} {ad : Nat → Nat} (hs : jStr g ad) (n : Nat) (x1 : Int) (M : JMem) : jB g D_X11_fault ad 0 [some (.ref 0), some (ji x1)] [] M (f_X11_fault n x1 M) := by
  unfold f_X11_fault
  refine jo_iload 1 d_X11_fault_0 rfl rfl ?_
  refine jo_if_ne 12 d_X11_fault_1 (by decide) ?_ ?_
  · skip
    refine jo_iload 1 d_X11_fault_12 rfl rfl ?_
    refine jo_iconst 1 d_X11_fault_13 ?_
    refine jo_icmp_ne 27 d_X11_fault_14 (by decide) ?_ ?_
    · skip
      refine jo_iconst (-1) d_X11_fault_27 ?_
      exact jo_iret rfl d_X11_fault_28
    · skip
      refine jo_aload 0 d_X11_fault_17 rfl rfl ?_
      refine jo_getR (k := 4) cl_11 (Nat.le_of_ble_eq_true rfl) lk_X11_30 rfl kc_0 kr_0_4 d_X11_fault_18 ?_
      refine jo_getI (k := 3) cl_6 (Nat.le_of_ble_eq_true rfl) lk_X11_209 (Or.inl rfl) kc_9 d_X11_fault_21 ?_
      refine jo_goto 28 d_X11_fault_24 (by decide) ?_
      exact jo_iret rfl d_X11_fault_28
  · skip
    refine jo_aload 0 d_X11_fault_4 rfl rfl ?_
    refine jo_getR (k := 4) cl_11 (Nat.le_of_ble_eq_true rfl) lk_X11_30 rfl kc_0 kr_0_4 d_X11_fault_5 ?_
    refine jo_getI (k := 2) cl_6 (Nat.le_of_ble_eq_true rfl) lk_X11_206 (Or.inl rfl) kc_9 d_X11_fault_8 ?_
    exact jo_iret rfl d_X11_fault_11
theorem m_X11_fault {g : JG} {ad : Nat → Nat} (hs : jStr g ad) (n : Nat) (x1 : Int) (M : JMem) : jMet g jNN ad jR D_X11_fault yX11_fault [.ref 0, ji x1] M (f_X11_fault n x1 M) :=
  jMet.of (lo0 := [some (.ref 0), some (ji x1)]) (by decide) rfl rfl (Nat.le_of_ble_eq_true rfl) (And.intro rfl (And.intro rfl True.intro)) (t_X11_fault hs n x1 M)
/-! CageLeave.feed(IIIII)I -/
def D_X11_feed : JD := (RX11, cX11_feed, 6, some .int, "feed", { frames := 1, cells := 0, slots := 0, locals := 22 })
theorem ok_X11_feed : jOk D_X11_feed yX11_feed 5 := ⟨jTW_mem (k := 743) (by decide +kernel) rfl, jTW_mem (k := 135) (by decide +kernel) rfl, ⟨by decide +kernel, by decide +kernel⟩, by decide +kernel, rfl, rfl⟩
theorem in_X11_feed : Cond.instanceMethod yX11_feed ∈ jTW := jTW_mem (k := 741) (by decide +kernel) rfl
theorem se_X11_feed : Cond.selects yX11_feed.cls yX11_feed yX11_feed ∈ jTW := jTW_mem (k := 742) (by decide +kernel) rfl
theorem lk_X11_168 : Cond.fieldLink RX11 168 (TX6 1).1 (TX6 1).2.1 (TX6 1).2.2.1 ∈ jTW := jTW_mem (k := 245) (by decide +kernel) rfl
theorem lm_X11_171 : Cond.methodLink RX11 171 yX6_add ∈ jTW := jTW_mem (k := 744) (by decide +kernel) rfl
theorem d_X11_feed_0 : decode (D_X11_feed).2.1 0 = .ok (.aload_n 0, 1) := by decide +kernel
theorem d_X11_feed_1 : decode (D_X11_feed).2.1 1 = .ok (.getfield 30, 3) := by decide +kernel
theorem d_X11_feed_4 : decode (D_X11_feed).2.1 4 = .ok (.getfield 168, 3) := by decide +kernel
theorem d_X11_feed_7 : decode (D_X11_feed).2.1 7 = .ok (.bipush 20, 2) := by decide +kernel
theorem d_X11_feed_9 : decode (D_X11_feed).2.1 9 = .ok (.iadd, 1) := by decide +kernel
theorem d_X11_feed_10 : decode (D_X11_feed).2.1 10 = .ok (.sipush 900, 3) := by decide +kernel
theorem d_X11_feed_13 : decode (D_X11_feed).2.1 13 = .ok (.if_icmp .le 5, 3) := by decide +kernel
theorem d_X11_feed_16 : decode (D_X11_feed).2.1 16 = .ok (.iconst (-1), 1) := by decide +kernel
theorem d_X11_feed_17 : decode (D_X11_feed).2.1 17 = .ok (.ireturn, 1) := by decide +kernel
theorem d_X11_feed_18 : decode (D_X11_feed).2.1 18 = .ok (.aload_n 0, 1) := by decide +kernel
theorem d_X11_feed_19 : decode (D_X11_feed).2.1 19 = .ok (.getfield 30, 3) := by decide +kernel
theorem d_X11_feed_22 : decode (D_X11_feed).2.1 22 = .ok (.iload_n 1, 1) := by decide +kernel
theorem d_X11_feed_23 : decode (D_X11_feed).2.1 23 = .ok (.invokevirtual 171, 3) := by decide +kernel
theorem d_X11_feed_26 : decode (D_X11_feed).2.1 26 = .ok (.aload_n 0, 1) := by decide +kernel
theorem d_X11_feed_27 : decode (D_X11_feed).2.1 27 = .ok (.getfield 30, 3) := by decide +kernel
theorem d_X11_feed_30 : decode (D_X11_feed).2.1 30 = .ok (.iload_n 2, 1) := by decide +kernel
theorem d_X11_feed_31 : decode (D_X11_feed).2.1 31 = .ok (.invokevirtual 171, 3) := by decide +kernel
theorem d_X11_feed_34 : decode (D_X11_feed).2.1 34 = .ok (.aload_n 0, 1) := by decide +kernel
theorem d_X11_feed_35 : decode (D_X11_feed).2.1 35 = .ok (.getfield 30, 3) := by decide +kernel
theorem d_X11_feed_38 : decode (D_X11_feed).2.1 38 = .ok (.iload_n 3, 1) := by decide +kernel
theorem d_X11_feed_39 : decode (D_X11_feed).2.1 39 = .ok (.invokevirtual 171, 3) := by decide +kernel
theorem d_X11_feed_42 : decode (D_X11_feed).2.1 42 = .ok (.aload_n 0, 1) := by decide +kernel
theorem d_X11_feed_43 : decode (D_X11_feed).2.1 43 = .ok (.getfield 30, 3) := by decide +kernel
theorem d_X11_feed_46 : decode (D_X11_feed).2.1 46 = .ok (.iload 4, 2) := by decide +kernel
theorem d_X11_feed_48 : decode (D_X11_feed).2.1 48 = .ok (.invokevirtual 171, 3) := by decide +kernel
theorem d_X11_feed_51 : decode (D_X11_feed).2.1 51 = .ok (.aload_n 0, 1) := by decide +kernel
theorem d_X11_feed_52 : decode (D_X11_feed).2.1 52 = .ok (.getfield 30, 3) := by decide +kernel
theorem d_X11_feed_55 : decode (D_X11_feed).2.1 55 = .ok (.iload 5, 2) := by decide +kernel
theorem d_X11_feed_57 : decode (D_X11_feed).2.1 57 = .ok (.invokevirtual 171, 3) := by decide +kernel
theorem d_X11_feed_60 : decode (D_X11_feed).2.1 60 = .ok (.aload_n 0, 1) := by decide +kernel
theorem d_X11_feed_61 : decode (D_X11_feed).2.1 61 = .ok (.getfield 30, 3) := by decide +kernel
theorem d_X11_feed_64 : decode (D_X11_feed).2.1 64 = .ok (.getfield 168, 3) := by decide +kernel
theorem d_X11_feed_67 : decode (D_X11_feed).2.1 67 = .ok (.ireturn, 1) := by decide +kernel
def f_X11_feed (n : Nat) (x1 : Int) (x2 : Int) (x3 : Int) (x4 : Int) (x5 : Int) (M : JMem) : Option (Int × JMem) := if jw ((M 9 1) + 20) ≤ jw 900 then (bnd (f_X6_add n x1 M) fun _ M2 => bnd (f_X6_add n x2 M2) fun _ M4 => bnd (f_X6_add n x3 M4) fun _ M6 => bnd (f_X6_add n x4 M6) fun _ M8 => bnd (f_X6_add n x5 M8) fun _ M10 => some ((M10 9 1), M10)) else (some ((-1), M))
set_option maxRecDepth 4000 in
theorem t_X11_feed {g : JG} {ad : Nat → Nat} (hs : jStr g ad) (n : Nat) (x1 : Int) (x2 : Int) (x3 : Int) (x4 : Int) (x5 : Int) (M : JMem) : jB g D_X11_feed ad 0 [some (.ref 0), some (ji x1), some (ji x2), some (ji x3), some (ji x4), some (ji x5)] [] M (f_X11_feed n x1 x2 x3 x4 x5 M) := by
  unfold f_X11_feed
  refine jo_aload 0 d_X11_feed_0 rfl rfl ?_
  refine jo_getR (k := 4) cl_11 (Nat.le_of_ble_eq_true rfl) lk_X11_30 rfl kc_0 kr_0_4 d_X11_feed_1 ?_
  refine jo_getI (k := 1) cl_6 (Nat.le_of_ble_eq_true rfl) lk_X11_168 (Or.inl rfl) kc_9 d_X11_feed_4 ?_
  refine jo_bipush 20 d_X11_feed_7 (by decide) ?_
  refine jo_iadd d_X11_feed_9 ?_
  refine jo_sipush 900 d_X11_feed_10 (by decide) ?_
  refine jo_icmp_le 18 d_X11_feed_13 (by decide) ?_ ?_
  · skip
    refine jo_aload 0 d_X11_feed_18 rfl rfl ?_
    refine jo_getR (k := 4) cl_11 (Nat.le_of_ble_eq_true rfl) lk_X11_30 rfl kc_0 kr_0_4 d_X11_feed_19 ?_
    refine jo_iload 1 d_X11_feed_22 rfl rfl ?_
    refine jo_callV (st := []) (m_X6_add hs n x1 M) ok_X6_add (And.intro (Nat.le_of_ble_eq_true rfl) (Nat.le_of_ble_eq_true rfl)) lm_X11_171 in_X6_add se_X6_add rfl kc_9 rfl rfl (And.intro (Nat.zero_le _) (Nat.zero_le _)) rfl (Nat.le_of_ble_eq_true rfl) d_X11_feed_23 (fun _ M2 => ?_)
    refine jo_aload 0 d_X11_feed_26 rfl rfl ?_
    refine jo_getR (k := 4) cl_11 (Nat.le_of_ble_eq_true rfl) lk_X11_30 rfl kc_0 kr_0_4 d_X11_feed_27 ?_
    refine jo_iload 2 d_X11_feed_30 rfl rfl ?_
    refine jo_callV (st := []) (m_X6_add hs n x2 M2) ok_X6_add (And.intro (Nat.le_of_ble_eq_true rfl) (Nat.le_of_ble_eq_true rfl)) lm_X11_171 in_X6_add se_X6_add rfl kc_9 rfl rfl (And.intro (Nat.zero_le _) (Nat.zero_le _)) rfl (Nat.le_of_ble_eq_true rfl) d_X11_feed_31 (fun _ M4 => ?_)
    refine jo_aload 0 d_X11_feed_34 rfl rfl ?_
    refine jo_getR (k := 4) cl_11 (Nat.le_of_ble_eq_true rfl) lk_X11_30 rfl kc_0 kr_0_4 d_X11_feed_35 ?_
    refine jo_iload 3 d_X11_feed_38 rfl rfl ?_
    refine jo_callV (st := []) (m_X6_add hs n x3 M4) ok_X6_add (And.intro (Nat.le_of_ble_eq_true rfl) (Nat.le_of_ble_eq_true rfl)) lm_X11_171 in_X6_add se_X6_add rfl kc_9 rfl rfl (And.intro (Nat.zero_le _) (Nat.zero_le _)) rfl (Nat.le_of_ble_eq_true rfl) d_X11_feed_39 (fun _ M6 => ?_)
    refine jo_aload 0 d_X11_feed_42 rfl rfl ?_
    refine jo_getR (k := 4) cl_11 (Nat.le_of_ble_eq_true rfl) lk_X11_30 rfl kc_0 kr_0_4 d_X11_feed_43 ?_
    refine jo_iloadW 4 d_X11_feed_46 rfl ?_
    refine jo_callV (st := []) (m_X6_add hs n x4 M6) ok_X6_add (And.intro (Nat.le_of_ble_eq_true rfl) (Nat.le_of_ble_eq_true rfl)) lm_X11_171 in_X6_add se_X6_add rfl kc_9 rfl rfl (And.intro (Nat.zero_le _) (Nat.zero_le _)) rfl (Nat.le_of_ble_eq_true rfl) d_X11_feed_48 (fun _ M8 => ?_)
    refine jo_aload 0 d_X11_feed_51 rfl rfl ?_
    refine jo_getR (k := 4) cl_11 (Nat.le_of_ble_eq_true rfl) lk_X11_30 rfl kc_0 kr_0_4 d_X11_feed_52 ?_
    refine jo_iloadW 5 d_X11_feed_55 rfl ?_
    refine jo_callV (st := []) (m_X6_add hs n x5 M8) ok_X6_add (And.intro (Nat.le_of_ble_eq_true rfl) (Nat.le_of_ble_eq_true rfl)) lm_X11_171 in_X6_add se_X6_add rfl kc_9 rfl rfl (And.intro (Nat.zero_le _) (Nat.zero_le _)) rfl (Nat.le_of_ble_eq_true rfl) d_X11_feed_57 (fun _ M10 => ?_)
    refine jo_aload 0 d_X11_feed_60 rfl rfl ?_
    refine jo_getR (k := 4) cl_11 (Nat.le_of_ble_eq_true rfl) lk_X11_30 rfl kc_0 kr_0_4 d_X11_feed_61 ?_
    refine jo_getI (k := 1) cl_6 (Nat.le_of_ble_eq_true rfl) lk_X11_168 (Or.inl rfl) kc_9 d_X11_feed_64 ?_
    exact jo_iret rfl d_X11_feed_67
  · skip
    refine jo_iconst (-1) d_X11_feed_16 ?_
    exact jo_iret rfl d_X11_feed_17
theorem m_X11_feed {g : JG} {ad : Nat → Nat} (hs : jStr g ad) (n : Nat) (x1 : Int) (x2 : Int) (x3 : Int) (x4 : Int) (x5 : Int) (M : JMem) : jMet g jNN ad jR D_X11_feed yX11_feed [.ref 0, ji x1, ji x2, ji x3, ji x4, ji x5] M (f_X11_feed n x1 x2 x3 x4 x5 M) :=
  jMet.of (lo0 := [some (.ref 0), some (ji x1), some (ji x2), some (ji x3), some (ji x4), some (ji x5)]) (by decide) rfl rfl (Nat.le_of_ble_eq_true rfl) (And.intro rfl (And.intro rfl (And.intro rfl (And.intro rfl (And.intro rfl (And.intro rfl True.intro)))))) (t_X11_feed hs n x1 x2 x3 x4 x5 M)
/-! CageLeave.fitsParrot(II)Z -/
def D_X11_fitsParrot : JD := (RX11, cX11_fitsParrot, 3, some .boolean, "fitsParrot", { frames := 5, cells := 0, slots := 0, locals := 130 })
theorem ok_X11_fitsParrot : jOk D_X11_fitsParrot yX11_fitsParrot 2 := ⟨jTW_mem (k := 1287) (by decide +kernel) rfl, jTW_mem (k := 135) (by decide +kernel) rfl, ⟨by decide +kernel, by decide +kernel⟩, by decide +kernel, rfl, rfl⟩
theorem in_X11_fitsParrot : Cond.instanceMethod yX11_fitsParrot ∈ jTW := jTW_mem (k := 1286) (by decide +kernel) rfl
theorem se_X11_fitsParrot : Cond.selects yX11_fitsParrot.cls yX11_fitsParrot yX11_fitsParrot ∈ jTW := jTW_mem (k := 41) (by decide +kernel) rfl
theorem lk_X11_106 : Cond.fieldLink RX11 106 (TX11 17).1 (TX11 17).2.1 (TX11 17).2.2.1 ∈ jTW := jTW_mem (k := 624) (by decide +kernel) rfl
theorem lm_X11_399 : Cond.methodLink RX11 399 yX3_slipsIf ∈ jTW := jTW_mem (k := 1288) (by decide +kernel) rfl
theorem d_X11_fitsParrot_0 : decode (D_X11_fitsParrot).2.1 0 = .ok (.iload_n 1, 1) := by decide +kernel
theorem d_X11_fitsParrot_1 : decode (D_X11_fitsParrot).2.1 1 = .ok (.aload_n 0, 1) := by decide +kernel
theorem d_X11_fitsParrot_2 : decode (D_X11_fitsParrot).2.1 2 = .ok (.getfield 60, 3) := by decide +kernel
theorem d_X11_fitsParrot_5 : decode (D_X11_fitsParrot).2.1 5 = .ok (.getfield 230, 3) := by decide +kernel
theorem d_X11_fitsParrot_8 : decode (D_X11_fitsParrot).2.1 8 = .ok (.iand, 1) := by decide +kernel
theorem d_X11_fitsParrot_9 : decode (D_X11_fitsParrot).2.1 9 = .ok (.ifCond .ne 31, 3) := by decide +kernel
theorem d_X11_fitsParrot_12 : decode (D_X11_fitsParrot).2.1 12 = .ok (.aload_n 0, 1) := by decide +kernel
theorem d_X11_fitsParrot_13 : decode (D_X11_fitsParrot).2.1 13 = .ok (.getfield 106, 3) := by decide +kernel
theorem d_X11_fitsParrot_16 : decode (D_X11_fitsParrot).2.1 16 = .ok (.aload_n 0, 1) := by decide +kernel
theorem d_X11_fitsParrot_17 : decode (D_X11_fitsParrot).2.1 17 = .ok (.getfield 53, 3) := by decide +kernel
theorem d_X11_fitsParrot_20 : decode (D_X11_fitsParrot).2.1 20 = .ok (.aload_n 0, 1) := by decide +kernel
theorem d_X11_fitsParrot_21 : decode (D_X11_fitsParrot).2.1 21 = .ok (.getfield 60, 3) := by decide +kernel
theorem d_X11_fitsParrot_24 : decode (D_X11_fitsParrot).2.1 24 = .ok (.aload_n 0, 1) := by decide +kernel
theorem d_X11_fitsParrot_25 : decode (D_X11_fitsParrot).2.1 25 = .ok (.getfield 86, 3) := by decide +kernel
theorem d_X11_fitsParrot_28 : decode (D_X11_fitsParrot).2.1 28 = .ok (.iload_n 1, 1) := by decide +kernel
theorem d_X11_fitsParrot_29 : decode (D_X11_fitsParrot).2.1 29 = .ok (.invokevirtual 399, 3) := by decide +kernel
theorem d_X11_fitsParrot_32 : decode (D_X11_fitsParrot).2.1 32 = .ok (.iload_n 2, 1) := by decide +kernel
theorem d_X11_fitsParrot_33 : decode (D_X11_fitsParrot).2.1 33 = .ok (.if_icmp .gt 7, 3) := by decide +kernel
theorem d_X11_fitsParrot_36 : decode (D_X11_fitsParrot).2.1 36 = .ok (.iconst 1, 1) := by decide +kernel
theorem d_X11_fitsParrot_37 : decode (D_X11_fitsParrot).2.1 37 = .ok (.goto 4, 3) := by decide +kernel
theorem d_X11_fitsParrot_40 : decode (D_X11_fitsParrot).2.1 40 = .ok (.iconst 0, 1) := by decide +kernel
theorem d_X11_fitsParrot_41 : decode (D_X11_fitsParrot).2.1 41 = .ok (.ireturn, 1) := by decide +kernel
def f_X11_fitsParrot (n : Nat) (x1 : Int) (x2 : Int) (M : JMem) : Option (Int × JMem) := if jw (jand x1 (M 52 3)) = 0 then (bnd (f_X3_slipsIf n 40 52 68 x1 M) fun r1 M2 => if jw x2 < jw r1 then (some (0, M2)) else (some (1, M2))) else (some (0, M))
set_option maxRecDepth 4000 in
theorem t_X11_fitsParrot {g : JG} {ad : Nat → Nat} (hs : jStr g ad) (n : Nat) (x1 : Int) (x2 : Int) (M : JMem) : jB g D_X11_fitsParrot ad 0 [some (.ref 0), some (ji x1), some (ji x2)] [] M (f_X11_fitsParrot n x1 x2 M) := by
  unfold f_X11_fitsParrot
  refine jo_iload 1 d_X11_fitsParrot_0 rfl rfl ?_
  refine jo_aload 0 d_X11_fitsParrot_1 rfl rfl ?_
  refine jo_getR (k := 8) cl_11 (Nat.le_of_ble_eq_true rfl) lk_X11_60 rfl kc_0 kr_0_8 d_X11_fitsParrot_2 ?_
  refine jo_getI (k := 3) cl_1 (Nat.le_of_ble_eq_true rfl) lk_X11_230 (Or.inl rfl) kc_52 d_X11_fitsParrot_5 ?_
  refine jo_iand d_X11_fitsParrot_8 ?_
  refine jo_if_ne 40 d_X11_fitsParrot_9 (by decide) ?_ ?_
  · skip
    refine jo_iconst 0 d_X11_fitsParrot_40 ?_
    exact jo_zret rfl (by decide) d_X11_fitsParrot_41
  · skip
    refine jo_aload 0 d_X11_fitsParrot_12 rfl rfl ?_
    refine jo_getR (k := 17) cl_11 (Nat.le_of_ble_eq_true rfl) lk_X11_106 rfl kc_0 kr_0_17 d_X11_fitsParrot_13 ?_
    refine jo_aload 0 d_X11_fitsParrot_16 rfl rfl ?_
    refine jo_getR (k := 7) cl_11 (Nat.le_of_ble_eq_true rfl) lk_X11_53 rfl kc_0 kr_0_7 d_X11_fitsParrot_17 ?_
    refine jo_aload 0 d_X11_fitsParrot_20 rfl rfl ?_
    refine jo_getR (k := 8) cl_11 (Nat.le_of_ble_eq_true rfl) lk_X11_60 rfl kc_0 kr_0_8 d_X11_fitsParrot_21 ?_
    refine jo_aload 0 d_X11_fitsParrot_24 rfl rfl ?_
    refine jo_getR (k := 14) cl_11 (Nat.le_of_ble_eq_true rfl) lk_X11_86 rfl kc_0 kr_0_14 d_X11_fitsParrot_25 ?_
    refine jo_iload 1 d_X11_fitsParrot_28 rfl rfl ?_
    refine jo_callV (st := []) (m_X3_slipsIf hs n 40 52 68 x1 kc_40 kc_52 kc_68 M) ok_X3_slipsIf (And.intro (Nat.le_of_ble_eq_true rfl) (Nat.le_of_ble_eq_true rfl)) lm_X11_399 in_X3_slipsIf se_X3_slipsIf rfl kc_82 rfl rfl (And.intro (Nat.zero_le _) (Nat.zero_le _)) rfl (Nat.le_of_ble_eq_true rfl) d_X11_fitsParrot_29 (fun r1 M2 => ?_)
    refine jo_iload 2 d_X11_fitsParrot_32 rfl rfl ?_
    refine jo_icmp_gt 40 d_X11_fitsParrot_33 (by decide) ?_ ?_
    · skip
      refine jo_iconst 0 d_X11_fitsParrot_40 ?_
      exact jo_zret rfl (by decide) d_X11_fitsParrot_41
    · skip
      refine jo_iconst 1 d_X11_fitsParrot_36 ?_
      refine jo_goto 41 d_X11_fitsParrot_37 (by decide) ?_
      exact jo_zret rfl (by decide) d_X11_fitsParrot_41
theorem m_X11_fitsParrot {g : JG} {ad : Nat → Nat} (hs : jStr g ad) (n : Nat) (x1 : Int) (x2 : Int) (M : JMem) : jMet g jNN ad jR D_X11_fitsParrot yX11_fitsParrot [.ref 0, ji x1, ji x2] M (f_X11_fitsParrot n x1 x2 M) :=
  jMet.of (lo0 := [some (.ref 0), some (ji x1), some (ji x2)]) (by decide) rfl rfl (Nat.le_of_ble_eq_true rfl) (And.intro rfl (And.intro rfl (And.intro rfl True.intro))) (t_X11_fitsParrot hs n x1 x2 M)
/-! CageLeave.isTrain(I)Z -/
def D_X11_isTrain : JD := (RX11, cX11_isTrain, 2, some .boolean, "isTrain", { frames := 0, cells := 0, slots := 0, locals := 0 })
theorem ok_X11_isTrain : jOk D_X11_isTrain yX11_isTrain 1 := ⟨jTW_mem (k := 964) (by decide +kernel) rfl, jTW_mem (k := 135) (by decide +kernel) rfl, ⟨by decide +kernel, by decide +kernel⟩, by decide +kernel, rfl, rfl⟩
theorem in_X11_isTrain : Cond.instanceMethod yX11_isTrain ∈ jTW := jTW_mem (k := 963) (by decide +kernel) rfl
theorem se_X11_isTrain : Cond.selects yX11_isTrain.cls yX11_isTrain yX11_isTrain ∈ jTW := jTW_mem (k := 19) (by decide +kernel) rfl
theorem d_X11_isTrain_0 : decode (D_X11_isTrain).2.1 0 = .ok (.iload_n 1, 1) := by decide +kernel
theorem d_X11_isTrain_1 : decode (D_X11_isTrain).2.1 1 = .ok (.ifCond .lt 18, 3) := by decide +kernel
theorem d_X11_isTrain_4 : decode (D_X11_isTrain).2.1 4 = .ok (.iload_n 1, 1) := by decide +kernel
theorem d_X11_isTrain_5 : decode (D_X11_isTrain).2.1 5 = .ok (.aload_n 0, 1) := by decide +kernel
theorem d_X11_isTrain_6 : decode (D_X11_isTrain).2.1 6 = .ok (.getfield 53, 3) := by decide +kernel
theorem d_X11_isTrain_9 : decode (D_X11_isTrain).2.1 9 = .ok (.getfield 215, 3) := by decide +kernel
theorem d_X11_isTrain_12 : decode (D_X11_isTrain).2.1 12 = .ok (.if_icmp .ge 7, 3) := by decide +kernel
theorem d_X11_isTrain_15 : decode (D_X11_isTrain).2.1 15 = .ok (.iconst 1, 1) := by decide +kernel
theorem d_X11_isTrain_16 : decode (D_X11_isTrain).2.1 16 = .ok (.goto 4, 3) := by decide +kernel
theorem d_X11_isTrain_19 : decode (D_X11_isTrain).2.1 19 = .ok (.iconst 0, 1) := by decide +kernel
theorem d_X11_isTrain_20 : decode (D_X11_isTrain).2.1 20 = .ok (.ireturn, 1) := by decide +kernel
def f_X11_isTrain (n : Nat) (x1 : Int) (M : JMem) : Option (Int × JMem) := if jw x1 < 0 then (some (0, M)) else (if jw (M 40 1) ≤ jw x1 then (some (0, M)) else (some (1, M)))
set_option maxRecDepth 4000 in
theorem t_X11_isTrain {g : JG} {ad : Nat → Nat} (hs : jStr g ad) (n : Nat) (x1 : Int) (M : JMem) : jB g D_X11_isTrain ad 0 [some (.ref 0), some (ji x1)] [] M (f_X11_isTrain n x1 M) := by
  unfold f_X11_isTrain
  refine jo_iload 1 d_X11_isTrain_0 rfl rfl ?_
  refine jo_if_lt 19 d_X11_isTrain_1 (by decide) ?_ ?_
  · skip
    refine jo_iconst 0 d_X11_isTrain_19 ?_
    exact jo_zret rfl (by decide) d_X11_isTrain_20
  · skip
    refine jo_iload 1 d_X11_isTrain_4 rfl rfl ?_
    refine jo_aload 0 d_X11_isTrain_5 rfl rfl ?_
    refine jo_getR (k := 7) cl_11 (Nat.le_of_ble_eq_true rfl) lk_X11_53 rfl kc_0 kr_0_7 d_X11_isTrain_6 ?_
    refine jo_getI (k := 1) cl_4 (Nat.le_of_ble_eq_true rfl) lk_X11_215 (Or.inl rfl) kc_40 d_X11_isTrain_9 ?_
    refine jo_icmp_ge 19 d_X11_isTrain_12 (by decide) ?_ ?_
    · skip
      refine jo_iconst 0 d_X11_isTrain_19 ?_
      exact jo_zret rfl (by decide) d_X11_isTrain_20
    · skip
      refine jo_iconst 1 d_X11_isTrain_15 ?_
      refine jo_goto 20 d_X11_isTrain_16 (by decide) ?_
      exact jo_zret rfl (by decide) d_X11_isTrain_20
theorem m_X11_isTrain {g : JG} {ad : Nat → Nat} (hs : jStr g ad) (n : Nat) (x1 : Int) (M : JMem) : jMet g jNN ad jR D_X11_isTrain yX11_isTrain [.ref 0, ji x1] M (f_X11_isTrain n x1 M) :=
  jMet.of (lo0 := [some (.ref 0), some (ji x1)]) (by decide) rfl rfl (Nat.le_of_ble_eq_true rfl) (And.intro rfl (And.intro rfl True.intro)) (t_X11_isTrain hs n x1 M)
/-! CageLeave.halt(IZ)Z -/
def D_X11_halt : JD := (RX11, cX11_halt, 3, some .boolean, "halt", { frames := 1, cells := 0, slots := 0, locals := 21 })
theorem ok_X11_halt : jOk D_X11_halt yX11_halt 2 := ⟨jTW_mem (k := 1068) (by decide +kernel) rfl, jTW_mem (k := 135) (by decide +kernel) rfl, ⟨by decide +kernel, by decide +kernel⟩, by decide +kernel, rfl, rfl⟩
theorem in_X11_halt : Cond.instanceMethod yX11_halt ∈ jTW := jTW_mem (k := 1066) (by decide +kernel) rfl
theorem se_X11_halt : Cond.selects yX11_halt.cls yX11_halt yX11_halt ∈ jTW := jTW_mem (k := 1067) (by decide +kernel) rfl
theorem lm_X11_243 : Cond.methodLink RX11 243 yX11_isTrain ∈ jTW := jTW_mem (k := 961) (by decide +kernel) rfl
theorem lm_X11_320 : Cond.methodLink RX11 320 yX1_turnHalt ∈ jTW := jTW_mem (k := 1069) (by decide +kernel) rfl
theorem d_X11_halt_0 : decode (D_X11_halt).2.1 0 = .ok (.aload_n 0, 1) := by decide +kernel
theorem d_X11_halt_1 : decode (D_X11_halt).2.1 1 = .ok (.iload_n 1, 1) := by decide +kernel
theorem d_X11_halt_2 : decode (D_X11_halt).2.1 2 = .ok (.invokevirtual 243, 3) := by decide +kernel
theorem d_X11_halt_5 : decode (D_X11_halt).2.1 5 = .ok (.ifCond .ne 9, 3) := by decide +kernel
theorem d_X11_halt_8 : decode (D_X11_halt).2.1 8 = .ok (.aload_n 0, 1) := by decide +kernel
theorem d_X11_halt_9 : decode (D_X11_halt).2.1 9 = .ok (.iconst 1, 1) := by decide +kernel
theorem d_X11_halt_10 : decode (D_X11_halt).2.1 10 = .ok (.invokevirtual 124, 3) := by decide +kernel
theorem d_X11_halt_13 : decode (D_X11_halt).2.1 13 = .ok (.ireturn, 1) := by decide +kernel
theorem d_X11_halt_14 : decode (D_X11_halt).2.1 14 = .ok (.aload_n 0, 1) := by decide +kernel
theorem d_X11_halt_15 : decode (D_X11_halt).2.1 15 = .ok (.getfield 60, 3) := by decide +kernel
theorem d_X11_halt_18 : decode (D_X11_halt).2.1 18 = .ok (.getfield 237, 3) := by decide +kernel
theorem d_X11_halt_21 : decode (D_X11_halt).2.1 21 = .ok (.iload_n 1, 1) := by decide +kernel
theorem d_X11_halt_22 : decode (D_X11_halt).2.1 22 = .ok (.invokestatic 310, 3) := by decide +kernel
theorem d_X11_halt_25 : decode (D_X11_halt).2.1 25 = .ok (.iload_n 2, 1) := by decide +kernel
theorem d_X11_halt_26 : decode (D_X11_halt).2.1 26 = .ok (.if_icmp .ne 10, 3) := by decide +kernel
theorem d_X11_halt_29 : decode (D_X11_halt).2.1 29 = .ok (.aload_n 0, 1) := by decide +kernel
theorem d_X11_halt_30 : decode (D_X11_halt).2.1 30 = .ok (.bipush 7, 2) := by decide +kernel
theorem d_X11_halt_32 : decode (D_X11_halt).2.1 32 = .ok (.invokevirtual 124, 3) := by decide +kernel
theorem d_X11_halt_35 : decode (D_X11_halt).2.1 35 = .ok (.ireturn, 1) := by decide +kernel
theorem d_X11_halt_36 : decode (D_X11_halt).2.1 36 = .ok (.aload_n 0, 1) := by decide +kernel
theorem d_X11_halt_37 : decode (D_X11_halt).2.1 37 = .ok (.getfield 60, 3) := by decide +kernel
theorem d_X11_halt_40 : decode (D_X11_halt).2.1 40 = .ok (.iload_n 1, 1) := by decide +kernel
theorem d_X11_halt_41 : decode (D_X11_halt).2.1 41 = .ok (.invokevirtual 320, 3) := by decide +kernel
theorem d_X11_halt_44 : decode (D_X11_halt).2.1 44 = .ok (.aload_n 0, 1) := by decide +kernel
theorem d_X11_halt_45 : decode (D_X11_halt).2.1 45 = .ok (.invokevirtual 131, 3) := by decide +kernel
theorem d_X11_halt_48 : decode (D_X11_halt).2.1 48 = .ok (.ireturn, 1) := by decide +kernel
def f_X11_halt (n : Nat) (x1 : Int) (x2 : Int) (M : JMem) : Option (Int × JMem) := bnd (f_X11_isTrain n x1 M) fun r1 M2 => if jw r1 = 0 then (bnd (f_X11_deny n 1 M2) fun r11 M12 => chk (jw r11 = 0 ∨ jw r11 = 1) (some (r11, M12))) else (bnd (f_X11_isIn n (M2 52 4) x1 M2) fun r3 M4 => if jw r3 = jw x2 then (bnd (f_X11_deny n 7 M4) fun r9 M10 => chk (jw r9 = 0 ∨ jw r9 = 1) (some (r9, M10))) else (bnd (f_X1_turnHalt n 52 x1 M4) fun _ M6 => bnd (f_X11_allow n M6) fun r7 M8 => chk (jw r7 = 0 ∨ jw r7 = 1) (some (r7, M8))))
set_option maxRecDepth 4000 in
theorem t_X11_halt {g : JG} {ad : Nat → Nat} (hs : jStr g ad) (n : Nat) (x1 : Int) (x2 : Int) (M : JMem) : jB g D_X11_halt ad 0 [some (.ref 0), some (ji x1), some (ji x2)] [] M (f_X11_halt n x1 x2 M) := by
  unfold f_X11_halt
  refine jo_aload 0 d_X11_halt_0 rfl rfl ?_
  refine jo_iload 1 d_X11_halt_1 rfl rfl ?_
  refine jo_callV (st := []) (m_X11_isTrain hs n x1 M) ok_X11_isTrain (And.intro (Nat.le_of_ble_eq_true rfl) (Nat.le_of_ble_eq_true rfl)) lm_X11_243 in_X11_isTrain se_X11_isTrain rfl kc_0 rfl rfl (And.intro (Nat.zero_le _) (Nat.zero_le _)) rfl (Nat.le_of_ble_eq_true rfl) d_X11_halt_2 (fun r1 M2 => ?_)
  refine jo_if_ne 14 d_X11_halt_5 (by decide) ?_ ?_
  · skip
    refine jo_aload 0 d_X11_halt_14 rfl rfl ?_
    refine jo_getR (k := 8) cl_11 (Nat.le_of_ble_eq_true rfl) lk_X11_60 rfl kc_0 kr_0_8 d_X11_halt_15 ?_
    refine jo_getI (k := 4) cl_1 (Nat.le_of_ble_eq_true rfl) lk_X11_237 (Or.inl rfl) kc_52 d_X11_halt_18 ?_
    refine jo_iload 1 d_X11_halt_21 rfl rfl ?_
    refine jo_callS (st := []) (m_X11_isIn hs n (M2 52 4) x1 M2) ok_X11_isIn (And.intro (Nat.le_of_ble_eq_true rfl) (Nat.le_of_ble_eq_true rfl)) lm_X11_310 st_X11_isIn rfl (And.intro (Nat.zero_le _) (Nat.zero_le _)) rfl (Nat.le_of_ble_eq_true rfl) d_X11_halt_22 (fun r3 M4 => ?_)
    refine jo_iload 2 d_X11_halt_25 rfl rfl ?_
    refine jo_icmp_ne 36 d_X11_halt_26 (by decide) ?_ ?_
    · skip
      refine jo_aload 0 d_X11_halt_36 rfl rfl ?_
      refine jo_getR (k := 8) cl_11 (Nat.le_of_ble_eq_true rfl) lk_X11_60 rfl kc_0 kr_0_8 d_X11_halt_37 ?_
      refine jo_iload 1 d_X11_halt_40 rfl rfl ?_
      refine jo_callV (st := []) (m_X1_turnHalt hs n 52 x1 kc_52 M4) ok_X1_turnHalt (And.intro (Nat.le_of_ble_eq_true rfl) (Nat.le_of_ble_eq_true rfl)) lm_X11_320 in_X1_turnHalt se_X1_turnHalt rfl kc_52 rfl rfl (And.intro (Nat.zero_le _) (Nat.zero_le _)) rfl (Nat.le_of_ble_eq_true rfl) d_X11_halt_41 (fun _ M6 => ?_)
      refine jo_aload 0 d_X11_halt_44 rfl rfl ?_
      refine jo_callV (st := []) (m_X11_allow hs n M6) ok_X11_allow (And.intro (Nat.le_of_ble_eq_true rfl) (Nat.le_of_ble_eq_true rfl)) lm_X11_131 in_X11_allow se_X11_allow rfl kc_0 rfl rfl (And.intro (Nat.zero_le _) (Nat.zero_le _)) rfl (Nat.le_of_ble_eq_true rfl) d_X11_halt_45 (fun r7 M8 => ?_)
      exact jo_zretq rfl d_X11_halt_48
    · skip
      refine jo_aload 0 d_X11_halt_29 rfl rfl ?_
      refine jo_bipush 7 d_X11_halt_30 (by decide) ?_
      refine jo_callV (st := []) (m_X11_deny hs n 7 M4) ok_X11_deny (And.intro (Nat.le_of_ble_eq_true rfl) (Nat.le_of_ble_eq_true rfl)) lm_X11_124 in_X11_deny se_X11_deny rfl kc_0 rfl rfl (And.intro (Nat.zero_le _) (Nat.zero_le _)) rfl (Nat.le_of_ble_eq_true rfl) d_X11_halt_32 (fun r9 M10 => ?_)
      exact jo_zretq rfl d_X11_halt_35
  · skip
    refine jo_aload 0 d_X11_halt_8 rfl rfl ?_
    refine jo_iconst 1 d_X11_halt_9 ?_
    refine jo_callV (st := []) (m_X11_deny hs n 1 M2) ok_X11_deny (And.intro (Nat.le_of_ble_eq_true rfl) (Nat.le_of_ble_eq_true rfl)) lm_X11_124 in_X11_deny se_X11_deny rfl kc_0 rfl rfl (And.intro (Nat.zero_le _) (Nat.zero_le _)) rfl (Nat.le_of_ble_eq_true rfl) d_X11_halt_10 (fun r11 M12 => ?_)
    exact jo_zretq rfl d_X11_halt_13
theorem m_X11_halt {g : JG} {ad : Nat → Nat} (hs : jStr g ad) (n : Nat) (x1 : Int) (x2 : Int) (M : JMem) : jMet g jNN ad jR D_X11_halt yX11_halt [.ref 0, ji x1, ji x2] M (f_X11_halt n x1 x2 M) :=
  jMet.of (lo0 := [some (.ref 0), some (ji x1), some (ji x2)]) (by decide) rfl rfl (Nat.le_of_ble_eq_true rfl) (And.intro rfl (And.intro rfl (And.intro rfl True.intro))) (t_X11_halt hs n x1 x2 M)
/-! CageLeave.hour(I)I -/
def D_X11_hour : JD := (RX11, cX11_hour, 2, some .int, "hour", { frames := 4, cells := 0, slots := 0, locals := 95 })
theorem ok_X11_hour : jOk D_X11_hour yX11_hour 1 := ⟨jTW_mem (k := 1010) (by decide +kernel) rfl, jTW_mem (k := 135) (by decide +kernel) rfl, ⟨by decide +kernel, by decide +kernel⟩, by decide +kernel, rfl, rfl⟩
theorem in_X11_hour : Cond.instanceMethod yX11_hour ∈ jTW := jTW_mem (k := 1008) (by decide +kernel) rfl
theorem se_X11_hour : Cond.selects yX11_hour.cls yX11_hour yX11_hour ∈ jTW := jTW_mem (k := 1009) (by decide +kernel) rfl
theorem lk_X11_224 : Cond.fieldLink RX11 224 (TX1 1).1 (TX1 1).2.1 (TX1 1).2.2.1 ∈ jTW := jTW_mem (k := 405) (by decide +kernel) rfl
theorem d_X11_hour_0 : decode (D_X11_hour).2.1 0 = .ok (.iload_n 1, 1) := by decide +kernel
theorem d_X11_hour_1 : decode (D_X11_hour).2.1 1 = .ok (.iconst 1, 1) := by decide +kernel
theorem d_X11_hour_2 : decode (D_X11_hour).2.1 2 = .ok (.if_icmp .lt 9, 3) := by decide +kernel
theorem d_X11_hour_5 : decode (D_X11_hour).2.1 5 = .ok (.iload_n 1, 1) := by decide +kernel
theorem d_X11_hour_6 : decode (D_X11_hour).2.1 6 = .ok (.bipush 64, 2) := by decide +kernel
theorem d_X11_hour_8 : decode (D_X11_hour).2.1 8 = .ok (.if_icmp .le 9, 3) := by decide +kernel
theorem d_X11_hour_11 : decode (D_X11_hour).2.1 11 = .ok (.aload_n 0, 1) := by decide +kernel
theorem d_X11_hour_12 : decode (D_X11_hour).2.1 12 = .ok (.iconst 1, 1) := by decide +kernel
theorem d_X11_hour_13 : decode (D_X11_hour).2.1 13 = .ok (.invokevirtual 143, 3) := by decide +kernel
theorem d_X11_hour_16 : decode (D_X11_hour).2.1 16 = .ok (.ireturn, 1) := by decide +kernel
theorem d_X11_hour_17 : decode (D_X11_hour).2.1 17 = .ok (.aload_n 0, 1) := by decide +kernel
theorem d_X11_hour_18 : decode (D_X11_hour).2.1 18 = .ok (.getfield 60, 3) := by decide +kernel
theorem d_X11_hour_21 : decode (D_X11_hour).2.1 21 = .ok (.getfield 224, 3) := by decide +kernel
theorem d_X11_hour_24 : decode (D_X11_hour).2.1 24 = .ok (.iload_n 1, 1) := by decide +kernel
theorem d_X11_hour_25 : decode (D_X11_hour).2.1 25 = .ok (.iadd, 1) := by decide +kernel
theorem d_X11_hour_26 : decode (D_X11_hour).2.1 26 = .ok (.bipush 64, 2) := by decide +kernel
theorem d_X11_hour_28 : decode (D_X11_hour).2.1 28 = .ok (.if_icmp .le 9, 3) := by decide +kernel
theorem d_X11_hour_31 : decode (D_X11_hour).2.1 31 = .ok (.aload_n 0, 1) := by decide +kernel
theorem d_X11_hour_32 : decode (D_X11_hour).2.1 32 = .ok (.iconst 4, 1) := by decide +kernel
theorem d_X11_hour_33 : decode (D_X11_hour).2.1 33 = .ok (.invokevirtual 143, 3) := by decide +kernel
theorem d_X11_hour_36 : decode (D_X11_hour).2.1 36 = .ok (.ireturn, 1) := by decide +kernel
theorem d_X11_hour_37 : decode (D_X11_hour).2.1 37 = .ok (.aload_n 0, 1) := by decide +kernel
theorem d_X11_hour_38 : decode (D_X11_hour).2.1 38 = .ok (.aload_n 0, 1) := by decide +kernel
theorem d_X11_hour_39 : decode (D_X11_hour).2.1 39 = .ok (.getfield 60, 3) := by decide +kernel
theorem d_X11_hour_42 : decode (D_X11_hour).2.1 42 = .ok (.aload_n 0, 1) := by decide +kernel
theorem d_X11_hour_43 : decode (D_X11_hour).2.1 43 = .ok (.getfield 53, 3) := by decide +kernel
theorem d_X11_hour_46 : decode (D_X11_hour).2.1 46 = .ok (.aload_n 0, 1) := by decide +kernel
theorem d_X11_hour_47 : decode (D_X11_hour).2.1 47 = .ok (.getfield 60, 3) := by decide +kernel
theorem d_X11_hour_50 : decode (D_X11_hour).2.1 50 = .ok (.getfield 224, 3) := by decide +kernel
theorem d_X11_hour_53 : decode (D_X11_hour).2.1 53 = .ok (.iload_n 1, 1) := by decide +kernel
theorem d_X11_hour_54 : decode (D_X11_hour).2.1 54 = .ok (.iadd, 1) := by decide +kernel
theorem d_X11_hour_55 : decode (D_X11_hour).2.1 55 = .ok (.invokevirtual 303, 3) := by decide +kernel
theorem d_X11_hour_58 : decode (D_X11_hour).2.1 58 = .ok (.invokevirtual 193, 3) := by decide +kernel
theorem d_X11_hour_61 : decode (D_X11_hour).2.1 61 = .ok (.ireturn, 1) := by decide +kernel
def f_X11_hour_L11 (n : Nat) (M : JMem) : Option (Int × JMem) := bnd (f_X11_refuse n 1 M) fun r1 M2 => some (r1, M2)
set_option maxRecDepth 4000 in
theorem t_X11_hour_L11 {g : JG} {ad : Nat → Nat} (hs : jStr g ad) (n : Nat) (M : JMem) : jB g D_X11_hour ad 11 [some (.ref 0), none] [] M (f_X11_hour_L11 n M) := by
  unfold f_X11_hour_L11
  refine jo_aload 0 d_X11_hour_11 rfl rfl ?_
  refine jo_iconst 1 d_X11_hour_12 ?_
  refine jo_callV (st := []) (m_X11_refuse hs n 1 M) ok_X11_refuse (And.intro (Nat.le_of_ble_eq_true rfl) (Nat.le_of_ble_eq_true rfl)) lm_X11_143 in_X11_refuse se_X11_refuse rfl kc_0 rfl rfl (And.intro (Nat.zero_le _) (Nat.zero_le _)) rfl (Nat.le_of_ble_eq_true rfl) d_X11_hour_13 (fun r1 M2 => ?_)
  exact jo_iret rfl d_X11_hour_16
def f_X11_hour (n : Nat) (x1 : Int) (M : JMem) : Option (Int × JMem) := if jw x1 < jw 1 then (f_X11_hour_L11 n M) else (if jw x1 ≤ jw 64 then (if jw ((M 52 1) + x1) ≤ jw 64 then (bnd (f_X1_passUntil n 52 40 ((M 52 1) + x1) M) fun r1 M2 => bnd (f_X11_answer n r1 M2) fun r3 M4 => some (r3, M4)) else (bnd (f_X11_refuse n 4 M) fun r5 M6 => some (r5, M6))) else (f_X11_hour_L11 n M))
set_option maxRecDepth 4000 in
theorem t_X11_hour {g : JG} {ad : Nat → Nat} (hs : jStr g ad) (n : Nat) (x1 : Int) (M : JMem) : jB g D_X11_hour ad 0 [some (.ref 0), some (ji x1)] [] M (f_X11_hour n x1 M) := by
  unfold f_X11_hour
  refine jo_iload 1 d_X11_hour_0 rfl rfl ?_
  refine jo_iconst 1 d_X11_hour_1 ?_
  refine jo_icmp_lt 11 d_X11_hour_2 (by decide) ?_ ?_
  · skip
    exact jO.sub (t_X11_hour_L11 hs n M) (And.intro rfl True.intro)
  · skip
    refine jo_iload 1 d_X11_hour_5 rfl rfl ?_
    refine jo_bipush 64 d_X11_hour_6 (by decide) ?_
    refine jo_icmp_le 17 d_X11_hour_8 (by decide) ?_ ?_
    · skip
      refine jo_aload 0 d_X11_hour_17 rfl rfl ?_
      refine jo_getR (k := 8) cl_11 (Nat.le_of_ble_eq_true rfl) lk_X11_60 rfl kc_0 kr_0_8 d_X11_hour_18 ?_
      refine jo_getI (k := 1) cl_1 (Nat.le_of_ble_eq_true rfl) lk_X11_224 (Or.inl rfl) kc_52 d_X11_hour_21 ?_
      refine jo_iload 1 d_X11_hour_24 rfl rfl ?_
      refine jo_iadd d_X11_hour_25 ?_
      refine jo_bipush 64 d_X11_hour_26 (by decide) ?_
      refine jo_icmp_le 37 d_X11_hour_28 (by decide) ?_ ?_
      · skip
        refine jo_aload 0 d_X11_hour_37 rfl rfl ?_
        refine jo_aload 0 d_X11_hour_38 rfl rfl ?_
        refine jo_getR (k := 8) cl_11 (Nat.le_of_ble_eq_true rfl) lk_X11_60 rfl kc_0 kr_0_8 d_X11_hour_39 ?_
        refine jo_aload 0 d_X11_hour_42 rfl rfl ?_
        refine jo_getR (k := 7) cl_11 (Nat.le_of_ble_eq_true rfl) lk_X11_53 rfl kc_0 kr_0_7 d_X11_hour_43 ?_
        refine jo_aload 0 d_X11_hour_46 rfl rfl ?_
        refine jo_getR (k := 8) cl_11 (Nat.le_of_ble_eq_true rfl) lk_X11_60 rfl kc_0 kr_0_8 d_X11_hour_47 ?_
        refine jo_getI (k := 1) cl_1 (Nat.le_of_ble_eq_true rfl) lk_X11_224 (Or.inl rfl) kc_52 d_X11_hour_50 ?_
        refine jo_iload 1 d_X11_hour_53 rfl rfl ?_
        refine jo_iadd d_X11_hour_54 ?_
        refine jo_callV (st := [.ref 0]) (m_X1_passUntil hs n 52 40 ((M 52 1) + x1) kc_52 kc_40 M) ok_X1_passUntil (And.intro (Nat.le_of_ble_eq_true rfl) (Nat.le_of_ble_eq_true rfl)) lm_X11_303 in_X1_passUntil se_X1_passUntil rfl kc_52 rfl rfl (And.intro (Nat.zero_le _) (Nat.zero_le _)) rfl (Nat.le_of_ble_eq_true rfl) d_X11_hour_55 (fun r1 M2 => ?_)
        refine jo_callV (st := []) (m_X11_answer hs n r1 M2) ok_X11_answer (And.intro (Nat.le_of_ble_eq_true rfl) (Nat.le_of_ble_eq_true rfl)) lm_X11_193 in_X11_answer se_X11_answer rfl kc_0 rfl rfl (And.intro (Nat.zero_le _) (Nat.zero_le _)) rfl (Nat.le_of_ble_eq_true rfl) d_X11_hour_58 (fun r3 M4 => ?_)
        exact jo_iret rfl d_X11_hour_61
      · skip
        refine jo_aload 0 d_X11_hour_31 rfl rfl ?_
        refine jo_iconst 4 d_X11_hour_32 ?_
        refine jo_callV (st := []) (m_X11_refuse hs n 4 M) ok_X11_refuse (And.intro (Nat.le_of_ble_eq_true rfl) (Nat.le_of_ble_eq_true rfl)) lm_X11_143 in_X11_refuse se_X11_refuse rfl kc_0 rfl rfl (And.intro (Nat.zero_le _) (Nat.zero_le _)) rfl (Nat.le_of_ble_eq_true rfl) d_X11_hour_33 (fun r5 M6 => ?_)
        exact jo_iret rfl d_X11_hour_36
    · skip
      exact jO.sub (t_X11_hour_L11 hs n M) (And.intro rfl True.intro)
theorem m_X11_hour {g : JG} {ad : Nat → Nat} (hs : jStr g ad) (n : Nat) (x1 : Int) (M : JMem) : jMet g jNN ad jR D_X11_hour yX11_hour [.ref 0, ji x1] M (f_X11_hour n x1 M) :=
  jMet.of (lo0 := [some (.ref 0), some (ji x1)]) (by decide) rfl rfl (Nat.le_of_ble_eq_true rfl) (And.intro rfl (And.intro rfl True.intro)) (t_X11_hour hs n x1 M)
/-! CageLeave.hunt(IIZ)Z -/
def D_X11_hunt : JD := (RX11, cX11_hunt, 4, some .boolean, "hunt", { frames := 2, cells := 0, slots := 0, locals := 43 })
theorem ok_X11_hunt : jOk D_X11_hunt yX11_hunt 3 := ⟨jTW_mem (k := 1084) (by decide +kernel) rfl, jTW_mem (k := 135) (by decide +kernel) rfl, ⟨by decide +kernel, by decide +kernel⟩, by decide +kernel, rfl, rfl⟩
theorem in_X11_hunt : Cond.instanceMethod yX11_hunt ∈ jTW := jTW_mem (k := 1082) (by decide +kernel) rfl
theorem se_X11_hunt : Cond.selects yX11_hunt.cls yX11_hunt yX11_hunt ∈ jTW := jTW_mem (k := 1083) (by decide +kernel) rfl
theorem lm_X11_295 : Cond.methodLink RX11 295 yX11_areTwoBeasts ∈ jTW := jTW_mem (k := 998) (by decide +kernel) rfl
theorem d_X11_hunt_0 : decode (D_X11_hunt).2.1 0 = .ok (.aload_n 0, 1) := by decide +kernel
theorem d_X11_hunt_1 : decode (D_X11_hunt).2.1 1 = .ok (.iload_n 1, 1) := by decide +kernel
theorem d_X11_hunt_2 : decode (D_X11_hunt).2.1 2 = .ok (.iload_n 2, 1) := by decide +kernel
theorem d_X11_hunt_3 : decode (D_X11_hunt).2.1 3 = .ok (.invokevirtual 295, 3) := by decide +kernel
theorem d_X11_hunt_6 : decode (D_X11_hunt).2.1 6 = .ok (.ifCond .ne 9, 3) := by decide +kernel
theorem d_X11_hunt_9 : decode (D_X11_hunt).2.1 9 = .ok (.aload_n 0, 1) := by decide +kernel
theorem d_X11_hunt_10 : decode (D_X11_hunt).2.1 10 = .ok (.iconst 1, 1) := by decide +kernel
theorem d_X11_hunt_11 : decode (D_X11_hunt).2.1 11 = .ok (.invokevirtual 124, 3) := by decide +kernel
theorem d_X11_hunt_14 : decode (D_X11_hunt).2.1 14 = .ok (.ireturn, 1) := by decide +kernel
theorem d_X11_hunt_15 : decode (D_X11_hunt).2.1 15 = .ok (.aload_n 0, 1) := by decide +kernel
theorem d_X11_hunt_16 : decode (D_X11_hunt).2.1 16 = .ok (.getfield 53, 3) := by decide +kernel
theorem d_X11_hunt_19 : decode (D_X11_hunt).2.1 19 = .ok (.getfield 279, 3) := by decide +kernel
theorem d_X11_hunt_22 : decode (D_X11_hunt).2.1 22 = .ok (.iload_n 1, 1) := by decide +kernel
theorem d_X11_hunt_23 : decode (D_X11_hunt).2.1 23 = .ok (.iaload, 1) := by decide +kernel
theorem d_X11_hunt_24 : decode (D_X11_hunt).2.1 24 = .ok (.iload_n 2, 1) := by decide +kernel
theorem d_X11_hunt_25 : decode (D_X11_hunt).2.1 25 = .ok (.invokestatic 310, 3) := by decide +kernel
theorem d_X11_hunt_28 : decode (D_X11_hunt).2.1 28 = .ok (.iload_n 3, 1) := by decide +kernel
theorem d_X11_hunt_29 : decode (D_X11_hunt).2.1 29 = .ok (.if_icmp .ne 10, 3) := by decide +kernel
theorem d_X11_hunt_32 : decode (D_X11_hunt).2.1 32 = .ok (.aload_n 0, 1) := by decide +kernel
theorem d_X11_hunt_33 : decode (D_X11_hunt).2.1 33 = .ok (.bipush 7, 2) := by decide +kernel
theorem d_X11_hunt_35 : decode (D_X11_hunt).2.1 35 = .ok (.invokevirtual 124, 3) := by decide +kernel
theorem d_X11_hunt_38 : decode (D_X11_hunt).2.1 38 = .ok (.ireturn, 1) := by decide +kernel
theorem d_X11_hunt_39 : decode (D_X11_hunt).2.1 39 = .ok (.aload_n 0, 1) := by decide +kernel
theorem d_X11_hunt_40 : decode (D_X11_hunt).2.1 40 = .ok (.getfield 53, 3) := by decide +kernel
theorem d_X11_hunt_43 : decode (D_X11_hunt).2.1 43 = .ok (.getfield 279, 3) := by decide +kernel
theorem d_X11_hunt_46 : decode (D_X11_hunt).2.1 46 = .ok (.iload_n 1, 1) := by decide +kernel
theorem d_X11_hunt_47 : decode (D_X11_hunt).2.1 47 = .ok (.dup2, 1) := by decide +kernel
theorem d_X11_hunt_48 : decode (D_X11_hunt).2.1 48 = .ok (.iaload, 1) := by decide +kernel
theorem d_X11_hunt_49 : decode (D_X11_hunt).2.1 49 = .ok (.iconst 1, 1) := by decide +kernel
theorem d_X11_hunt_50 : decode (D_X11_hunt).2.1 50 = .ok (.iload_n 2, 1) := by decide +kernel
theorem d_X11_hunt_51 : decode (D_X11_hunt).2.1 51 = .ok (.ishl, 1) := by decide +kernel
theorem d_X11_hunt_52 : decode (D_X11_hunt).2.1 52 = .ok (.ixor, 1) := by decide +kernel
theorem d_X11_hunt_53 : decode (D_X11_hunt).2.1 53 = .ok (.iastore, 1) := by decide +kernel
theorem d_X11_hunt_54 : decode (D_X11_hunt).2.1 54 = .ok (.aload_n 0, 1) := by decide +kernel
theorem d_X11_hunt_55 : decode (D_X11_hunt).2.1 55 = .ok (.invokevirtual 131, 3) := by decide +kernel
theorem d_X11_hunt_58 : decode (D_X11_hunt).2.1 58 = .ok (.ireturn, 1) := by decide +kernel
def f_X11_hunt (n : Nat) (x1 : Int) (x2 : Int) (x3 : Int) (M : JMem) : Option (Int × JMem) := bnd (f_X11_areTwoBeasts n x1 x2 M) fun r1 M2 => if jw r1 = 0 then (bnd (f_X11_deny n 1 M2) fun r10 M11 => chk (jw r10 = 0 ∨ jw r10 = 1) (some (r10, M11))) else (chk (jin x1 8) <| bnd (f_X11_isIn n (M2 (40 + 11) (jw x1).toNat) x2 M2) fun r3 M4 => if jw r3 = jw x3 then (bnd (f_X11_deny n 7 M4) fun r8 M9 => chk (jw r8 = 0 ∨ jw r8 = 1) (some (r8, M9))) else (chk (jin x1 8) <| chk (jin x1 8) <| letm (jup M4 (40 + 11) (jw x1).toNat (jxor (M4 (40 + 11) (jw x1).toNat) (jshl 1 x2))) fun M5 => bnd (f_X11_allow n M5) fun r6 M7 => chk (jw r6 = 0 ∨ jw r6 = 1) (some (r6, M7))))
set_option maxRecDepth 4000 in
theorem t_X11_hunt {g : JG} {ad : Nat → Nat} (hs : jStr g ad) (n : Nat) (x1 : Int) (x2 : Int) (x3 : Int) (M : JMem) : jB g D_X11_hunt ad 0 [some (.ref 0), some (ji x1), some (ji x2), some (ji x3)] [] M (f_X11_hunt n x1 x2 x3 M) := by
  unfold f_X11_hunt
  refine jo_aload 0 d_X11_hunt_0 rfl rfl ?_
  refine jo_iload 1 d_X11_hunt_1 rfl rfl ?_
  refine jo_iload 2 d_X11_hunt_2 rfl rfl ?_
  refine jo_callV (st := []) (m_X11_areTwoBeasts hs n x1 x2 M) ok_X11_areTwoBeasts (And.intro (Nat.le_of_ble_eq_true rfl) (Nat.le_of_ble_eq_true rfl)) lm_X11_295 in_X11_areTwoBeasts se_X11_areTwoBeasts rfl kc_0 rfl rfl (And.intro (Nat.zero_le _) (Nat.zero_le _)) rfl (Nat.le_of_ble_eq_true rfl) d_X11_hunt_3 (fun r1 M2 => ?_)
  refine jo_if_ne 15 d_X11_hunt_6 (by decide) ?_ ?_
  · skip
    refine jo_aload 0 d_X11_hunt_15 rfl rfl ?_
    refine jo_getR (k := 7) cl_11 (Nat.le_of_ble_eq_true rfl) lk_X11_53 rfl kc_0 kr_0_7 d_X11_hunt_16 ?_
    refine jo_getR (k := 15) cl_4 (Nat.le_of_ble_eq_true rfl) lk_X11_279 rfl kc_40 (kr_Plan_15 kc_40) d_X11_hunt_19 ?_
    refine jo_iload 1 d_X11_hunt_22 rfl rfl ?_
    refine jo_iald (N := 8) (ka_Plan_15 kc_40) d_X11_hunt_23 ?_
    refine jo_iload 2 d_X11_hunt_24 rfl rfl ?_
    refine jo_callS (st := []) (m_X11_isIn hs n (M2 (40 + 11) (jw x1).toNat) x2 M2) ok_X11_isIn (And.intro (Nat.le_of_ble_eq_true rfl) (Nat.le_of_ble_eq_true rfl)) lm_X11_310 st_X11_isIn rfl (And.intro (Nat.zero_le _) (Nat.zero_le _)) rfl (Nat.le_of_ble_eq_true rfl) d_X11_hunt_25 (fun r3 M4 => ?_)
    refine jo_iload 3 d_X11_hunt_28 rfl rfl ?_
    refine jo_icmp_ne 39 d_X11_hunt_29 (by decide) ?_ ?_
    · skip
      refine jo_aload 0 d_X11_hunt_39 rfl rfl ?_
      refine jo_getR (k := 7) cl_11 (Nat.le_of_ble_eq_true rfl) lk_X11_53 rfl kc_0 kr_0_7 d_X11_hunt_40 ?_
      refine jo_getR (k := 15) cl_4 (Nat.le_of_ble_eq_true rfl) lk_X11_279 rfl kc_40 (kr_Plan_15 kc_40) d_X11_hunt_43 ?_
      refine jo_iload 1 d_X11_hunt_46 rfl rfl ?_
      refine jo_dup2 d_X11_hunt_47 rfl rfl ?_
      refine jo_iald (N := 8) (ka_Plan_15 kc_40) d_X11_hunt_48 ?_
      refine jo_iconst 1 d_X11_hunt_49 ?_
      refine jo_iload 2 d_X11_hunt_50 rfl rfl ?_
      refine jo_ishl d_X11_hunt_51 ?_
      refine jo_ixor d_X11_hunt_52 ?_
      refine jo_iast (N := 8) (ka_Plan_15 kc_40) d_X11_hunt_53 (fun M5 => ?_)
      refine jo_aload 0 d_X11_hunt_54 rfl rfl ?_
      refine jo_callV (st := []) (m_X11_allow hs n M5) ok_X11_allow (And.intro (Nat.le_of_ble_eq_true rfl) (Nat.le_of_ble_eq_true rfl)) lm_X11_131 in_X11_allow se_X11_allow rfl kc_0 rfl rfl (And.intro (Nat.zero_le _) (Nat.zero_le _)) rfl (Nat.le_of_ble_eq_true rfl) d_X11_hunt_55 (fun r6 M7 => ?_)
      exact jo_zretq rfl d_X11_hunt_58
    · skip
      refine jo_aload 0 d_X11_hunt_32 rfl rfl ?_
      refine jo_bipush 7 d_X11_hunt_33 (by decide) ?_
      refine jo_callV (st := []) (m_X11_deny hs n 7 M4) ok_X11_deny (And.intro (Nat.le_of_ble_eq_true rfl) (Nat.le_of_ble_eq_true rfl)) lm_X11_124 in_X11_deny se_X11_deny rfl kc_0 rfl rfl (And.intro (Nat.zero_le _) (Nat.zero_le _)) rfl (Nat.le_of_ble_eq_true rfl) d_X11_hunt_35 (fun r8 M9 => ?_)
      exact jo_zretq rfl d_X11_hunt_38
  · skip
    refine jo_aload 0 d_X11_hunt_9 rfl rfl ?_
    refine jo_iconst 1 d_X11_hunt_10 ?_
    refine jo_callV (st := []) (m_X11_deny hs n 1 M2) ok_X11_deny (And.intro (Nat.le_of_ble_eq_true rfl) (Nat.le_of_ble_eq_true rfl)) lm_X11_124 in_X11_deny se_X11_deny rfl kc_0 rfl rfl (And.intro (Nat.zero_le _) (Nat.zero_le _)) rfl (Nat.le_of_ble_eq_true rfl) d_X11_hunt_11 (fun r10 M11 => ?_)
    exact jo_zretq rfl d_X11_hunt_14
theorem m_X11_hunt {g : JG} {ad : Nat → Nat} (hs : jStr g ad) (n : Nat) (x1 : Int) (x2 : Int) (x3 : Int) (M : JMem) : jMet g jNN ad jR D_X11_hunt yX11_hunt [.ref 0, ji x1, ji x2, ji x3] M (f_X11_hunt n x1 x2 x3 M) :=
  jMet.of (lo0 := [some (.ref 0), some (ji x1), some (ji x2), some (ji x3)]) (by decide) rfl rfl (Nat.le_of_ble_eq_true rfl) (And.intro rfl (And.intro rfl (And.intro rfl (And.intro rfl True.intro)))) (t_X11_hunt hs n x1 x2 x3 M)
/-! CageLeave.lateBy()I -/
def D_X11_lateBy : JD := (RX11, cX11_lateBy, 1, some .int, "lateBy", { frames := 5, cells := 0, slots := 0, locals := 116 })
theorem ok_X11_lateBy : jOk D_X11_lateBy yX11_lateBy 0 := ⟨jTW_mem (k := 1120) (by decide +kernel) rfl, jTW_mem (k := 135) (by decide +kernel) rfl, ⟨by decide +kernel, by decide +kernel⟩, by decide +kernel, rfl, rfl⟩
theorem in_X11_lateBy : Cond.instanceMethod yX11_lateBy ∈ jTW := jTW_mem (k := 1118) (by decide +kernel) rfl
theorem se_X11_lateBy : Cond.selects yX11_lateBy.cls yX11_lateBy yX11_lateBy ∈ jTW := jTW_mem (k := 1119) (by decide +kernel) rfl
theorem lm_X11_306 : Cond.methodLink RX11 306 yX1_fetchAll ∈ jTW := jTW_mem (k := 1047) (by decide +kernel) rfl
theorem d_X11_lateBy_0 : decode (D_X11_lateBy).2.1 0 = .ok (.aload_n 0, 1) := by decide +kernel
theorem d_X11_lateBy_1 : decode (D_X11_lateBy).2.1 1 = .ok (.bipush 64, 2) := by decide +kernel
theorem d_X11_lateBy_3 : decode (D_X11_lateBy).2.1 3 = .ok (.invokevirtual 323, 3) := by decide +kernel
theorem d_X11_lateBy_6 : decode (D_X11_lateBy).2.1 6 = .ok (.aload_n 0, 1) := by decide +kernel
theorem d_X11_lateBy_7 : decode (D_X11_lateBy).2.1 7 = .ok (.aload_n 0, 1) := by decide +kernel
theorem d_X11_lateBy_8 : decode (D_X11_lateBy).2.1 8 = .ok (.getfield 86, 3) := by decide +kernel
theorem d_X11_lateBy_11 : decode (D_X11_lateBy).2.1 11 = .ok (.aload_n 0, 1) := by decide +kernel
theorem d_X11_lateBy_12 : decode (D_X11_lateBy).2.1 12 = .ok (.getfield 53, 3) := by decide +kernel
theorem d_X11_lateBy_15 : decode (D_X11_lateBy).2.1 15 = .ok (.invokevirtual 306, 3) := by decide +kernel
theorem d_X11_lateBy_18 : decode (D_X11_lateBy).2.1 18 = .ok (.invokevirtual 193, 3) := by decide +kernel
theorem d_X11_lateBy_21 : decode (D_X11_lateBy).2.1 21 = .ok (.ireturn, 1) := by decide +kernel
def f_X11_lateBy (n : Nat) (M : JMem) : Option (Int × JMem) := bnd (f_X11_goOnUntil n 64 M) fun _ M2 => bnd (f_X1_fetchAll n 68 40 M2) fun r3 M4 => bnd (f_X11_answer n r3 M4) fun r5 M6 => some (r5, M6)
set_option maxRecDepth 4000 in
theorem t_X11_lateBy {g : JG} {ad : Nat → Nat} (hs : jStr g ad) (n : Nat) (M : JMem) : jB g D_X11_lateBy ad 0 [some (.ref 0)] [] M (f_X11_lateBy n M) := by
  unfold f_X11_lateBy
  refine jo_aload 0 d_X11_lateBy_0 rfl rfl ?_
  refine jo_bipush 64 d_X11_lateBy_1 (by decide) ?_
  refine jo_callV (st := []) (m_X11_goOnUntil hs n 64 M) ok_X11_goOnUntil (And.intro (Nat.le_of_ble_eq_true rfl) (Nat.le_of_ble_eq_true rfl)) lm_X11_323 in_X11_goOnUntil se_X11_goOnUntil rfl kc_0 rfl rfl (And.intro (Nat.zero_le _) (Nat.zero_le _)) rfl (Nat.le_of_ble_eq_true rfl) d_X11_lateBy_3 (fun _ M2 => ?_)
  refine jo_aload 0 d_X11_lateBy_6 rfl rfl ?_
  refine jo_aload 0 d_X11_lateBy_7 rfl rfl ?_
  refine jo_getR (k := 14) cl_11 (Nat.le_of_ble_eq_true rfl) lk_X11_86 rfl kc_0 kr_0_14 d_X11_lateBy_8 ?_
  refine jo_aload 0 d_X11_lateBy_11 rfl rfl ?_
  refine jo_getR (k := 7) cl_11 (Nat.le_of_ble_eq_true rfl) lk_X11_53 rfl kc_0 kr_0_7 d_X11_lateBy_12 ?_
  refine jo_callV (st := [.ref 0]) (m_X1_fetchAll hs n 68 40 kc_68 kc_40 M2) ok_X1_fetchAll (And.intro (Nat.le_of_ble_eq_true rfl) (Nat.le_of_ble_eq_true rfl)) lm_X11_306 in_X1_fetchAll se_X1_fetchAll rfl kc_68 rfl rfl (And.intro (Nat.zero_le _) (Nat.zero_le _)) rfl (Nat.le_of_ble_eq_true rfl) d_X11_lateBy_15 (fun r3 M4 => ?_)
  refine jo_callV (st := []) (m_X11_answer hs n r3 M4) ok_X11_answer (And.intro (Nat.le_of_ble_eq_true rfl) (Nat.le_of_ble_eq_true rfl)) lm_X11_193 in_X11_answer se_X11_answer rfl kc_0 rfl rfl (And.intro (Nat.zero_le _) (Nat.zero_le _)) rfl (Nat.le_of_ble_eq_true rfl) d_X11_lateBy_18 (fun r5 M6 => ?_)
  exact jo_iret rfl d_X11_lateBy_21
theorem m_X11_lateBy {g : JG} {ad : Nat → Nat} (hs : jStr g ad) (n : Nat) (M : JMem) : jMet g jNN ad jR D_X11_lateBy yX11_lateBy [.ref 0] M (f_X11_lateBy n M) :=
  jMet.of (lo0 := [some (.ref 0)]) (by decide) rfl rfl (Nat.le_of_ble_eq_true rfl) (And.intro rfl True.intro) (t_X11_lateBy hs n M)
/-! CageLeave.latest(III)I -/
def D_X11_latest : JD := (RX11, cX11_latest, 5, some .int, "latest", { frames := 5, cells := 0, slots := 0, locals := 125 })
theorem ok_X11_latest : jOk D_X11_latest yX11_latest 3 := ⟨jTW_mem (k := 1189) (by decide +kernel) rfl, jTW_mem (k := 135) (by decide +kernel) rfl, ⟨by decide +kernel, by decide +kernel⟩, by decide +kernel, rfl, rfl⟩
theorem in_X11_latest : Cond.instanceMethod yX11_latest ∈ jTW := jTW_mem (k := 1187) (by decide +kernel) rfl
theorem se_X11_latest : Cond.selects yX11_latest.cls yX11_latest yX11_latest ∈ jTW := jTW_mem (k := 1188) (by decide +kernel) rfl
theorem lm_X11_356 : Cond.methodLink RX11 356 yX8_lastStart ∈ jTW := jTW_mem (k := 1190) (by decide +kernel) rfl
theorem d_X11_latest_0 : decode (D_X11_latest).2.1 0 = .ok (.aload_n 0, 1) := by decide +kernel
theorem d_X11_latest_1 : decode (D_X11_latest).2.1 1 = .ok (.iload_n 1, 1) := by decide +kernel
theorem d_X11_latest_2 : decode (D_X11_latest).2.1 2 = .ok (.invokevirtual 289, 3) := by decide +kernel
theorem d_X11_latest_5 : decode (D_X11_latest).2.1 5 = .ok (.ifCond .eq 21, 3) := by decide +kernel
theorem d_X11_latest_8 : decode (D_X11_latest).2.1 8 = .ok (.aload_n 0, 1) := by decide +kernel
theorem d_X11_latest_9 : decode (D_X11_latest).2.1 9 = .ok (.iload_n 2, 1) := by decide +kernel
theorem d_X11_latest_10 : decode (D_X11_latest).2.1 10 = .ok (.invokevirtual 289, 3) := by decide +kernel
theorem d_X11_latest_13 : decode (D_X11_latest).2.1 13 = .ok (.ifCond .eq 13, 3) := by decide +kernel
theorem d_X11_latest_16 : decode (D_X11_latest).2.1 16 = .ok (.iload_n 3, 1) := by decide +kernel
theorem d_X11_latest_17 : decode (D_X11_latest).2.1 17 = .ok (.ifCond .lt 9, 3) := by decide +kernel
theorem d_X11_latest_20 : decode (D_X11_latest).2.1 20 = .ok (.iload_n 3, 1) := by decide +kernel
theorem d_X11_latest_21 : decode (D_X11_latest).2.1 21 = .ok (.bipush 64, 2) := by decide +kernel
theorem d_X11_latest_23 : decode (D_X11_latest).2.1 23 = .ok (.if_icmp .le 9, 3) := by decide +kernel
theorem d_X11_latest_26 : decode (D_X11_latest).2.1 26 = .ok (.aload_n 0, 1) := by decide +kernel
theorem d_X11_latest_27 : decode (D_X11_latest).2.1 27 = .ok (.iconst 1, 1) := by decide +kernel
theorem d_X11_latest_28 : decode (D_X11_latest).2.1 28 = .ok (.invokevirtual 143, 3) := by decide +kernel
theorem d_X11_latest_31 : decode (D_X11_latest).2.1 31 = .ok (.ireturn, 1) := by decide +kernel
theorem d_X11_latest_32 : decode (D_X11_latest).2.1 32 = .ok (.iload_n 1, 1) := by decide +kernel
theorem d_X11_latest_33 : decode (D_X11_latest).2.1 33 = .ok (.iload_n 2, 1) := by decide +kernel
theorem d_X11_latest_34 : decode (D_X11_latest).2.1 34 = .ok (.if_icmp .ne 9, 3) := by decide +kernel
theorem d_X11_latest_37 : decode (D_X11_latest).2.1 37 = .ok (.aload_n 0, 1) := by decide +kernel
theorem d_X11_latest_38 : decode (D_X11_latest).2.1 38 = .ok (.iload_n 3, 1) := by decide +kernel
theorem d_X11_latest_39 : decode (D_X11_latest).2.1 39 = .ok (.invokevirtual 193, 3) := by decide +kernel
theorem d_X11_latest_42 : decode (D_X11_latest).2.1 42 = .ok (.ireturn, 1) := by decide +kernel
theorem d_X11_latest_43 : decode (D_X11_latest).2.1 43 = .ok (.aload_n 0, 1) := by decide +kernel
theorem d_X11_latest_44 : decode (D_X11_latest).2.1 44 = .ok (.getfield 92, 3) := by decide +kernel
theorem d_X11_latest_47 : decode (D_X11_latest).2.1 47 = .ok (.aload_n 0, 1) := by decide +kernel
theorem d_X11_latest_48 : decode (D_X11_latest).2.1 48 = .ok (.getfield 53, 3) := by decide +kernel
theorem d_X11_latest_51 : decode (D_X11_latest).2.1 51 = .ok (.invokevirtual 346, 3) := by decide +kernel
theorem d_X11_latest_54 : decode (D_X11_latest).2.1 54 = .ok (.aload_n 0, 1) := by decide +kernel
theorem d_X11_latest_55 : decode (D_X11_latest).2.1 55 = .ok (.getfield 92, 3) := by decide +kernel
theorem d_X11_latest_58 : decode (D_X11_latest).2.1 58 = .ok (.aload_n 0, 1) := by decide +kernel
theorem d_X11_latest_59 : decode (D_X11_latest).2.1 59 = .ok (.getfield 53, 3) := by decide +kernel
theorem d_X11_latest_62 : decode (D_X11_latest).2.1 62 = .ok (.aload_n 0, 1) := by decide +kernel
theorem d_X11_latest_63 : decode (D_X11_latest).2.1 63 = .ok (.getfield 60, 3) := by decide +kernel
theorem d_X11_latest_66 : decode (D_X11_latest).2.1 66 = .ok (.getfield 237, 3) := by decide +kernel
theorem d_X11_latest_69 : decode (D_X11_latest).2.1 69 = .ok (.iload_n 1, 1) := by decide +kernel
theorem d_X11_latest_70 : decode (D_X11_latest).2.1 70 = .ok (.iload_n 2, 1) := by decide +kernel
theorem d_X11_latest_71 : decode (D_X11_latest).2.1 71 = .ok (.iload_n 3, 1) := by decide +kernel
theorem d_X11_latest_72 : decode (D_X11_latest).2.1 72 = .ok (.invokevirtual 356, 3) := by decide +kernel
theorem d_X11_latest_75 : decode (D_X11_latest).2.1 75 = .ok (.istore 4, 2) := by decide +kernel
theorem d_X11_latest_77 : decode (D_X11_latest).2.1 77 = .ok (.iload 4, 2) := by decide +kernel
theorem d_X11_latest_79 : decode (D_X11_latest).2.1 79 = .ok (.iconst (-1), 1) := by decide +kernel
theorem d_X11_latest_80 : decode (D_X11_latest).2.1 80 = .ok (.if_icmp .ne 12, 3) := by decide +kernel
theorem d_X11_latest_83 : decode (D_X11_latest).2.1 83 = .ok (.aload_n 0, 1) := by decide +kernel
theorem d_X11_latest_84 : decode (D_X11_latest).2.1 84 = .ok (.bipush 6, 2) := by decide +kernel
theorem d_X11_latest_86 : decode (D_X11_latest).2.1 86 = .ok (.invokevirtual 143, 3) := by decide +kernel
theorem d_X11_latest_89 : decode (D_X11_latest).2.1 89 = .ok (.goto 9, 3) := by decide +kernel
theorem d_X11_latest_92 : decode (D_X11_latest).2.1 92 = .ok (.aload_n 0, 1) := by decide +kernel
theorem d_X11_latest_93 : decode (D_X11_latest).2.1 93 = .ok (.iload 4, 2) := by decide +kernel
theorem d_X11_latest_95 : decode (D_X11_latest).2.1 95 = .ok (.invokevirtual 193, 3) := by decide +kernel
theorem d_X11_latest_98 : decode (D_X11_latest).2.1 98 = .ok (.ireturn, 1) := by decide +kernel
def f_X11_latest_L26 (n : Nat) (M : JMem) : Option (Int × JMem) := bnd (f_X11_refuse n 1 M) fun r1 M2 => some (r1, M2)
set_option maxRecDepth 4000 in
theorem t_X11_latest_L26 {g : JG} {ad : Nat → Nat} (hs : jStr g ad) (n : Nat) (M : JMem) : jB g D_X11_latest ad 26 [some (.ref 0), none, none, none, none] [] M (f_X11_latest_L26 n M) := by
  unfold f_X11_latest_L26
  refine jo_aload 0 d_X11_latest_26 rfl rfl ?_
  refine jo_iconst 1 d_X11_latest_27 ?_
  refine jo_callV (st := []) (m_X11_refuse hs n 1 M) ok_X11_refuse (And.intro (Nat.le_of_ble_eq_true rfl) (Nat.le_of_ble_eq_true rfl)) lm_X11_143 in_X11_refuse se_X11_refuse rfl kc_0 rfl rfl (And.intro (Nat.zero_le _) (Nat.zero_le _)) rfl (Nat.le_of_ble_eq_true rfl) d_X11_latest_28 (fun r1 M2 => ?_)
  exact jo_iret rfl d_X11_latest_31
def f_X11_latest (n : Nat) (x1 : Int) (x2 : Int) (x3 : Int) (M : JMem) : Option (Int × JMem) := bnd (f_X11_isPlace n x1 M) fun r1 M2 => if jw r1 = 0 then (f_X11_latest_L26 n M2) else (bnd (f_X11_isPlace n x2 M2) fun r3 M4 => if jw r3 = 0 then (f_X11_latest_L26 n M4) else (if jw x3 < 0 then (f_X11_latest_L26 n M4) else (if jw x3 ≤ jw 64 then (if jw x1 = jw x2 then (bnd (f_X11_answer n x3 M4) fun r14 M15 => some (r14, M15)) else (bnd (f_X8_order n 40 M4) fun _ M6 => bnd (f_X8_lastStart n 40 (M6 52 4) x1 x2 x3 M6) fun r7 M8 => letv r7 fun y9 => if jw y9 = jw (-1) then (bnd (f_X11_refuse n 6 M8) fun r12 M13 => some (r12, M13)) else (bnd (f_X11_answer n y9 M8) fun r10 M11 => some (r10, M11)))) else (f_X11_latest_L26 n M4))))
set_option maxRecDepth 4000 in
theorem t_X11_latest {g : JG} {ad : Nat → Nat} (hs : jStr g ad) (n : Nat) (x1 : Int) (x2 : Int) (x3 : Int) (M : JMem) : jB g D_X11_latest ad 0 [some (.ref 0), some (ji x1), some (ji x2), some (ji x3), none] [] M (f_X11_latest n x1 x2 x3 M) := by
  unfold f_X11_latest
  refine jo_aload 0 d_X11_latest_0 rfl rfl ?_
  refine jo_iload 1 d_X11_latest_1 rfl rfl ?_
  refine jo_callV (st := []) (m_X11_isPlace hs n x1 M) ok_X11_isPlace (And.intro (Nat.le_of_ble_eq_true rfl) (Nat.le_of_ble_eq_true rfl)) lm_X11_289 in_X11_isPlace se_X11_isPlace rfl kc_0 rfl rfl (And.intro (Nat.zero_le _) (Nat.zero_le _)) rfl (Nat.le_of_ble_eq_true rfl) d_X11_latest_2 (fun r1 M2 => ?_)
  refine jo_if_eq 26 d_X11_latest_5 (by decide) ?_ ?_
  · skip
    exact jO.sub (t_X11_latest_L26 hs n M2) (And.intro rfl True.intro)
  · skip
    refine jo_aload 0 d_X11_latest_8 rfl rfl ?_
    refine jo_iload 2 d_X11_latest_9 rfl rfl ?_
    refine jo_callV (st := []) (m_X11_isPlace hs n x2 M2) ok_X11_isPlace (And.intro (Nat.le_of_ble_eq_true rfl) (Nat.le_of_ble_eq_true rfl)) lm_X11_289 in_X11_isPlace se_X11_isPlace rfl kc_0 rfl rfl (And.intro (Nat.zero_le _) (Nat.zero_le _)) rfl (Nat.le_of_ble_eq_true rfl) d_X11_latest_10 (fun r3 M4 => ?_)
    refine jo_if_eq 26 d_X11_latest_13 (by decide) ?_ ?_
    · skip
      exact jO.sub (t_X11_latest_L26 hs n M4) (And.intro rfl True.intro)
    · skip
      refine jo_iload 3 d_X11_latest_16 rfl rfl ?_
      refine jo_if_lt 26 d_X11_latest_17 (by decide) ?_ ?_
      · skip
        exact jO.sub (t_X11_latest_L26 hs n M4) (And.intro rfl True.intro)
      · skip
        refine jo_iload 3 d_X11_latest_20 rfl rfl ?_
        refine jo_bipush 64 d_X11_latest_21 (by decide) ?_
        refine jo_icmp_le 32 d_X11_latest_23 (by decide) ?_ ?_
        · skip
          refine jo_iload 1 d_X11_latest_32 rfl rfl ?_
          refine jo_iload 2 d_X11_latest_33 rfl rfl ?_
          refine jo_icmp_ne 43 d_X11_latest_34 (by decide) ?_ ?_
          · skip
            refine jo_aload 0 d_X11_latest_43 rfl rfl ?_
            refine jo_getR (k := 15) cl_11 (Nat.le_of_ble_eq_true rfl) lk_X11_92 rfl kc_0 kr_0_15 d_X11_latest_44 ?_
            refine jo_aload 0 d_X11_latest_47 rfl rfl ?_
            refine jo_getR (k := 7) cl_11 (Nat.le_of_ble_eq_true rfl) lk_X11_53 rfl kc_0 kr_0_7 d_X11_latest_48 ?_
            refine jo_callV (st := []) (m_X8_order hs n 40 kc_40 M4) ok_X8_order (And.intro (Nat.le_of_ble_eq_true rfl) (Nat.le_of_ble_eq_true rfl)) lm_X11_346 in_X8_order se_X8_order rfl kc_76 rfl rfl (And.intro (Nat.zero_le _) (Nat.zero_le _)) rfl (Nat.le_of_ble_eq_true rfl) d_X11_latest_51 (fun _ M6 => ?_)
            refine jo_aload 0 d_X11_latest_54 rfl rfl ?_
            refine jo_getR (k := 15) cl_11 (Nat.le_of_ble_eq_true rfl) lk_X11_92 rfl kc_0 kr_0_15 d_X11_latest_55 ?_
            refine jo_aload 0 d_X11_latest_58 rfl rfl ?_
            refine jo_getR (k := 7) cl_11 (Nat.le_of_ble_eq_true rfl) lk_X11_53 rfl kc_0 kr_0_7 d_X11_latest_59 ?_
            refine jo_aload 0 d_X11_latest_62 rfl rfl ?_
            refine jo_getR (k := 8) cl_11 (Nat.le_of_ble_eq_true rfl) lk_X11_60 rfl kc_0 kr_0_8 d_X11_latest_63 ?_
            refine jo_getI (k := 4) cl_1 (Nat.le_of_ble_eq_true rfl) lk_X11_237 (Or.inl rfl) kc_52 d_X11_latest_66 ?_
            refine jo_iload 1 d_X11_latest_69 rfl rfl ?_
            refine jo_iload 2 d_X11_latest_70 rfl rfl ?_
            refine jo_iload 3 d_X11_latest_71 rfl rfl ?_
            refine jo_callV (st := []) (m_X8_lastStart hs n 40 (M6 52 4) x1 x2 x3 kc_40 M6) ok_X8_lastStart (And.intro (Nat.le_of_ble_eq_true rfl) (Nat.le_of_ble_eq_true rfl)) lm_X11_356 in_X8_lastStart se_X8_lastStart rfl kc_76 rfl rfl (And.intro (Nat.zero_le _) (Nat.zero_le _)) rfl (Nat.le_of_ble_eq_true rfl) d_X11_latest_72 (fun r7 M8 => ?_)
            refine jo_istoreW 4 d_X11_latest_75 (Nat.le_of_ble_eq_true rfl) (fun y9 => ?_)
            refine jo_iloadW 4 d_X11_latest_77 rfl ?_
            refine jo_iconst (-1) d_X11_latest_79 ?_
            refine jo_icmp_ne 92 d_X11_latest_80 (by decide) ?_ ?_
            · skip
              refine jo_aload 0 d_X11_latest_92 rfl rfl ?_
              refine jo_iloadW 4 d_X11_latest_93 rfl ?_
              refine jo_callV (st := []) (m_X11_answer hs n y9 M8) ok_X11_answer (And.intro (Nat.le_of_ble_eq_true rfl) (Nat.le_of_ble_eq_true rfl)) lm_X11_193 in_X11_answer se_X11_answer rfl kc_0 rfl rfl (And.intro (Nat.zero_le _) (Nat.zero_le _)) rfl (Nat.le_of_ble_eq_true rfl) d_X11_latest_95 (fun r10 M11 => ?_)
              exact jo_iret rfl d_X11_latest_98
            · skip
              refine jo_aload 0 d_X11_latest_83 rfl rfl ?_
              refine jo_bipush 6 d_X11_latest_84 (by decide) ?_
              refine jo_callV (st := []) (m_X11_refuse hs n 6 M8) ok_X11_refuse (And.intro (Nat.le_of_ble_eq_true rfl) (Nat.le_of_ble_eq_true rfl)) lm_X11_143 in_X11_refuse se_X11_refuse rfl kc_0 rfl rfl (And.intro (Nat.zero_le _) (Nat.zero_le _)) rfl (Nat.le_of_ble_eq_true rfl) d_X11_latest_86 (fun r12 M13 => ?_)
              refine jo_goto 98 d_X11_latest_89 (by decide) ?_
              exact jo_iret rfl d_X11_latest_98
          · skip
            refine jo_aload 0 d_X11_latest_37 rfl rfl ?_
            refine jo_iload 3 d_X11_latest_38 rfl rfl ?_
            refine jo_callV (st := []) (m_X11_answer hs n x3 M4) ok_X11_answer (And.intro (Nat.le_of_ble_eq_true rfl) (Nat.le_of_ble_eq_true rfl)) lm_X11_193 in_X11_answer se_X11_answer rfl kc_0 rfl rfl (And.intro (Nat.zero_le _) (Nat.zero_le _)) rfl (Nat.le_of_ble_eq_true rfl) d_X11_latest_39 (fun r14 M15 => ?_)
            exact jo_iret rfl d_X11_latest_42
        · skip
          exact jO.sub (t_X11_latest_L26 hs n M4) (And.intro rfl True.intro)
theorem m_X11_latest {g : JG} {ad : Nat → Nat} (hs : jStr g ad) (n : Nat) (x1 : Int) (x2 : Int) (x3 : Int) (M : JMem) : jMet g jNN ad jR D_X11_latest yX11_latest [.ref 0, ji x1, ji x2, ji x3] M (f_X11_latest n x1 x2 x3 M) :=
  jMet.of (lo0 := [some (.ref 0), some (ji x1), some (ji x2), some (ji x3), none]) (by decide) rfl rfl (Nat.le_of_ble_eq_true rfl) (And.intro rfl (And.intro rfl (And.intro rfl (And.intro rfl True.intro)))) (t_X11_latest hs n x1 x2 x3 M)
/-! CageLeave.let(IZ)Z -/
def D_X11_let : JD := (RX11, cX11_let, 3, some .boolean, "let", { frames := 2, cells := 0, slots := 0, locals := 42 })
theorem ok_X11_let : jOk D_X11_let yX11_let 2 := ⟨jTW_mem (k := 1063) (by decide +kernel) rfl, jTW_mem (k := 135) (by decide +kernel) rfl, ⟨by decide +kernel, by decide +kernel⟩, by decide +kernel, rfl, rfl⟩
theorem in_X11_let : Cond.instanceMethod yX11_let ∈ jTW := jTW_mem (k := 1061) (by decide +kernel) rfl
theorem se_X11_let : Cond.selects yX11_let.cls yX11_let yX11_let ∈ jTW := jTW_mem (k := 1062) (by decide +kernel) rfl
theorem lm_X11_317 : Cond.methodLink RX11 317 yX1_turnOut ∈ jTW := jTW_mem (k := 1064) (by decide +kernel) rfl
theorem d_X11_let_0 : decode (D_X11_let).2.1 0 = .ok (.aload_n 0, 1) := by decide +kernel
theorem d_X11_let_1 : decode (D_X11_let).2.1 1 = .ok (.iload_n 1, 1) := by decide +kernel
theorem d_X11_let_2 : decode (D_X11_let).2.1 2 = .ok (.invokevirtual 264, 3) := by decide +kernel
theorem d_X11_let_5 : decode (D_X11_let).2.1 5 = .ok (.ifCond .ne 9, 3) := by decide +kernel
theorem d_X11_let_8 : decode (D_X11_let).2.1 8 = .ok (.aload_n 0, 1) := by decide +kernel
theorem d_X11_let_9 : decode (D_X11_let).2.1 9 = .ok (.iconst 1, 1) := by decide +kernel
theorem d_X11_let_10 : decode (D_X11_let).2.1 10 = .ok (.invokevirtual 124, 3) := by decide +kernel
theorem d_X11_let_13 : decode (D_X11_let).2.1 13 = .ok (.ireturn, 1) := by decide +kernel
theorem d_X11_let_14 : decode (D_X11_let).2.1 14 = .ok (.aload_n 0, 1) := by decide +kernel
theorem d_X11_let_15 : decode (D_X11_let).2.1 15 = .ok (.getfield 60, 3) := by decide +kernel
theorem d_X11_let_18 : decode (D_X11_let).2.1 18 = .ok (.iload_n 1, 1) := by decide +kernel
theorem d_X11_let_19 : decode (D_X11_let).2.1 19 = .ok (.invokevirtual 282, 3) := by decide +kernel
theorem d_X11_let_22 : decode (D_X11_let).2.1 22 = .ok (.ifCond .ne 18, 3) := by decide +kernel
theorem d_X11_let_25 : decode (D_X11_let).2.1 25 = .ok (.aload_n 0, 1) := by decide +kernel
theorem d_X11_let_26 : decode (D_X11_let).2.1 26 = .ok (.getfield 60, 3) := by decide +kernel
theorem d_X11_let_29 : decode (D_X11_let).2.1 29 = .ok (.getfield 227, 3) := by decide +kernel
theorem d_X11_let_32 : decode (D_X11_let).2.1 32 = .ok (.iload_n 1, 1) := by decide +kernel
theorem d_X11_let_33 : decode (D_X11_let).2.1 33 = .ok (.invokestatic 310, 3) := by decide +kernel
theorem d_X11_let_36 : decode (D_X11_let).2.1 36 = .ok (.iload_n 2, 1) := by decide +kernel
theorem d_X11_let_37 : decode (D_X11_let).2.1 37 = .ok (.if_icmp .ne 10, 3) := by decide +kernel
theorem d_X11_let_40 : decode (D_X11_let).2.1 40 = .ok (.aload_n 0, 1) := by decide +kernel
theorem d_X11_let_41 : decode (D_X11_let).2.1 41 = .ok (.bipush 7, 2) := by decide +kernel
theorem d_X11_let_43 : decode (D_X11_let).2.1 43 = .ok (.invokevirtual 124, 3) := by decide +kernel
theorem d_X11_let_46 : decode (D_X11_let).2.1 46 = .ok (.ireturn, 1) := by decide +kernel
theorem d_X11_let_47 : decode (D_X11_let).2.1 47 = .ok (.aload_n 0, 1) := by decide +kernel
theorem d_X11_let_48 : decode (D_X11_let).2.1 48 = .ok (.getfield 60, 3) := by decide +kernel
theorem d_X11_let_51 : decode (D_X11_let).2.1 51 = .ok (.iload_n 1, 1) := by decide +kernel
theorem d_X11_let_52 : decode (D_X11_let).2.1 52 = .ok (.invokevirtual 317, 3) := by decide +kernel
theorem d_X11_let_55 : decode (D_X11_let).2.1 55 = .ok (.aload_n 0, 1) := by decide +kernel
theorem d_X11_let_56 : decode (D_X11_let).2.1 56 = .ok (.invokevirtual 131, 3) := by decide +kernel
theorem d_X11_let_59 : decode (D_X11_let).2.1 59 = .ok (.ireturn, 1) := by decide +kernel
def f_X11_let_L40 (n : Nat) (M : JMem) : Option (Int × JMem) := bnd (f_X11_deny n 7 M) fun r1 M2 => chk (jw r1 = 0 ∨ jw r1 = 1) (some (r1, M2))
set_option maxRecDepth 4000 in
theorem t_X11_let_L40 {g : JG} {ad : Nat → Nat} (hs : jStr g ad) (n : Nat) (M : JMem) : jB g D_X11_let ad 40 [some (.ref 0), none, none] [] M (f_X11_let_L40 n M) := by
  unfold f_X11_let_L40
  refine jo_aload 0 d_X11_let_40 rfl rfl ?_
  refine jo_bipush 7 d_X11_let_41 (by decide) ?_
  refine jo_callV (st := []) (m_X11_deny hs n 7 M) ok_X11_deny (And.intro (Nat.le_of_ble_eq_true rfl) (Nat.le_of_ble_eq_true rfl)) lm_X11_124 in_X11_deny se_X11_deny rfl kc_0 rfl rfl (And.intro (Nat.zero_le _) (Nat.zero_le _)) rfl (Nat.le_of_ble_eq_true rfl) d_X11_let_43 (fun r1 M2 => ?_)
  exact jo_zretq rfl d_X11_let_46
def f_X11_let (n : Nat) (x1 : Int) (x2 : Int) (M : JMem) : Option (Int × JMem) := bnd (f_X11_isBeast n x1 M) fun r1 M2 => if jw r1 = 0 then (bnd (f_X11_deny n 1 M2) fun r11 M12 => chk (jw r11 = 0 ∨ jw r11 = 1) (some (r11, M12))) else (bnd (f_X1_isEaten n 52 x1 M2) fun r3 M4 => if jw r3 = 0 then (bnd (f_X11_isIn n (M4 52 2) x1 M4) fun r5 M6 => if jw r5 = jw x2 then (f_X11_let_L40 n M6) else (bnd (f_X1_turnOut n 52 x1 M6) fun _ M8 => bnd (f_X11_allow n M8) fun r9 M10 => chk (jw r9 = 0 ∨ jw r9 = 1) (some (r9, M10)))) else (f_X11_let_L40 n M4))
set_option maxRecDepth 4000 in
theorem t_X11_let {g : JG} {ad : Nat → Nat} (hs : jStr g ad) (n : Nat) (x1 : Int) (x2 : Int) (M : JMem) : jB g D_X11_let ad 0 [some (.ref 0), some (ji x1), some (ji x2)] [] M (f_X11_let n x1 x2 M) := by
  unfold f_X11_let
  refine jo_aload 0 d_X11_let_0 rfl rfl ?_
  refine jo_iload 1 d_X11_let_1 rfl rfl ?_
  refine jo_callV (st := []) (m_X11_isBeast hs n x1 M) ok_X11_isBeast (And.intro (Nat.le_of_ble_eq_true rfl) (Nat.le_of_ble_eq_true rfl)) lm_X11_264 in_X11_isBeast se_X11_isBeast rfl kc_0 rfl rfl (And.intro (Nat.zero_le _) (Nat.zero_le _)) rfl (Nat.le_of_ble_eq_true rfl) d_X11_let_2 (fun r1 M2 => ?_)
  refine jo_if_ne 14 d_X11_let_5 (by decide) ?_ ?_
  · skip
    refine jo_aload 0 d_X11_let_14 rfl rfl ?_
    refine jo_getR (k := 8) cl_11 (Nat.le_of_ble_eq_true rfl) lk_X11_60 rfl kc_0 kr_0_8 d_X11_let_15 ?_
    refine jo_iload 1 d_X11_let_18 rfl rfl ?_
    refine jo_callV (st := []) (m_X1_isEaten hs n 52 x1 kc_52 M2) ok_X1_isEaten (And.intro (Nat.le_of_ble_eq_true rfl) (Nat.le_of_ble_eq_true rfl)) lm_X11_282 in_X1_isEaten se_X1_isEaten rfl kc_52 rfl rfl (And.intro (Nat.zero_le _) (Nat.zero_le _)) rfl (Nat.le_of_ble_eq_true rfl) d_X11_let_19 (fun r3 M4 => ?_)
    refine jo_if_ne 40 d_X11_let_22 (by decide) ?_ ?_
    · skip
      exact jO.sub (t_X11_let_L40 hs n M4) (And.intro rfl True.intro)
    · skip
      refine jo_aload 0 d_X11_let_25 rfl rfl ?_
      refine jo_getR (k := 8) cl_11 (Nat.le_of_ble_eq_true rfl) lk_X11_60 rfl kc_0 kr_0_8 d_X11_let_26 ?_
      refine jo_getI (k := 2) cl_1 (Nat.le_of_ble_eq_true rfl) lk_X11_227 (Or.inl rfl) kc_52 d_X11_let_29 ?_
      refine jo_iload 1 d_X11_let_32 rfl rfl ?_
      refine jo_callS (st := []) (m_X11_isIn hs n (M4 52 2) x1 M4) ok_X11_isIn (And.intro (Nat.le_of_ble_eq_true rfl) (Nat.le_of_ble_eq_true rfl)) lm_X11_310 st_X11_isIn rfl (And.intro (Nat.zero_le _) (Nat.zero_le _)) rfl (Nat.le_of_ble_eq_true rfl) d_X11_let_33 (fun r5 M6 => ?_)
      refine jo_iload 2 d_X11_let_36 rfl rfl ?_
      refine jo_icmp_ne 47 d_X11_let_37 (by decide) ?_ ?_
      · skip
        refine jo_aload 0 d_X11_let_47 rfl rfl ?_
        refine jo_getR (k := 8) cl_11 (Nat.le_of_ble_eq_true rfl) lk_X11_60 rfl kc_0 kr_0_8 d_X11_let_48 ?_
        refine jo_iload 1 d_X11_let_51 rfl rfl ?_
        refine jo_callV (st := []) (m_X1_turnOut hs n 52 x1 kc_52 M6) ok_X1_turnOut (And.intro (Nat.le_of_ble_eq_true rfl) (Nat.le_of_ble_eq_true rfl)) lm_X11_317 in_X1_turnOut se_X1_turnOut rfl kc_52 rfl rfl (And.intro (Nat.zero_le _) (Nat.zero_le _)) rfl (Nat.le_of_ble_eq_true rfl) d_X11_let_52 (fun _ M8 => ?_)
        refine jo_aload 0 d_X11_let_55 rfl rfl ?_
        refine jo_callV (st := []) (m_X11_allow hs n M8) ok_X11_allow (And.intro (Nat.le_of_ble_eq_true rfl) (Nat.le_of_ble_eq_true rfl)) lm_X11_131 in_X11_allow se_X11_allow rfl kc_0 rfl rfl (And.intro (Nat.zero_le _) (Nat.zero_le _)) rfl (Nat.le_of_ble_eq_true rfl) d_X11_let_56 (fun r9 M10 => ?_)
        exact jo_zretq rfl d_X11_let_59
      · skip
        exact jO.sub (t_X11_let_L40 hs n M6) (And.intro rfl True.intro)
  · skip
    refine jo_aload 0 d_X11_let_8 rfl rfl ?_
    refine jo_iconst 1 d_X11_let_9 ?_
    refine jo_callV (st := []) (m_X11_deny hs n 1 M2) ok_X11_deny (And.intro (Nat.le_of_ble_eq_true rfl) (Nat.le_of_ble_eq_true rfl)) lm_X11_124 in_X11_deny se_X11_deny rfl kc_0 rfl rfl (And.intro (Nat.zero_le _) (Nat.zero_le _)) rfl (Nat.le_of_ble_eq_true rfl) d_X11_let_10 (fun r11 M12 => ?_)
    exact jo_zretq rfl d_X11_let_13
theorem m_X11_let {g : JG} {ad : Nat → Nat} (hs : jStr g ad) (n : Nat) (x1 : Int) (x2 : Int) (M : JMem) : jMet g jNN ad jR D_X11_let yX11_let [.ref 0, ji x1, ji x2] M (f_X11_let n x1 x2 M) :=
  jMet.of (lo0 := [some (.ref 0), some (ji x1), some (ji x2)]) (by decide) rfl rfl (Nat.le_of_ble_eq_true rfl) (And.intro rfl (And.intro rfl (And.intro rfl True.intro))) (t_X11_let hs n x1 x2 M)
/-! CageLeave.live(I)I -/
def D_X11_live : JD := (RX11, cX11_live, 2, some .int, "live", { frames := 7, cells := 0, slots := 0, locals := 169 })
theorem ok_X11_live : jOk D_X11_live yX11_live 1 := ⟨jTW_mem (k := 1311) (by decide +kernel) rfl, jTW_mem (k := 135) (by decide +kernel) rfl, ⟨by decide +kernel, by decide +kernel⟩, by decide +kernel, rfl, rfl⟩
theorem in_X11_live : Cond.instanceMethod yX11_live ∈ jTW := jTW_mem (k := 1309) (by decide +kernel) rfl
theorem se_X11_live : Cond.selects yX11_live.cls yX11_live yX11_live ∈ jTW := jTW_mem (k := 1310) (by decide +kernel) rfl
theorem lk_X11_67 : Cond.fieldLink RX11 67 (TX11 9).1 (TX11 9).2.1 (TX11 9).2.2.1 ∈ jTW := jTW_mem (k := 616) (by decide +kernel) rfl
theorem lk_X11_411 : Cond.fieldLink RX11 411 (TX9 0).1 (TX9 0).2.1 (TX9 0).2.2.1 ∈ jTW := jTW_mem (k := 483) (by decide +kernel) rfl
theorem lk_X11_113 : Cond.fieldLink RX11 113 (TX11 18).1 (TX11 18).2.1 (TX11 18).2.2.1 ∈ jTW := jTW_mem (k := 625) (by decide +kernel) rfl
theorem lm_X11_415 : Cond.methodLink RX11 415 yX0_run ∈ jTW := jTW_mem (k := 1312) (by decide +kernel) rfl
theorem lk_X11_419 : Cond.fieldLink RX11 419 (TX0 0).1 (TX0 0).2.1 (TX0 0).2.2.1 ∈ jTW := jTW_mem (k := 590) (by decide +kernel) rfl
theorem d_X11_live_0 : decode (D_X11_live).2.1 0 = .ok (.iload_n 1, 1) := by decide +kernel
theorem d_X11_live_1 : decode (D_X11_live).2.1 1 = .ok (.ifCond .lt 10, 3) := by decide +kernel
theorem d_X11_live_4 : decode (D_X11_live).2.1 4 = .ok (.iload_n 1, 1) := by decide +kernel
theorem d_X11_live_5 : decode (D_X11_live).2.1 5 = .ok (.sipush 9999, 3) := by decide +kernel
theorem d_X11_live_8 : decode (D_X11_live).2.1 8 = .ok (.if_icmp .le 9, 3) := by decide +kernel
theorem d_X11_live_11 : decode (D_X11_live).2.1 11 = .ok (.aload_n 0, 1) := by decide +kernel
theorem d_X11_live_12 : decode (D_X11_live).2.1 12 = .ok (.iconst 1, 1) := by decide +kernel
theorem d_X11_live_13 : decode (D_X11_live).2.1 13 = .ok (.invokevirtual 143, 3) := by decide +kernel
theorem d_X11_live_16 : decode (D_X11_live).2.1 16 = .ok (.ireturn, 1) := by decide +kernel
theorem d_X11_live_17 : decode (D_X11_live).2.1 17 = .ok (.aload_n 0, 1) := by decide +kernel
theorem d_X11_live_18 : decode (D_X11_live).2.1 18 = .ok (.getfield 67, 3) := by decide +kernel
theorem d_X11_live_21 : decode (D_X11_live).2.1 21 = .ok (.getfield 411, 3) := by decide +kernel
theorem d_X11_live_24 : decode (D_X11_live).2.1 24 = .ok (.ifCond .ne 10, 3) := by decide +kernel
theorem d_X11_live_27 : decode (D_X11_live).2.1 27 = .ok (.aload_n 0, 1) := by decide +kernel
theorem d_X11_live_28 : decode (D_X11_live).2.1 28 = .ok (.bipush 6, 2) := by decide +kernel
theorem d_X11_live_30 : decode (D_X11_live).2.1 30 = .ok (.invokevirtual 143, 3) := by decide +kernel
theorem d_X11_live_33 : decode (D_X11_live).2.1 33 = .ok (.ireturn, 1) := by decide +kernel
theorem d_X11_live_34 : decode (D_X11_live).2.1 34 = .ok (.aload_n 0, 1) := by decide +kernel
theorem d_X11_live_35 : decode (D_X11_live).2.1 35 = .ok (.getfield 113, 3) := by decide +kernel
theorem d_X11_live_38 : decode (D_X11_live).2.1 38 = .ok (.aload_n 0, 1) := by decide +kernel
theorem d_X11_live_39 : decode (D_X11_live).2.1 39 = .ok (.getfield 53, 3) := by decide +kernel
theorem d_X11_live_42 : decode (D_X11_live).2.1 42 = .ok (.aload_n 0, 1) := by decide +kernel
theorem d_X11_live_43 : decode (D_X11_live).2.1 43 = .ok (.getfield 60, 3) := by decide +kernel
theorem d_X11_live_46 : decode (D_X11_live).2.1 46 = .ok (.aload_n 0, 1) := by decide +kernel
theorem d_X11_live_47 : decode (D_X11_live).2.1 47 = .ok (.getfield 67, 3) := by decide +kernel
theorem d_X11_live_50 : decode (D_X11_live).2.1 50 = .ok (.iload_n 1, 1) := by decide +kernel
theorem d_X11_live_51 : decode (D_X11_live).2.1 51 = .ok (.invokevirtual 415, 3) := by decide +kernel
theorem d_X11_live_54 : decode (D_X11_live).2.1 54 = .ok (.aload_n 0, 1) := by decide +kernel
theorem d_X11_live_55 : decode (D_X11_live).2.1 55 = .ok (.aload_n 0, 1) := by decide +kernel
theorem d_X11_live_56 : decode (D_X11_live).2.1 56 = .ok (.getfield 113, 3) := by decide +kernel
theorem d_X11_live_59 : decode (D_X11_live).2.1 59 = .ok (.getfield 419, 3) := by decide +kernel
theorem d_X11_live_62 : decode (D_X11_live).2.1 62 = .ok (.invokevirtual 193, 3) := by decide +kernel
theorem d_X11_live_65 : decode (D_X11_live).2.1 65 = .ok (.ireturn, 1) := by decide +kernel
def f_X11_live_L11 (n : Nat) (M : JMem) : Option (Int × JMem) := bnd (f_X11_refuse n 1 M) fun r1 M2 => some (r1, M2)
set_option maxRecDepth 4000 in
theorem t_X11_live_L11 {g : JG} {ad : Nat → Nat} (hs : jStr g ad) (n : Nat) (M : JMem) : jB g D_X11_live ad 11 [some (.ref 0), none] [] M (f_X11_live_L11 n M) := by
  unfold f_X11_live_L11
  refine jo_aload 0 d_X11_live_11 rfl rfl ?_
  refine jo_iconst 1 d_X11_live_12 ?_
  refine jo_callV (st := []) (m_X11_refuse hs n 1 M) ok_X11_refuse (And.intro (Nat.le_of_ble_eq_true rfl) (Nat.le_of_ble_eq_true rfl)) lm_X11_143 in_X11_refuse se_X11_refuse rfl kc_0 rfl rfl (And.intro (Nat.zero_le _) (Nat.zero_le _)) rfl (Nat.le_of_ble_eq_true rfl) d_X11_live_13 (fun r1 M2 => ?_)
  exact jo_iret rfl d_X11_live_16
def f_X11_live (n : Nat) (x1 : Int) (M : JMem) : Option (Int × JMem) := if jw x1 < 0 then (f_X11_live_L11 n M) else (if jw x1 ≤ jw 9999 then (if jw (M 60 0) = 0 then (bnd (f_X11_refuse n 6 M) fun r5 M6 => some (r5, M6)) else (bnd (f_X0_run n 86 40 52 60 x1 M) fun _ M2 => bnd (f_X11_answer n (M2 86 0) M2) fun r3 M4 => some (r3, M4))) else (f_X11_live_L11 n M))
set_option maxRecDepth 4000 in
theorem t_X11_live {g : JG} {ad : Nat → Nat} (hs : jStr g ad) (n : Nat) (x1 : Int) (M : JMem) : jB g D_X11_live ad 0 [some (.ref 0), some (ji x1)] [] M (f_X11_live n x1 M) := by
  unfold f_X11_live
  refine jo_iload 1 d_X11_live_0 rfl rfl ?_
  refine jo_if_lt 11 d_X11_live_1 (by decide) ?_ ?_
  · skip
    exact jO.sub (t_X11_live_L11 hs n M) (And.intro rfl True.intro)
  · skip
    refine jo_iload 1 d_X11_live_4 rfl rfl ?_
    refine jo_sipush 9999 d_X11_live_5 (by decide) ?_
    refine jo_icmp_le 17 d_X11_live_8 (by decide) ?_ ?_
    · skip
      refine jo_aload 0 d_X11_live_17 rfl rfl ?_
      refine jo_getR (k := 9) cl_11 (Nat.le_of_ble_eq_true rfl) lk_X11_67 rfl kc_0 kr_0_9 d_X11_live_18 ?_
      refine jo_getI (k := 0) cl_9 (Nat.le_of_ble_eq_true rfl) lk_X11_411 (Or.inr rfl) kc_60 d_X11_live_21 ?_
      refine jo_if_ne 34 d_X11_live_24 (by decide) ?_ ?_
      · skip
        refine jo_aload 0 d_X11_live_34 rfl rfl ?_
        refine jo_getR (k := 18) cl_11 (Nat.le_of_ble_eq_true rfl) lk_X11_113 rfl kc_0 kr_0_18 d_X11_live_35 ?_
        refine jo_aload 0 d_X11_live_38 rfl rfl ?_
        refine jo_getR (k := 7) cl_11 (Nat.le_of_ble_eq_true rfl) lk_X11_53 rfl kc_0 kr_0_7 d_X11_live_39 ?_
        refine jo_aload 0 d_X11_live_42 rfl rfl ?_
        refine jo_getR (k := 8) cl_11 (Nat.le_of_ble_eq_true rfl) lk_X11_60 rfl kc_0 kr_0_8 d_X11_live_43 ?_
        refine jo_aload 0 d_X11_live_46 rfl rfl ?_
        refine jo_getR (k := 9) cl_11 (Nat.le_of_ble_eq_true rfl) lk_X11_67 rfl kc_0 kr_0_9 d_X11_live_47 ?_
        refine jo_iload 1 d_X11_live_50 rfl rfl ?_
        refine jo_callV (st := []) (m_X0_run hs n 86 40 52 60 x1 kc_86 kc_40 kc_52 kc_60 M) ok_X0_run (And.intro (Nat.le_of_ble_eq_true rfl) (Nat.le_of_ble_eq_true rfl)) lm_X11_415 in_X0_run se_X0_run rfl kc_86 rfl rfl (And.intro (Nat.zero_le _) (Nat.zero_le _)) rfl (Nat.le_of_ble_eq_true rfl) d_X11_live_51 (fun _ M2 => ?_)
        refine jo_aload 0 d_X11_live_54 rfl rfl ?_
        refine jo_aload 0 d_X11_live_55 rfl rfl ?_
        refine jo_getR (k := 18) cl_11 (Nat.le_of_ble_eq_true rfl) lk_X11_113 rfl kc_0 kr_0_18 d_X11_live_56 ?_
        refine jo_getI (k := 0) cl_0 (Nat.le_of_ble_eq_true rfl) lk_X11_419 (Or.inl rfl) kc_86 d_X11_live_59 ?_
        refine jo_callV (st := []) (m_X11_answer hs n (M2 86 0) M2) ok_X11_answer (And.intro (Nat.le_of_ble_eq_true rfl) (Nat.le_of_ble_eq_true rfl)) lm_X11_193 in_X11_answer se_X11_answer rfl kc_0 rfl rfl (And.intro (Nat.zero_le _) (Nat.zero_le _)) rfl (Nat.le_of_ble_eq_true rfl) d_X11_live_62 (fun r3 M4 => ?_)
        exact jo_iret rfl d_X11_live_65
      · skip
        refine jo_aload 0 d_X11_live_27 rfl rfl ?_
        refine jo_bipush 6 d_X11_live_28 (by decide) ?_
        refine jo_callV (st := []) (m_X11_refuse hs n 6 M) ok_X11_refuse (And.intro (Nat.le_of_ble_eq_true rfl) (Nat.le_of_ble_eq_true rfl)) lm_X11_143 in_X11_refuse se_X11_refuse rfl kc_0 rfl rfl (And.intro (Nat.zero_le _) (Nat.zero_le _)) rfl (Nat.le_of_ble_eq_true rfl) d_X11_live_30 (fun r5 M6 => ?_)
        exact jo_iret rfl d_X11_live_33
    · skip
      exact jO.sub (t_X11_live_L11 hs n M) (And.intro rfl True.intro)
theorem m_X11_live {g : JG} {ad : Nat → Nat} (hs : jStr g ad) (n : Nat) (x1 : Int) (M : JMem) : jMet g jNN ad jR D_X11_live yX11_live [.ref 0, ji x1] M (f_X11_live n x1 M) :=
  jMet.of (lo0 := [some (.ref 0), some (ji x1)]) (by decide) rfl rfl (Nat.le_of_ble_eq_true rfl) (And.intro rfl (And.intro rfl True.intro)) (t_X11_live hs n x1 M)
/-! CageLeave.lived(I)I -/
def D_X11_lived : JD := (RX11, cX11_lived, 2, some .int, "lived", { frames := 1, cells := 0, slots := 0, locals := 21 })
theorem ok_X11_lived : jOk D_X11_lived yX11_lived 1 := ⟨jTW_mem (k := 1353) (by decide +kernel) rfl, jTW_mem (k := 135) (by decide +kernel) rfl, ⟨by decide +kernel, by decide +kernel⟩, by decide +kernel, rfl, rfl⟩
theorem in_X11_lived : Cond.instanceMethod yX11_lived ∈ jTW := jTW_mem (k := 1351) (by decide +kernel) rfl
theorem se_X11_lived : Cond.selects yX11_lived.cls yX11_lived yX11_lived ∈ jTW := jTW_mem (k := 1352) (by decide +kernel) rfl
theorem lk_X11_420 : Cond.fieldLink RX11 420 (TX0 1).1 (TX0 1).2.1 (TX0 1).2.2.1 ∈ jTW := jTW_mem (k := 592) (by decide +kernel) rfl
theorem d_X11_lived_0 : decode (D_X11_lived).2.1 0 = .ok (.iload_n 1, 1) := by decide +kernel
theorem d_X11_lived_1 : decode (D_X11_lived).2.1 1 = .ok (.ifCond .lt 8, 3) := by decide +kernel
theorem d_X11_lived_4 : decode (D_X11_lived).2.1 4 = .ok (.iload_n 1, 1) := by decide +kernel
theorem d_X11_lived_5 : decode (D_X11_lived).2.1 5 = .ok (.iconst 5, 1) := by decide +kernel
theorem d_X11_lived_6 : decode (D_X11_lived).2.1 6 = .ok (.if_icmp .lt 9, 3) := by decide +kernel
theorem d_X11_lived_9 : decode (D_X11_lived).2.1 9 = .ok (.aload_n 0, 1) := by decide +kernel
theorem d_X11_lived_10 : decode (D_X11_lived).2.1 10 = .ok (.iconst 1, 1) := by decide +kernel
theorem d_X11_lived_11 : decode (D_X11_lived).2.1 11 = .ok (.invokevirtual 143, 3) := by decide +kernel
theorem d_X11_lived_14 : decode (D_X11_lived).2.1 14 = .ok (.ireturn, 1) := by decide +kernel
theorem d_X11_lived_15 : decode (D_X11_lived).2.1 15 = .ok (.aload_n 0, 1) := by decide +kernel
theorem d_X11_lived_16 : decode (D_X11_lived).2.1 16 = .ok (.getfield 113, 3) := by decide +kernel
theorem d_X11_lived_19 : decode (D_X11_lived).2.1 19 = .ok (.getfield 419, 3) := by decide +kernel
theorem d_X11_lived_22 : decode (D_X11_lived).2.1 22 = .ok (.iconst (-1), 1) := by decide +kernel
theorem d_X11_lived_23 : decode (D_X11_lived).2.1 23 = .ok (.if_icmp .ne 12, 3) := by decide +kernel
theorem d_X11_lived_26 : decode (D_X11_lived).2.1 26 = .ok (.aload_n 0, 1) := by decide +kernel
theorem d_X11_lived_27 : decode (D_X11_lived).2.1 27 = .ok (.bipush 6, 2) := by decide +kernel
theorem d_X11_lived_29 : decode (D_X11_lived).2.1 29 = .ok (.invokevirtual 143, 3) := by decide +kernel
theorem d_X11_lived_32 : decode (D_X11_lived).2.1 32 = .ok (.goto 16, 3) := by decide +kernel
theorem d_X11_lived_35 : decode (D_X11_lived).2.1 35 = .ok (.aload_n 0, 1) := by decide +kernel
theorem d_X11_lived_36 : decode (D_X11_lived).2.1 36 = .ok (.aload_n 0, 1) := by decide +kernel
theorem d_X11_lived_37 : decode (D_X11_lived).2.1 37 = .ok (.getfield 113, 3) := by decide +kernel
theorem d_X11_lived_40 : decode (D_X11_lived).2.1 40 = .ok (.getfield 420, 3) := by decide +kernel
theorem d_X11_lived_43 : decode (D_X11_lived).2.1 43 = .ok (.iload_n 1, 1) := by decide +kernel
theorem d_X11_lived_44 : decode (D_X11_lived).2.1 44 = .ok (.iaload, 1) := by decide +kernel
theorem d_X11_lived_45 : decode (D_X11_lived).2.1 45 = .ok (.invokevirtual 193, 3) := by decide +kernel
theorem d_X11_lived_48 : decode (D_X11_lived).2.1 48 = .ok (.ireturn, 1) := by decide +kernel
def f_X11_lived_L9 (n : Nat) (M : JMem) : Option (Int × JMem) := bnd (f_X11_refuse n 1 M) fun r1 M2 => some (r1, M2)
set_option maxRecDepth 4000 in
theorem t_X11_lived_L9 {g : JG} {ad : Nat → Nat} (hs : jStr g ad) (n : Nat) (M : JMem) : jB g D_X11_lived ad 9 [some (.ref 0), none] [] M (f_X11_lived_L9 n M) := by
  unfold f_X11_lived_L9
  refine jo_aload 0 d_X11_lived_9 rfl rfl ?_
  refine jo_iconst 1 d_X11_lived_10 ?_
  refine jo_callV (st := []) (m_X11_refuse hs n 1 M) ok_X11_refuse (And.intro (Nat.le_of_ble_eq_true rfl) (Nat.le_of_ble_eq_true rfl)) lm_X11_143 in_X11_refuse se_X11_refuse rfl kc_0 rfl rfl (And.intro (Nat.zero_le _) (Nat.zero_le _)) rfl (Nat.le_of_ble_eq_true rfl) d_X11_lived_11 (fun r1 M2 => ?_)
  exact jo_iret rfl d_X11_lived_14
def f_X11_lived (n : Nat) (x1 : Int) (M : JMem) : Option (Int × JMem) := if jw x1 < 0 then (f_X11_lived_L9 n M) else (if jw x1 < jw 5 then (if jw (M 86 0) = jw (-1) then (bnd (f_X11_refuse n 6 M) fun r3 M4 => some (r3, M4)) else (chk (jin x1 5) <| bnd (f_X11_answer n (M (86 + 1) (jw x1).toNat) M) fun r1 M2 => some (r1, M2))) else (f_X11_lived_L9 n M))
set_option maxRecDepth 4000 in
theorem t_X11_lived {g : JG} {ad : Nat → Nat} (hs : jStr g ad) (n : Nat) (x1 : Int) (M : JMem) : jB g D_X11_lived ad 0 [some (.ref 0), some (ji x1)] [] M (f_X11_lived n x1 M) := by
  unfold f_X11_lived
  refine jo_iload 1 d_X11_lived_0 rfl rfl ?_
  refine jo_if_lt 9 d_X11_lived_1 (by decide) ?_ ?_
  · skip
    exact jO.sub (t_X11_lived_L9 hs n M) (And.intro rfl True.intro)
  · skip
    refine jo_iload 1 d_X11_lived_4 rfl rfl ?_
    refine jo_iconst 5 d_X11_lived_5 ?_
    refine jo_icmp_lt 15 d_X11_lived_6 (by decide) ?_ ?_
    · skip
      refine jo_aload 0 d_X11_lived_15 rfl rfl ?_
      refine jo_getR (k := 18) cl_11 (Nat.le_of_ble_eq_true rfl) lk_X11_113 rfl kc_0 kr_0_18 d_X11_lived_16 ?_
      refine jo_getI (k := 0) cl_0 (Nat.le_of_ble_eq_true rfl) lk_X11_419 (Or.inl rfl) kc_86 d_X11_lived_19 ?_
      refine jo_iconst (-1) d_X11_lived_22 ?_
      refine jo_icmp_ne 35 d_X11_lived_23 (by decide) ?_ ?_
      · skip
        refine jo_aload 0 d_X11_lived_35 rfl rfl ?_
        refine jo_aload 0 d_X11_lived_36 rfl rfl ?_
        refine jo_getR (k := 18) cl_11 (Nat.le_of_ble_eq_true rfl) lk_X11_113 rfl kc_0 kr_0_18 d_X11_lived_37 ?_
        refine jo_getR (k := 1) cl_0 (Nat.le_of_ble_eq_true rfl) lk_X11_420 rfl kc_86 (kr_Life_1 kc_86) d_X11_lived_40 ?_
        refine jo_iload 1 d_X11_lived_43 rfl rfl ?_
        refine jo_iald (N := 5) (ka_Life_1 kc_86) d_X11_lived_44 ?_
        refine jo_callV (st := []) (m_X11_answer hs n (M (86 + 1) (jw x1).toNat) M) ok_X11_answer (And.intro (Nat.le_of_ble_eq_true rfl) (Nat.le_of_ble_eq_true rfl)) lm_X11_193 in_X11_answer se_X11_answer rfl kc_0 rfl rfl (And.intro (Nat.zero_le _) (Nat.zero_le _)) rfl (Nat.le_of_ble_eq_true rfl) d_X11_lived_45 (fun r1 M2 => ?_)
        exact jo_iret rfl d_X11_lived_48
      · skip
        refine jo_aload 0 d_X11_lived_26 rfl rfl ?_
        refine jo_bipush 6 d_X11_lived_27 (by decide) ?_
        refine jo_callV (st := []) (m_X11_refuse hs n 6 M) ok_X11_refuse (And.intro (Nat.le_of_ble_eq_true rfl) (Nat.le_of_ble_eq_true rfl)) lm_X11_143 in_X11_refuse se_X11_refuse rfl kc_0 rfl rfl (And.intro (Nat.zero_le _) (Nat.zero_le _)) rfl (Nat.le_of_ble_eq_true rfl) d_X11_lived_29 (fun r3 M4 => ?_)
        refine jo_goto 48 d_X11_lived_32 (by decide) ?_
        exact jo_iret rfl d_X11_lived_48
    · skip
      exact jO.sub (t_X11_lived_L9 hs n M) (And.intro rfl True.intro)
theorem m_X11_lived {g : JG} {ad : Nat → Nat} (hs : jStr g ad) (n : Nat) (x1 : Int) (M : JMem) : jMet g jNN ad jR D_X11_lived yX11_lived [.ref 0, ji x1] M (f_X11_lived n x1 M) :=
  jMet.of (lo0 := [some (.ref 0), some (ji x1)]) (by decide) rfl rfl (Nat.le_of_ble_eq_true rfl) (And.intro rfl (And.intro rfl True.intro)) (t_X11_lived hs n x1 M)
/-! CageLeave.mark()I -/
def D_X11_mark : JD := (RX11, cX11_mark, 1, some .int, "mark", { frames := 2, cells := 0, slots := 0, locals := 81 })
theorem ok_X11_mark : jOk D_X11_mark yX11_mark 0 := ⟨jTW_mem (k := 1361) (by decide +kernel) rfl, jTW_mem (k := 135) (by decide +kernel) rfl, ⟨by decide +kernel, by decide +kernel⟩, by decide +kernel, rfl, rfl⟩
theorem in_X11_mark : Cond.instanceMethod yX11_mark ∈ jTW := jTW_mem (k := 1359) (by decide +kernel) rfl
theorem se_X11_mark : Cond.selects yX11_mark.cls yX11_mark yX11_mark ∈ jTW := jTW_mem (k := 1360) (by decide +kernel) rfl
theorem lk_X11_83 : Cond.fieldLink RX11 83 (TX11 13).1 (TX11 13).2.1 (TX11 13).2.2.1 ∈ jTW := jTW_mem (k := 620) (by decide +kernel) rfl
theorem lk_X11_71 : Cond.fieldLink RX11 71 (TX11 10).1 (TX11 10).2.1 (TX11 10).2.2.1 ∈ jTW := jTW_mem (k := 617) (by decide +kernel) rfl
theorem lm_X11_179 : Cond.methodLink RX11 179 yX4_copyFrom ∈ jTW := jTW_mem (k := 873) (by decide +kernel) rfl
theorem lk_X11_75 : Cond.fieldLink RX11 75 (TX11 11).1 (TX11 11).2.1 (TX11 11).2.2.1 ∈ jTW := jTW_mem (k := 618) (by decide +kernel) rfl
theorem lk_X11_79 : Cond.fieldLink RX11 79 (TX11 12).1 (TX11 12).2.1 (TX11 12).2.2.1 ∈ jTW := jTW_mem (k := 619) (by decide +kernel) rfl
theorem lm_X11_200 : Cond.methodLink RX11 200 yX9_copyFrom ∈ jTW := jTW_mem (k := 936) (by decide +kernel) rfl
theorem d_X11_mark_0 : decode (D_X11_mark).2.1 0 = .ok (.aload_n 0, 1) := by decide +kernel
theorem d_X11_mark_1 : decode (D_X11_mark).2.1 1 = .ok (.getfield 83, 3) := by decide +kernel
theorem d_X11_mark_4 : decode (D_X11_mark).2.1 4 = .ok (.iconst 3, 1) := by decide +kernel
theorem d_X11_mark_5 : decode (D_X11_mark).2.1 5 = .ok (.if_icmp .lt 9, 3) := by decide +kernel
theorem d_X11_mark_8 : decode (D_X11_mark).2.1 8 = .ok (.aload_n 0, 1) := by decide +kernel
theorem d_X11_mark_9 : decode (D_X11_mark).2.1 9 = .ok (.iconst 4, 1) := by decide +kernel
theorem d_X11_mark_10 : decode (D_X11_mark).2.1 10 = .ok (.invokevirtual 143, 3) := by decide +kernel
theorem d_X11_mark_13 : decode (D_X11_mark).2.1 13 = .ok (.ireturn, 1) := by decide +kernel
theorem d_X11_mark_14 : decode (D_X11_mark).2.1 14 = .ok (.aload_n 0, 1) := by decide +kernel
theorem d_X11_mark_15 : decode (D_X11_mark).2.1 15 = .ok (.getfield 71, 3) := by decide +kernel
theorem d_X11_mark_18 : decode (D_X11_mark).2.1 18 = .ok (.aload_n 0, 1) := by decide +kernel
theorem d_X11_mark_19 : decode (D_X11_mark).2.1 19 = .ok (.getfield 83, 3) := by decide +kernel
theorem d_X11_mark_22 : decode (D_X11_mark).2.1 22 = .ok (.aaload, 1) := by decide +kernel
theorem d_X11_mark_23 : decode (D_X11_mark).2.1 23 = .ok (.aload_n 0, 1) := by decide +kernel
theorem d_X11_mark_24 : decode (D_X11_mark).2.1 24 = .ok (.getfield 53, 3) := by decide +kernel
theorem d_X11_mark_27 : decode (D_X11_mark).2.1 27 = .ok (.invokevirtual 179, 3) := by decide +kernel
theorem d_X11_mark_30 : decode (D_X11_mark).2.1 30 = .ok (.aload_n 0, 1) := by decide +kernel
theorem d_X11_mark_31 : decode (D_X11_mark).2.1 31 = .ok (.getfield 75, 3) := by decide +kernel
theorem d_X11_mark_34 : decode (D_X11_mark).2.1 34 = .ok (.aload_n 0, 1) := by decide +kernel
theorem d_X11_mark_35 : decode (D_X11_mark).2.1 35 = .ok (.getfield 83, 3) := by decide +kernel
theorem d_X11_mark_38 : decode (D_X11_mark).2.1 38 = .ok (.aaload, 1) := by decide +kernel
theorem d_X11_mark_39 : decode (D_X11_mark).2.1 39 = .ok (.aload_n 0, 1) := by decide +kernel
theorem d_X11_mark_40 : decode (D_X11_mark).2.1 40 = .ok (.getfield 60, 3) := by decide +kernel
theorem d_X11_mark_43 : decode (D_X11_mark).2.1 43 = .ok (.invokevirtual 184, 3) := by decide +kernel
theorem d_X11_mark_46 : decode (D_X11_mark).2.1 46 = .ok (.aload_n 0, 1) := by decide +kernel
theorem d_X11_mark_47 : decode (D_X11_mark).2.1 47 = .ok (.getfield 79, 3) := by decide +kernel
theorem d_X11_mark_50 : decode (D_X11_mark).2.1 50 = .ok (.aload_n 0, 1) := by decide +kernel
theorem d_X11_mark_51 : decode (D_X11_mark).2.1 51 = .ok (.getfield 83, 3) := by decide +kernel
theorem d_X11_mark_54 : decode (D_X11_mark).2.1 54 = .ok (.aaload, 1) := by decide +kernel
theorem d_X11_mark_55 : decode (D_X11_mark).2.1 55 = .ok (.aload_n 0, 1) := by decide +kernel
theorem d_X11_mark_56 : decode (D_X11_mark).2.1 56 = .ok (.getfield 67, 3) := by decide +kernel
theorem d_X11_mark_59 : decode (D_X11_mark).2.1 59 = .ok (.invokevirtual 200, 3) := by decide +kernel
theorem d_X11_mark_62 : decode (D_X11_mark).2.1 62 = .ok (.aload_n 0, 1) := by decide +kernel
theorem d_X11_mark_63 : decode (D_X11_mark).2.1 63 = .ok (.dup, 1) := by decide +kernel
theorem d_X11_mark_64 : decode (D_X11_mark).2.1 64 = .ok (.getfield 83, 3) := by decide +kernel
theorem d_X11_mark_67 : decode (D_X11_mark).2.1 67 = .ok (.iconst 1, 1) := by decide +kernel
theorem d_X11_mark_68 : decode (D_X11_mark).2.1 68 = .ok (.iadd, 1) := by decide +kernel
theorem d_X11_mark_69 : decode (D_X11_mark).2.1 69 = .ok (.putfield 83, 3) := by decide +kernel
theorem d_X11_mark_72 : decode (D_X11_mark).2.1 72 = .ok (.aload_n 0, 1) := by decide +kernel
theorem d_X11_mark_73 : decode (D_X11_mark).2.1 73 = .ok (.aload_n 0, 1) := by decide +kernel
theorem d_X11_mark_74 : decode (D_X11_mark).2.1 74 = .ok (.getfield 83, 3) := by decide +kernel
theorem d_X11_mark_77 : decode (D_X11_mark).2.1 77 = .ok (.invokevirtual 193, 3) := by decide +kernel
theorem d_X11_mark_80 : decode (D_X11_mark).2.1 80 = .ok (.ireturn, 1) := by decide +kernel
def f_X11_mark (n : Nat) (M : JMem) : Option (Int × JMem) := if jw (M 0 13) < jw 3 then (chk (jin (M 0 13) 3) <| bnd (f_X4_copyFrom n (jRn 65 (jw (M 0 13)).toNat) 40 M) fun _ M3 => chk (jin (M3 0 13) 3) <| bnd (f_X1_copyFrom n (jRn 66 (jw (M3 0 13)).toNat) 52 M3) fun _ M6 => chk (jin (M6 0 13) 3) <| bnd (f_X9_copyFrom n (jRn 67 (jw (M6 0 13)).toNat) 60 M6) fun _ M9 => letm (jup M9 0 13 ((M9 0 13) + 1)) fun M10 => bnd (f_X11_answer n (M10 0 13) M10) fun r11 M12 => some (r11, M12)) else (bnd (f_X11_refuse n 4 M) fun r13 M14 => some (r13, M14))
set_option maxRecDepth 4000 in
theorem t_X11_mark {g : JG} {ad : Nat → Nat} (hs : jStr g ad) (n : Nat) (M : JMem) : jB g D_X11_mark ad 0 [some (.ref 0)] [] M (f_X11_mark n M) := by
  unfold f_X11_mark
  refine jo_aload 0 d_X11_mark_0 rfl rfl ?_
  refine jo_getI (k := 13) cl_11 (Nat.le_of_ble_eq_true rfl) lk_X11_83 (Or.inl rfl) kc_0 d_X11_mark_1 ?_
  refine jo_iconst 3 d_X11_mark_4 ?_
  refine jo_icmp_lt 14 d_X11_mark_5 (by decide) ?_ ?_
  · skip
    refine jo_aload 0 d_X11_mark_14 rfl rfl ?_
    refine jo_getR (k := 10) cl_11 (Nat.le_of_ble_eq_true rfl) lk_X11_71 rfl kc_0 kr_0_10 d_X11_mark_15 ?_
    refine jo_aload 0 d_X11_mark_18 rfl rfl ?_
    refine jo_getI (k := 13) cl_11 (Nat.le_of_ble_eq_true rfl) lk_X11_83 (Or.inl rfl) kc_0 d_X11_mark_19 ?_
    refine jo_aald_65 d_X11_mark_22 (fun h1 => ?_)
    refine jo_aload 0 d_X11_mark_23 rfl rfl ?_
    refine jo_getR (k := 7) cl_11 (Nat.le_of_ble_eq_true rfl) lk_X11_53 rfl kc_0 kr_0_7 d_X11_mark_24 ?_
    refine jo_callV (st := []) (m_X4_copyFrom hs n (jRn 65 (jw (M 0 13)).toNat) 40 h1 kc_40 M) ok_X4_copyFrom (And.intro (Nat.le_of_ble_eq_true rfl) (Nat.le_of_ble_eq_true rfl)) lm_X11_179 in_X4_copyFrom se_X4_copyFrom rfl h1 rfl rfl (And.intro (Nat.zero_le _) (Nat.zero_le _)) rfl (Nat.le_of_ble_eq_true rfl) d_X11_mark_27 (fun _ M3 => ?_)
    refine jo_aload 0 d_X11_mark_30 rfl rfl ?_
    refine jo_getR (k := 11) cl_11 (Nat.le_of_ble_eq_true rfl) lk_X11_75 rfl kc_0 kr_0_11 d_X11_mark_31 ?_
    refine jo_aload 0 d_X11_mark_34 rfl rfl ?_
    refine jo_getI (k := 13) cl_11 (Nat.le_of_ble_eq_true rfl) lk_X11_83 (Or.inl rfl) kc_0 d_X11_mark_35 ?_
    refine jo_aald_66 d_X11_mark_38 (fun h4 => ?_)
    refine jo_aload 0 d_X11_mark_39 rfl rfl ?_
    refine jo_getR (k := 8) cl_11 (Nat.le_of_ble_eq_true rfl) lk_X11_60 rfl kc_0 kr_0_8 d_X11_mark_40 ?_
    refine jo_callV (st := []) (m_X1_copyFrom hs n (jRn 66 (jw (M3 0 13)).toNat) 52 h4 kc_52 M3) ok_X1_copyFrom (And.intro (Nat.le_of_ble_eq_true rfl) (Nat.le_of_ble_eq_true rfl)) lm_X11_184 in_X1_copyFrom se_X1_copyFrom rfl h4 rfl rfl (And.intro (Nat.zero_le _) (Nat.zero_le _)) rfl (Nat.le_of_ble_eq_true rfl) d_X11_mark_43 (fun _ M6 => ?_)
    refine jo_aload 0 d_X11_mark_46 rfl rfl ?_
    refine jo_getR (k := 12) cl_11 (Nat.le_of_ble_eq_true rfl) lk_X11_79 rfl kc_0 kr_0_12 d_X11_mark_47 ?_
    refine jo_aload 0 d_X11_mark_50 rfl rfl ?_
    refine jo_getI (k := 13) cl_11 (Nat.le_of_ble_eq_true rfl) lk_X11_83 (Or.inl rfl) kc_0 d_X11_mark_51 ?_
    refine jo_aald_67 d_X11_mark_54 (fun h7 => ?_)
    refine jo_aload 0 d_X11_mark_55 rfl rfl ?_
    refine jo_getR (k := 9) cl_11 (Nat.le_of_ble_eq_true rfl) lk_X11_67 rfl kc_0 kr_0_9 d_X11_mark_56 ?_
    refine jo_callV (st := []) (m_X9_copyFrom hs n (jRn 67 (jw (M6 0 13)).toNat) 60 h7 kc_60 M6) ok_X9_copyFrom (And.intro (Nat.le_of_ble_eq_true rfl) (Nat.le_of_ble_eq_true rfl)) lm_X11_200 in_X9_copyFrom se_X9_copyFrom rfl h7 rfl rfl (And.intro (Nat.zero_le _) (Nat.zero_le _)) rfl (Nat.le_of_ble_eq_true rfl) d_X11_mark_59 (fun _ M9 => ?_)
    refine jo_aload 0 d_X11_mark_62 rfl rfl ?_
    refine jo_dup d_X11_mark_63 rfl ?_
    refine jo_getI (k := 13) cl_11 (Nat.le_of_ble_eq_true rfl) lk_X11_83 (Or.inl rfl) kc_0 d_X11_mark_64 ?_
    refine jo_iconst 1 d_X11_mark_67 ?_
    refine jo_iadd d_X11_mark_68 ?_
    refine jo_putI (k := 13) cl_11 (Nat.le_of_ble_eq_true rfl) lk_X11_83 rfl rfl kc_0 d_X11_mark_69 (fun M10 => ?_)
    refine jo_aload 0 d_X11_mark_72 rfl rfl ?_
    refine jo_aload 0 d_X11_mark_73 rfl rfl ?_
    refine jo_getI (k := 13) cl_11 (Nat.le_of_ble_eq_true rfl) lk_X11_83 (Or.inl rfl) kc_0 d_X11_mark_74 ?_
    refine jo_callV (st := []) (m_X11_answer hs n (M10 0 13) M10) ok_X11_answer (And.intro (Nat.le_of_ble_eq_true rfl) (Nat.le_of_ble_eq_true rfl)) lm_X11_193 in_X11_answer se_X11_answer rfl kc_0 rfl rfl (And.intro (Nat.zero_le _) (Nat.zero_le _)) rfl (Nat.le_of_ble_eq_true rfl) d_X11_mark_77 (fun r11 M12 => ?_)
    exact jo_iret rfl d_X11_mark_80
  · skip
    refine jo_aload 0 d_X11_mark_8 rfl rfl ?_
    refine jo_iconst 4 d_X11_mark_9 ?_
    refine jo_callV (st := []) (m_X11_refuse hs n 4 M) ok_X11_refuse (And.intro (Nat.le_of_ble_eq_true rfl) (Nat.le_of_ble_eq_true rfl)) lm_X11_143 in_X11_refuse se_X11_refuse rfl kc_0 rfl rfl (And.intro (Nat.zero_le _) (Nat.zero_le _)) rfl (Nat.le_of_ble_eq_true rfl) d_X11_mark_10 (fun r13 M14 => ?_)
    exact jo_iret rfl d_X11_mark_13
theorem m_X11_mark {g : JG} {ad : Nat → Nat} (hs : jStr g ad) (n : Nat) (M : JMem) : jMet g jNN ad jR D_X11_mark yX11_mark [.ref 0] M (f_X11_mark n M) :=
  jMet.of (lo0 := [some (.ref 0)]) (by decide) rfl rfl (Nat.le_of_ble_eq_true rfl) (And.intro rfl True.intro) (t_X11_mark hs n M)
/-! CageLeave.mean(II)Z -/
def D_X11_mean : JD := (RX11, cX11_mean, 6, some .boolean, "mean", { frames := 7, cells := 0, slots := 0, locals := 169 })
theorem ok_X11_mean : jOk D_X11_mean yX11_mean 2 := ⟨jTW_mem (k := 1357) (by decide +kernel) rfl, jTW_mem (k := 135) (by decide +kernel) rfl, ⟨by decide +kernel, by decide +kernel⟩, by decide +kernel, rfl, rfl⟩
theorem in_X11_mean : Cond.instanceMethod yX11_mean ∈ jTW := jTW_mem (k := 1355) (by decide +kernel) rfl
theorem se_X11_mean : Cond.selects yX11_mean.cls yX11_mean yX11_mean ∈ jTW := jTW_mem (k := 1356) (by decide +kernel) rfl
theorem lk_X11_117 : Cond.fieldLink RX11 117 (TX11 19).1 (TX11 19).2.1 (TX11 19).2.2.1 ∈ jTW := jTW_mem (k := 626) (by decide +kernel) rfl
theorem d_X11_mean_0 : decode (D_X11_mean).2.1 0 = .ok (.iload_n 1, 1) := by decide +kernel
theorem d_X11_mean_1 : decode (D_X11_mean).2.1 1 = .ok (.ifCond .lt 25, 3) := by decide +kernel
theorem d_X11_mean_4 : decode (D_X11_mean).2.1 4 = .ok (.iload_n 2, 1) := by decide +kernel
theorem d_X11_mean_5 : decode (D_X11_mean).2.1 5 = .ok (.iconst 1, 1) := by decide +kernel
theorem d_X11_mean_6 : decode (D_X11_mean).2.1 6 = .ok (.if_icmp .lt 20, 3) := by decide +kernel
theorem d_X11_mean_9 : decode (D_X11_mean).2.1 9 = .ok (.iload_n 2, 1) := by decide +kernel
theorem d_X11_mean_10 : decode (D_X11_mean).2.1 10 = .ok (.bipush 20, 2) := by decide +kernel
theorem d_X11_mean_12 : decode (D_X11_mean).2.1 12 = .ok (.if_icmp .gt 14, 3) := by decide +kernel
theorem d_X11_mean_15 : decode (D_X11_mean).2.1 15 = .ok (.iload_n 1, 1) := by decide +kernel
theorem d_X11_mean_16 : decode (D_X11_mean).2.1 16 = .ok (.sipush 9999, 3) := by decide +kernel
theorem d_X11_mean_19 : decode (D_X11_mean).2.1 19 = .ok (.iload_n 2, 1) := by decide +kernel
theorem d_X11_mean_20 : decode (D_X11_mean).2.1 20 = .ok (.iconst 1, 1) := by decide +kernel
theorem d_X11_mean_21 : decode (D_X11_mean).2.1 21 = .ok (.isub, 1) := by decide +kernel
theorem d_X11_mean_22 : decode (D_X11_mean).2.1 22 = .ok (.isub, 1) := by decide +kernel
theorem d_X11_mean_23 : decode (D_X11_mean).2.1 23 = .ok (.if_icmp .le 9, 3) := by decide +kernel
theorem d_X11_mean_26 : decode (D_X11_mean).2.1 26 = .ok (.aload_n 0, 1) := by decide +kernel
theorem d_X11_mean_27 : decode (D_X11_mean).2.1 27 = .ok (.iconst 1, 1) := by decide +kernel
theorem d_X11_mean_28 : decode (D_X11_mean).2.1 28 = .ok (.invokevirtual 124, 3) := by decide +kernel
theorem d_X11_mean_31 : decode (D_X11_mean).2.1 31 = .ok (.ireturn, 1) := by decide +kernel
theorem d_X11_mean_32 : decode (D_X11_mean).2.1 32 = .ok (.aload_n 0, 1) := by decide +kernel
theorem d_X11_mean_33 : decode (D_X11_mean).2.1 33 = .ok (.getfield 67, 3) := by decide +kernel
theorem d_X11_mean_36 : decode (D_X11_mean).2.1 36 = .ok (.getfield 411, 3) := by decide +kernel
theorem d_X11_mean_39 : decode (D_X11_mean).2.1 39 = .ok (.ifCond .ne 10, 3) := by decide +kernel
theorem d_X11_mean_42 : decode (D_X11_mean).2.1 42 = .ok (.aload_n 0, 1) := by decide +kernel
theorem d_X11_mean_43 : decode (D_X11_mean).2.1 43 = .ok (.bipush 6, 2) := by decide +kernel
theorem d_X11_mean_45 : decode (D_X11_mean).2.1 45 = .ok (.invokevirtual 124, 3) := by decide +kernel
theorem d_X11_mean_48 : decode (D_X11_mean).2.1 48 = .ok (.ireturn, 1) := by decide +kernel
theorem d_X11_mean_49 : decode (D_X11_mean).2.1 49 = .ok (.lconst 0, 1) := by decide +kernel
theorem d_X11_mean_50 : decode (D_X11_mean).2.1 50 = .ok (.lstore_n 3, 1) := by decide +kernel
theorem d_X11_mean_51 : decode (D_X11_mean).2.1 51 = .ok (.iconst 0, 1) := by decide +kernel
theorem d_X11_mean_52 : decode (D_X11_mean).2.1 52 = .ok (.istore 5, 2) := by decide +kernel
theorem d_X11_mean_54 : decode (D_X11_mean).2.1 54 = .ok (.iload 5, 2) := by decide +kernel
theorem d_X11_mean_56 : decode (D_X11_mean).2.1 56 = .ok (.iload_n 2, 1) := by decide +kernel
theorem d_X11_mean_57 : decode (D_X11_mean).2.1 57 = .ok (.if_icmp .ge 57, 3) := by decide +kernel
theorem d_X11_mean_60 : decode (D_X11_mean).2.1 60 = .ok (.aload_n 0, 1) := by decide +kernel
theorem d_X11_mean_61 : decode (D_X11_mean).2.1 61 = .ok (.getfield 86, 3) := by decide +kernel
theorem d_X11_mean_64 : decode (D_X11_mean).2.1 64 = .ok (.aload_n 0, 1) := by decide +kernel
theorem d_X11_mean_65 : decode (D_X11_mean).2.1 65 = .ok (.getfield 60, 3) := by decide +kernel
theorem d_X11_mean_68 : decode (D_X11_mean).2.1 68 = .ok (.invokevirtual 184, 3) := by decide +kernel
theorem d_X11_mean_71 : decode (D_X11_mean).2.1 71 = .ok (.aload_n 0, 1) := by decide +kernel
theorem d_X11_mean_72 : decode (D_X11_mean).2.1 72 = .ok (.getfield 117, 3) := by decide +kernel
theorem d_X11_mean_75 : decode (D_X11_mean).2.1 75 = .ok (.aload_n 0, 1) := by decide +kernel
theorem d_X11_mean_76 : decode (D_X11_mean).2.1 76 = .ok (.getfield 53, 3) := by decide +kernel
theorem d_X11_mean_79 : decode (D_X11_mean).2.1 79 = .ok (.aload_n 0, 1) := by decide +kernel
theorem d_X11_mean_80 : decode (D_X11_mean).2.1 80 = .ok (.getfield 86, 3) := by decide +kernel
theorem d_X11_mean_83 : decode (D_X11_mean).2.1 83 = .ok (.aload_n 0, 1) := by decide +kernel
theorem d_X11_mean_84 : decode (D_X11_mean).2.1 84 = .ok (.getfield 67, 3) := by decide +kernel
theorem d_X11_mean_87 : decode (D_X11_mean).2.1 87 = .ok (.iload_n 1, 1) := by decide +kernel
theorem d_X11_mean_88 : decode (D_X11_mean).2.1 88 = .ok (.iload 5, 2) := by decide +kernel
theorem d_X11_mean_90 : decode (D_X11_mean).2.1 90 = .ok (.iadd, 1) := by decide +kernel
theorem d_X11_mean_91 : decode (D_X11_mean).2.1 91 = .ok (.invokevirtual 415, 3) := by decide +kernel
theorem d_X11_mean_94 : decode (D_X11_mean).2.1 94 = .ok (.lload_n 3, 1) := by decide +kernel
theorem d_X11_mean_95 : decode (D_X11_mean).2.1 95 = .ok (.aload_n 0, 1) := by decide +kernel
theorem d_X11_mean_96 : decode (D_X11_mean).2.1 96 = .ok (.getfield 86, 3) := by decide +kernel
theorem d_X11_mean_99 : decode (D_X11_mean).2.1 99 = .ok (.getfield 230, 3) := by decide +kernel
theorem d_X11_mean_102 : decode (D_X11_mean).2.1 102 = .ok (.invokestatic 341, 3) := by decide +kernel
theorem d_X11_mean_105 : decode (D_X11_mean).2.1 105 = .ok (.i2l, 1) := by decide +kernel
theorem d_X11_mean_106 : decode (D_X11_mean).2.1 106 = .ok (.ladd, 1) := by decide +kernel
theorem d_X11_mean_107 : decode (D_X11_mean).2.1 107 = .ok (.lstore_n 3, 1) := by decide +kernel
theorem d_X11_mean_108 : decode (D_X11_mean).2.1 108 = .ok (.iinc 5 1, 3) := by decide +kernel
theorem d_X11_mean_111 : decode (D_X11_mean).2.1 111 = .ok (.goto (-57), 3) := by decide +kernel
theorem d_X11_mean_114 : decode (D_X11_mean).2.1 114 = .ok (.aload_n 0, 1) := by decide +kernel
theorem d_X11_mean_115 : decode (D_X11_mean).2.1 115 = .ok (.lload_n 3, 1) := by decide +kernel
theorem d_X11_mean_116 : decode (D_X11_mean).2.1 116 = .ok (.iload_n 2, 1) := by decide +kernel
theorem d_X11_mean_117 : decode (D_X11_mean).2.1 117 = .ok (.i2l, 1) := by decide +kernel
theorem d_X11_mean_118 : decode (D_X11_mean).2.1 118 = .ok (.invokevirtual 375, 3) := by decide +kernel
theorem d_X11_mean_121 : decode (D_X11_mean).2.1 121 = .ok (.ireturn, 1) := by decide +kernel
def f_X11_mean_L26 (n : Nat) (M : JMem) : Option (Int × JMem) := bnd (f_X11_deny n 1 M) fun r1 M2 => chk (jw r1 = 0 ∨ jw r1 = 1) (some (r1, M2))
set_option maxRecDepth 4000 in
theorem t_X11_mean_L26 {g : JG} {ad : Nat → Nat} (hs : jStr g ad) (n : Nat) (M : JMem) : jB g D_X11_mean ad 26 [some (.ref 0), none, none, none, none, none] [] M (f_X11_mean_L26 n M) := by
  unfold f_X11_mean_L26
  refine jo_aload 0 d_X11_mean_26 rfl rfl ?_
  refine jo_iconst 1 d_X11_mean_27 ?_
  refine jo_callV (st := []) (m_X11_deny hs n 1 M) ok_X11_deny (And.intro (Nat.le_of_ble_eq_true rfl) (Nat.le_of_ble_eq_true rfl)) lm_X11_124 in_X11_deny se_X11_deny rfl kc_0 rfl rfl (And.intro (Nat.zero_le _) (Nat.zero_le _)) rfl (Nat.le_of_ble_eq_true rfl) d_X11_mean_28 (fun r1 M2 => ?_)
  exact jo_zretq rfl d_X11_mean_31
def f_X11_mean_L114 (n : Nat) (v2 v3 : Int) (M : JMem) : Option (Int × JMem) := bnd (f_X11_tellFraction n v3 (jw v2) M) fun r1 M2 => chk (jw r1 = 0 ∨ jw r1 = 1) (some (r1, M2))
set_option maxRecDepth 4000 in
theorem t_X11_mean_L114 {g : JG} {ad : Nat → Nat} (hs : jStr g ad) (n : Nat) (v2 v3 : Int) (M : JMem) : jB g D_X11_mean ad 114 [some (.ref 0), none, some (ji v2), some (jl v3), none, none] [] M (f_X11_mean_L114 n v2 v3 M) := by
  unfold f_X11_mean_L114
  refine jo_aload 0 d_X11_mean_114 rfl rfl ?_
  refine jo_lload 3 d_X11_mean_115 rfl rfl ?_
  refine jo_iload 2 d_X11_mean_116 rfl rfl ?_
  refine jo_i2l d_X11_mean_117 ?_
  refine jo_callV (st := []) (m_X11_tellFraction hs n v3 (jw v2) M) ok_X11_tellFraction (And.intro (Nat.le_of_ble_eq_true rfl) (Nat.le_of_ble_eq_true rfl)) lm_X11_375 in_X11_tellFraction se_X11_tellFraction rfl kc_0 rfl rfl (And.intro (Nat.zero_le _) (Nat.zero_le _)) rfl (Nat.le_of_ble_eq_true rfl) d_X11_mean_118 (fun r1 M2 => ?_)
  exact jo_zretq rfl d_X11_mean_121
def f_X11_mean_L54 (n : Nat) : Nat → Int → Int → Int → Int → JMem → Option (Int × JMem)
  | 0, _, _, _, _, _ => none
  | k + 1, v1, v2, v3, v5, M => if jw v2 ≤ jw v5 then (f_X11_mean_L114 n v2 v3 M) else (bnd (f_X1_copyFrom n 68 52 M) fun _ M2 => bnd (f_X0_run n 89 40 68 60 (v1 + v5) M2) fun _ M4 => bnd (f_J6_bitCount_0f7a4 n (M4 68 3) M4) fun r5 M6 => letv (v3 + (jw r5)) fun y7 => letv (v5 + 1) fun y8 => (f_X11_mean_L54 n k) v1 v2 y7 y8 M6)
set_option maxRecDepth 4000 in
theorem t_X11_mean_L54 {g : JG} {ad : Nat → Nat} (hs : jStr g ad) (n : Nat) : ∀ (k : Nat) (v1 v2 v3 v5 : Int) (M : JMem), jB g D_X11_mean ad 54 [some (.ref 0), some (ji v1), some (ji v2), some (jl v3), none, some (ji v5)] [] M (f_X11_mean_L54 n k v1 v2 v3 v5 M) := by
  intro k
  induction k with
  | zero => intro v1 v2 v3 v5 M; exact jO.none
  | succ k ih =>
    intro v1 v2 v3 v5 M
    rw [f_X11_mean_L54]
    refine jo_iloadW 5 d_X11_mean_54 rfl ?_
    refine jo_iload 2 d_X11_mean_56 rfl rfl ?_
    refine jo_icmp_ge 114 d_X11_mean_57 (by decide) ?_ ?_
    · skip
      exact jO.sub (t_X11_mean_L114 hs n v2 v3 M) (And.intro rfl (And.intro rfl (And.intro rfl True.intro)))
    · skip
      refine jo_aload 0 d_X11_mean_60 rfl rfl ?_
      refine jo_getR (k := 14) cl_11 (Nat.le_of_ble_eq_true rfl) lk_X11_86 rfl kc_0 kr_0_14 d_X11_mean_61 ?_
      refine jo_aload 0 d_X11_mean_64 rfl rfl ?_
      refine jo_getR (k := 8) cl_11 (Nat.le_of_ble_eq_true rfl) lk_X11_60 rfl kc_0 kr_0_8 d_X11_mean_65 ?_
      refine jo_callV (st := []) (m_X1_copyFrom hs n 68 52 kc_68 kc_52 M) ok_X1_copyFrom (And.intro (Nat.le_of_ble_eq_true rfl) (Nat.le_of_ble_eq_true rfl)) lm_X11_184 in_X1_copyFrom se_X1_copyFrom rfl kc_68 rfl rfl (And.intro (Nat.zero_le _) (Nat.zero_le _)) rfl (Nat.le_of_ble_eq_true rfl) d_X11_mean_68 (fun _ M2 => ?_)
      refine jo_aload 0 d_X11_mean_71 rfl rfl ?_
      refine jo_getR (k := 19) cl_11 (Nat.le_of_ble_eq_true rfl) lk_X11_117 rfl kc_0 kr_0_19 d_X11_mean_72 ?_
      refine jo_aload 0 d_X11_mean_75 rfl rfl ?_
      refine jo_getR (k := 7) cl_11 (Nat.le_of_ble_eq_true rfl) lk_X11_53 rfl kc_0 kr_0_7 d_X11_mean_76 ?_
      refine jo_aload 0 d_X11_mean_79 rfl rfl ?_
      refine jo_getR (k := 14) cl_11 (Nat.le_of_ble_eq_true rfl) lk_X11_86 rfl kc_0 kr_0_14 d_X11_mean_80 ?_
      refine jo_aload 0 d_X11_mean_83 rfl rfl ?_
      refine jo_getR (k := 9) cl_11 (Nat.le_of_ble_eq_true rfl) lk_X11_67 rfl kc_0 kr_0_9 d_X11_mean_84 ?_
      refine jo_iload 1 d_X11_mean_87 rfl rfl ?_
      refine jo_iloadW 5 d_X11_mean_88 rfl ?_
      refine jo_iadd d_X11_mean_90 ?_
      refine jo_callV (st := []) (m_X0_run hs n 89 40 68 60 (v1 + v5) kc_89 kc_40 kc_68 kc_60 M2) ok_X0_run (And.intro (Nat.le_of_ble_eq_true rfl) (Nat.le_of_ble_eq_true rfl)) lm_X11_415 in_X0_run se_X0_run rfl kc_89 rfl rfl (And.intro (Nat.zero_le _) (Nat.zero_le _)) rfl (Nat.le_of_ble_eq_true rfl) d_X11_mean_91 (fun _ M4 => ?_)
      refine jo_lload 3 d_X11_mean_94 rfl rfl ?_
      refine jo_aload 0 d_X11_mean_95 rfl rfl ?_
      refine jo_getR (k := 14) cl_11 (Nat.le_of_ble_eq_true rfl) lk_X11_86 rfl kc_0 kr_0_14 d_X11_mean_96 ?_
      refine jo_getI (k := 3) cl_1 (Nat.le_of_ble_eq_true rfl) lk_X11_230 (Or.inl rfl) kc_68 d_X11_mean_99 ?_
      refine jo_callS (st := [jl v3]) (m_J6_bitCount_0f7a4 hs n (M4 68 3) M4) ok_J6_bitCount_0f7a4 (And.intro (Nat.le_of_ble_eq_true rfl) (Nat.le_of_ble_eq_true rfl)) lm_X11_341 st_J6_bitCount_0f7a4 rfl (And.intro (Nat.zero_le _) (Nat.zero_le _)) rfl (Nat.le_of_ble_eq_true rfl) d_X11_mean_102 (fun r5 M6 => ?_)
      refine jo_i2l d_X11_mean_105 ?_
      refine jo_ladd d_X11_mean_106 ?_
      refine jo_lstore 3 d_X11_mean_107 rfl (Nat.le_of_ble_eq_true rfl) (fun y7 => ?_)
      refine jo_iinc 5 d_X11_mean_108 rfl (Nat.le_of_ble_eq_true rfl) (fun y8 => ?_)
      refine jo_goto 54 d_X11_mean_111 (by decide) ?_
      exact jO.sub (ih v1 v2 y7 y8 M6) (And.intro rfl (And.intro rfl (And.intro rfl (And.intro rfl (And.intro rfl True.intro)))))
def f_X11_mean (n : Nat) (x1 : Int) (x2 : Int) (M : JMem) : Option (Int × JMem) := if jw x1 < 0 then (f_X11_mean_L26 n M) else (if jw x2 < jw 1 then (f_X11_mean_L26 n M) else (if jw 20 < jw x2 then (f_X11_mean_L26 n M) else (if jw x1 ≤ jw (9999 - (x2 - 1)) then (if jw (M 60 0) = 0 then (bnd (f_X11_deny n 6 M) fun r3 M4 => chk (jw r3 = 0 ∨ jw r3 = 1) (some (r3, M4))) else (letv 0 fun y1 => letv 0 fun y2 => f_X11_mean_L54 n n x1 x2 y1 y2 M)) else (f_X11_mean_L26 n M))))
set_option maxRecDepth 4000 in
theorem t_X11_mean {g : JG} {ad : Nat → Nat} (hs : jStr g ad) (n : Nat) (x1 : Int) (x2 : Int) (M : JMem) : jB g D_X11_mean ad 0 [some (.ref 0), some (ji x1), some (ji x2), none, none, none] [] M (f_X11_mean n x1 x2 M) := by
  unfold f_X11_mean
  refine jo_iload 1 d_X11_mean_0 rfl rfl ?_
  refine jo_if_lt 26 d_X11_mean_1 (by decide) ?_ ?_
  · skip
    exact jO.sub (t_X11_mean_L26 hs n M) (And.intro rfl True.intro)
  · skip
    refine jo_iload 2 d_X11_mean_4 rfl rfl ?_
    refine jo_iconst 1 d_X11_mean_5 ?_
    refine jo_icmp_lt 26 d_X11_mean_6 (by decide) ?_ ?_
    · skip
      exact jO.sub (t_X11_mean_L26 hs n M) (And.intro rfl True.intro)
    · skip
      refine jo_iload 2 d_X11_mean_9 rfl rfl ?_
      refine jo_bipush 20 d_X11_mean_10 (by decide) ?_
      refine jo_icmp_gt 26 d_X11_mean_12 (by decide) ?_ ?_
      · skip
        exact jO.sub (t_X11_mean_L26 hs n M) (And.intro rfl True.intro)
      · skip
        refine jo_iload 1 d_X11_mean_15 rfl rfl ?_
        refine jo_sipush 9999 d_X11_mean_16 (by decide) ?_
        refine jo_iload 2 d_X11_mean_19 rfl rfl ?_
        refine jo_iconst 1 d_X11_mean_20 ?_
        refine jo_isub d_X11_mean_21 ?_
        refine jo_isub d_X11_mean_22 ?_
        refine jo_icmp_le 32 d_X11_mean_23 (by decide) ?_ ?_
        · skip
          refine jo_aload 0 d_X11_mean_32 rfl rfl ?_
          refine jo_getR (k := 9) cl_11 (Nat.le_of_ble_eq_true rfl) lk_X11_67 rfl kc_0 kr_0_9 d_X11_mean_33 ?_
          refine jo_getI (k := 0) cl_9 (Nat.le_of_ble_eq_true rfl) lk_X11_411 (Or.inr rfl) kc_60 d_X11_mean_36 ?_
          refine jo_if_ne 49 d_X11_mean_39 (by decide) ?_ ?_
          · skip
            refine jo_lconst0 d_X11_mean_49 ?_
            refine jo_lstore 3 d_X11_mean_50 rfl (Nat.le_of_ble_eq_true rfl) (fun y1 => ?_)
            refine jo_iconst 0 d_X11_mean_51 ?_
            refine jo_istoreW 5 d_X11_mean_52 (Nat.le_of_ble_eq_true rfl) (fun y2 => ?_)
            exact jO.sub (t_X11_mean_L54 hs n n x1 x2 y1 y2 M) (And.intro rfl (And.intro rfl (And.intro rfl (And.intro rfl (And.intro rfl True.intro)))))
          · skip
            refine jo_aload 0 d_X11_mean_42 rfl rfl ?_
            refine jo_bipush 6 d_X11_mean_43 (by decide) ?_
            refine jo_callV (st := []) (m_X11_deny hs n 6 M) ok_X11_deny (And.intro (Nat.le_of_ble_eq_true rfl) (Nat.le_of_ble_eq_true rfl)) lm_X11_124 in_X11_deny se_X11_deny rfl kc_0 rfl rfl (And.intro (Nat.zero_le _) (Nat.zero_le _)) rfl (Nat.le_of_ble_eq_true rfl) d_X11_mean_45 (fun r3 M4 => ?_)
            exact jo_zretq rfl d_X11_mean_48
        · skip
          exact jO.sub (t_X11_mean_L26 hs n M) (And.intro rfl True.intro)
theorem m_X11_mean {g : JG} {ad : Nat → Nat} (hs : jStr g ad) (n : Nat) (x1 : Int) (x2 : Int) (M : JMem) : jMet g jNN ad jR D_X11_mean yX11_mean [.ref 0, ji x1, ji x2] M (f_X11_mean n x1 x2 M) :=
  jMet.of (lo0 := [some (.ref 0), some (ji x1), some (ji x2), none, none, none]) (by decide) rfl rfl (Nat.le_of_ble_eq_true rfl) (And.intro rfl (And.intro rfl (And.intro rfl True.intro))) (t_X11_mean hs n x1 x2 M)
/-! CageLeave.meet(II)I -/
def D_X11_meet : JD := (RX11, cX11_meet, 4, some .int, "meet", { frames := 4, cells := 0, slots := 0, locals := 95 })
theorem ok_X11_meet : jOk D_X11_meet yX11_meet 2 := ⟨jTW_mem (k := 1116) (by decide +kernel) rfl, jTW_mem (k := 135) (by decide +kernel) rfl, ⟨by decide +kernel, by decide +kernel⟩, by decide +kernel, rfl, rfl⟩
theorem in_X11_meet : Cond.instanceMethod yX11_meet ∈ jTW := jTW_mem (k := 1114) (by decide +kernel) rfl
theorem se_X11_meet : Cond.selects yX11_meet.cls yX11_meet yX11_meet ∈ jTW := jTW_mem (k := 1115) (by decide +kernel) rfl
theorem lm_X11_299 : Cond.methodLink RX11 299 yX1_hasTogether ∈ jTW := jTW_mem (k := 1002) (by decide +kernel) rfl
theorem d_X11_meet_0 : decode (D_X11_meet).2.1 0 = .ok (.aload_n 0, 1) := by decide +kernel
theorem d_X11_meet_1 : decode (D_X11_meet).2.1 1 = .ok (.iload_n 1, 1) := by decide +kernel
theorem d_X11_meet_2 : decode (D_X11_meet).2.1 2 = .ok (.iload_n 2, 1) := by decide +kernel
theorem d_X11_meet_3 : decode (D_X11_meet).2.1 3 = .ok (.invokevirtual 295, 3) := by decide +kernel
theorem d_X11_meet_6 : decode (D_X11_meet).2.1 6 = .ok (.ifCond .ne 9, 3) := by decide +kernel
theorem d_X11_meet_9 : decode (D_X11_meet).2.1 9 = .ok (.aload_n 0, 1) := by decide +kernel
theorem d_X11_meet_10 : decode (D_X11_meet).2.1 10 = .ok (.iconst 1, 1) := by decide +kernel
theorem d_X11_meet_11 : decode (D_X11_meet).2.1 11 = .ok (.invokevirtual 143, 3) := by decide +kernel
theorem d_X11_meet_14 : decode (D_X11_meet).2.1 14 = .ok (.ireturn, 1) := by decide +kernel
theorem d_X11_meet_15 : decode (D_X11_meet).2.1 15 = .ok (.aload_n 0, 1) := by decide +kernel
theorem d_X11_meet_16 : decode (D_X11_meet).2.1 16 = .ok (.getfield 86, 3) := by decide +kernel
theorem d_X11_meet_19 : decode (D_X11_meet).2.1 19 = .ok (.aload_n 0, 1) := by decide +kernel
theorem d_X11_meet_20 : decode (D_X11_meet).2.1 20 = .ok (.getfield 60, 3) := by decide +kernel
theorem d_X11_meet_23 : decode (D_X11_meet).2.1 23 = .ok (.invokevirtual 184, 3) := by decide +kernel
theorem d_X11_meet_26 : decode (D_X11_meet).2.1 26 = .ok (.aload_n 0, 1) := by decide +kernel
theorem d_X11_meet_27 : decode (D_X11_meet).2.1 27 = .ok (.getfield 60, 3) := by decide +kernel
theorem d_X11_meet_30 : decode (D_X11_meet).2.1 30 = .ok (.getfield 224, 3) := by decide +kernel
theorem d_X11_meet_33 : decode (D_X11_meet).2.1 33 = .ok (.istore_n 3, 1) := by decide +kernel
theorem d_X11_meet_34 : decode (D_X11_meet).2.1 34 = .ok (.iload_n 3, 1) := by decide +kernel
theorem d_X11_meet_35 : decode (D_X11_meet).2.1 35 = .ok (.bipush 64, 2) := by decide +kernel
theorem d_X11_meet_37 : decode (D_X11_meet).2.1 37 = .ok (.if_icmp .gt 44, 3) := by decide +kernel
theorem d_X11_meet_40 : decode (D_X11_meet).2.1 40 = .ok (.aload_n 0, 1) := by decide +kernel
theorem d_X11_meet_41 : decode (D_X11_meet).2.1 41 = .ok (.getfield 86, 3) := by decide +kernel
theorem d_X11_meet_44 : decode (D_X11_meet).2.1 44 = .ok (.aload_n 0, 1) := by decide +kernel
theorem d_X11_meet_45 : decode (D_X11_meet).2.1 45 = .ok (.getfield 53, 3) := by decide +kernel
theorem d_X11_meet_48 : decode (D_X11_meet).2.1 48 = .ok (.iload_n 3, 1) := by decide +kernel
theorem d_X11_meet_49 : decode (D_X11_meet).2.1 49 = .ok (.invokevirtual 303, 3) := by decide +kernel
theorem d_X11_meet_52 : decode (D_X11_meet).2.1 52 = .ok (.pop, 1) := by decide +kernel
theorem d_X11_meet_53 : decode (D_X11_meet).2.1 53 = .ok (.aload_n 0, 1) := by decide +kernel
theorem d_X11_meet_54 : decode (D_X11_meet).2.1 54 = .ok (.getfield 86, 3) := by decide +kernel
theorem d_X11_meet_57 : decode (D_X11_meet).2.1 57 = .ok (.aload_n 0, 1) := by decide +kernel
theorem d_X11_meet_58 : decode (D_X11_meet).2.1 58 = .ok (.getfield 53, 3) := by decide +kernel
theorem d_X11_meet_61 : decode (D_X11_meet).2.1 61 = .ok (.iload_n 1, 1) := by decide +kernel
theorem d_X11_meet_62 : decode (D_X11_meet).2.1 62 = .ok (.iload_n 2, 1) := by decide +kernel
theorem d_X11_meet_63 : decode (D_X11_meet).2.1 63 = .ok (.invokevirtual 299, 3) := by decide +kernel
theorem d_X11_meet_66 : decode (D_X11_meet).2.1 66 = .ok (.ifCond .eq 9, 3) := by decide +kernel
theorem d_X11_meet_69 : decode (D_X11_meet).2.1 69 = .ok (.aload_n 0, 1) := by decide +kernel
theorem d_X11_meet_70 : decode (D_X11_meet).2.1 70 = .ok (.iload_n 3, 1) := by decide +kernel
theorem d_X11_meet_71 : decode (D_X11_meet).2.1 71 = .ok (.invokevirtual 193, 3) := by decide +kernel
theorem d_X11_meet_74 : decode (D_X11_meet).2.1 74 = .ok (.ireturn, 1) := by decide +kernel
theorem d_X11_meet_75 : decode (D_X11_meet).2.1 75 = .ok (.iinc 3 1, 3) := by decide +kernel
theorem d_X11_meet_78 : decode (D_X11_meet).2.1 78 = .ok (.goto (-44), 3) := by decide +kernel
theorem d_X11_meet_81 : decode (D_X11_meet).2.1 81 = .ok (.aload_n 0, 1) := by decide +kernel
theorem d_X11_meet_82 : decode (D_X11_meet).2.1 82 = .ok (.bipush 6, 2) := by decide +kernel
theorem d_X11_meet_84 : decode (D_X11_meet).2.1 84 = .ok (.invokevirtual 143, 3) := by decide +kernel
theorem d_X11_meet_87 : decode (D_X11_meet).2.1 87 = .ok (.ireturn, 1) := by decide +kernel
def f_X11_meet_L69 (n : Nat) (v3 : Int) (M : JMem) : Option (Int × JMem) := bnd (f_X11_answer n v3 M) fun r1 M2 => some (r1, M2)
set_option maxRecDepth 4000 in
theorem t_X11_meet_L69 {g : JG} {ad : Nat → Nat} (hs : jStr g ad) (n : Nat) (v3 : Int) (M : JMem) : jB g D_X11_meet ad 69 [some (.ref 0), none, none, some (ji v3)] [] M (f_X11_meet_L69 n v3 M) := by
  unfold f_X11_meet_L69
  refine jo_aload 0 d_X11_meet_69 rfl rfl ?_
  refine jo_iload 3 d_X11_meet_70 rfl rfl ?_
  refine jo_callV (st := []) (m_X11_answer hs n v3 M) ok_X11_answer (And.intro (Nat.le_of_ble_eq_true rfl) (Nat.le_of_ble_eq_true rfl)) lm_X11_193 in_X11_answer se_X11_answer rfl kc_0 rfl rfl (And.intro (Nat.zero_le _) (Nat.zero_le _)) rfl (Nat.le_of_ble_eq_true rfl) d_X11_meet_71 (fun r1 M2 => ?_)
  exact jo_iret rfl d_X11_meet_74
def f_X11_meet_L81 (n : Nat) (M : JMem) : Option (Int × JMem) := bnd (f_X11_refuse n 6 M) fun r1 M2 => some (r1, M2)
set_option maxRecDepth 4000 in
theorem t_X11_meet_L81 {g : JG} {ad : Nat → Nat} (hs : jStr g ad) (n : Nat) (M : JMem) : jB g D_X11_meet ad 81 [some (.ref 0), none, none, none] [] M (f_X11_meet_L81 n M) := by
  unfold f_X11_meet_L81
  refine jo_aload 0 d_X11_meet_81 rfl rfl ?_
  refine jo_bipush 6 d_X11_meet_82 (by decide) ?_
  refine jo_callV (st := []) (m_X11_refuse hs n 6 M) ok_X11_refuse (And.intro (Nat.le_of_ble_eq_true rfl) (Nat.le_of_ble_eq_true rfl)) lm_X11_143 in_X11_refuse se_X11_refuse rfl kc_0 rfl rfl (And.intro (Nat.zero_le _) (Nat.zero_le _)) rfl (Nat.le_of_ble_eq_true rfl) d_X11_meet_84 (fun r1 M2 => ?_)
  exact jo_iret rfl d_X11_meet_87
def f_X11_meet_L34 (n : Nat) : Nat → Int → Int → Int → JMem → Option (Int × JMem)
  | 0, _, _, _, _ => none
  | k + 1, v1, v2, v3, M => if jw 64 < jw v3 then (f_X11_meet_L81 n M) else (bnd (f_X1_passUntil n 68 40 v3 M) fun r1 M2 => bnd (f_X1_hasTogether n 68 40 v1 v2 M2) fun r3 M4 => if jw r3 = 0 then (letv (v3 + 1) fun y5 => (f_X11_meet_L34 n k) v1 v2 y5 M4) else (f_X11_meet_L69 n v3 M4))
set_option maxRecDepth 4000 in
theorem t_X11_meet_L34 {g : JG} {ad : Nat → Nat} (hs : jStr g ad) (n : Nat) : ∀ (k : Nat) (v1 v2 v3 : Int) (M : JMem), jB g D_X11_meet ad 34 [some (.ref 0), some (ji v1), some (ji v2), some (ji v3)] [] M (f_X11_meet_L34 n k v1 v2 v3 M) := by
  intro k
  induction k with
  | zero => intro v1 v2 v3 M; exact jO.none
  | succ k ih =>
    intro v1 v2 v3 M
    rw [f_X11_meet_L34]
    refine jo_iload 3 d_X11_meet_34 rfl rfl ?_
    refine jo_bipush 64 d_X11_meet_35 (by decide) ?_
    refine jo_icmp_gt 81 d_X11_meet_37 (by decide) ?_ ?_
    · skip
      exact jO.sub (t_X11_meet_L81 hs n M) (And.intro rfl True.intro)
    · skip
      refine jo_aload 0 d_X11_meet_40 rfl rfl ?_
      refine jo_getR (k := 14) cl_11 (Nat.le_of_ble_eq_true rfl) lk_X11_86 rfl kc_0 kr_0_14 d_X11_meet_41 ?_
      refine jo_aload 0 d_X11_meet_44 rfl rfl ?_
      refine jo_getR (k := 7) cl_11 (Nat.le_of_ble_eq_true rfl) lk_X11_53 rfl kc_0 kr_0_7 d_X11_meet_45 ?_
      refine jo_iload 3 d_X11_meet_48 rfl rfl ?_
      refine jo_callV (st := []) (m_X1_passUntil hs n 68 40 v3 kc_68 kc_40 M) ok_X1_passUntil (And.intro (Nat.le_of_ble_eq_true rfl) (Nat.le_of_ble_eq_true rfl)) lm_X11_303 in_X1_passUntil se_X1_passUntil rfl kc_68 rfl rfl (And.intro (Nat.zero_le _) (Nat.zero_le _)) rfl (Nat.le_of_ble_eq_true rfl) d_X11_meet_49 (fun r1 M2 => ?_)
      refine jo_pop d_X11_meet_52 rfl ?_
      refine jo_aload 0 d_X11_meet_53 rfl rfl ?_
      refine jo_getR (k := 14) cl_11 (Nat.le_of_ble_eq_true rfl) lk_X11_86 rfl kc_0 kr_0_14 d_X11_meet_54 ?_
      refine jo_aload 0 d_X11_meet_57 rfl rfl ?_
      refine jo_getR (k := 7) cl_11 (Nat.le_of_ble_eq_true rfl) lk_X11_53 rfl kc_0 kr_0_7 d_X11_meet_58 ?_
      refine jo_iload 1 d_X11_meet_61 rfl rfl ?_
      refine jo_iload 2 d_X11_meet_62 rfl rfl ?_
      refine jo_callV (st := []) (m_X1_hasTogether hs n 68 40 v1 v2 kc_68 kc_40 M2) ok_X1_hasTogether (And.intro (Nat.le_of_ble_eq_true rfl) (Nat.le_of_ble_eq_true rfl)) lm_X11_299 in_X1_hasTogether se_X1_hasTogether rfl kc_68 rfl rfl (And.intro (Nat.zero_le _) (Nat.zero_le _)) rfl (Nat.le_of_ble_eq_true rfl) d_X11_meet_63 (fun r3 M4 => ?_)
      refine jo_if_eq 75 d_X11_meet_66 (by decide) ?_ ?_
      · skip
        refine jo_iinc 3 d_X11_meet_75 rfl (Nat.le_of_ble_eq_true rfl) (fun y5 => ?_)
        refine jo_goto 34 d_X11_meet_78 (by decide) ?_
        exact jO.sub (ih v1 v2 y5 M4) (And.intro rfl (And.intro rfl (And.intro rfl (And.intro rfl True.intro))))
      · skip
        exact jO.sub (t_X11_meet_L69 hs n v3 M4) (And.intro rfl (And.intro rfl True.intro))
def f_X11_meet (n : Nat) (x1 : Int) (x2 : Int) (M : JMem) : Option (Int × JMem) := bnd (f_X11_areTwoBeasts n x1 x2 M) fun r1 M2 => if jw r1 = 0 then (bnd (f_X11_refuse n 1 M2) fun r6 M7 => some (r6, M7)) else (bnd (f_X1_copyFrom n 68 52 M2) fun _ M4 => letv (M4 52 1) fun y5 => f_X11_meet_L34 n n x1 x2 y5 M4)
set_option maxRecDepth 4000 in
theorem t_X11_meet {g : JG} {ad : Nat → Nat} (hs : jStr g ad) (n : Nat) (x1 : Int) (x2 : Int) (M : JMem) : jB g D_X11_meet ad 0 [some (.ref 0), some (ji x1), some (ji x2), none] [] M (f_X11_meet n x1 x2 M) := by
  unfold f_X11_meet
  refine jo_aload 0 d_X11_meet_0 rfl rfl ?_
  refine jo_iload 1 d_X11_meet_1 rfl rfl ?_
  refine jo_iload 2 d_X11_meet_2 rfl rfl ?_
  refine jo_callV (st := []) (m_X11_areTwoBeasts hs n x1 x2 M) ok_X11_areTwoBeasts (And.intro (Nat.le_of_ble_eq_true rfl) (Nat.le_of_ble_eq_true rfl)) lm_X11_295 in_X11_areTwoBeasts se_X11_areTwoBeasts rfl kc_0 rfl rfl (And.intro (Nat.zero_le _) (Nat.zero_le _)) rfl (Nat.le_of_ble_eq_true rfl) d_X11_meet_3 (fun r1 M2 => ?_)
  refine jo_if_ne 15 d_X11_meet_6 (by decide) ?_ ?_
  · skip
    refine jo_aload 0 d_X11_meet_15 rfl rfl ?_
    refine jo_getR (k := 14) cl_11 (Nat.le_of_ble_eq_true rfl) lk_X11_86 rfl kc_0 kr_0_14 d_X11_meet_16 ?_
    refine jo_aload 0 d_X11_meet_19 rfl rfl ?_
    refine jo_getR (k := 8) cl_11 (Nat.le_of_ble_eq_true rfl) lk_X11_60 rfl kc_0 kr_0_8 d_X11_meet_20 ?_
    refine jo_callV (st := []) (m_X1_copyFrom hs n 68 52 kc_68 kc_52 M2) ok_X1_copyFrom (And.intro (Nat.le_of_ble_eq_true rfl) (Nat.le_of_ble_eq_true rfl)) lm_X11_184 in_X1_copyFrom se_X1_copyFrom rfl kc_68 rfl rfl (And.intro (Nat.zero_le _) (Nat.zero_le _)) rfl (Nat.le_of_ble_eq_true rfl) d_X11_meet_23 (fun _ M4 => ?_)
    refine jo_aload 0 d_X11_meet_26 rfl rfl ?_
    refine jo_getR (k := 8) cl_11 (Nat.le_of_ble_eq_true rfl) lk_X11_60 rfl kc_0 kr_0_8 d_X11_meet_27 ?_
    refine jo_getI (k := 1) cl_1 (Nat.le_of_ble_eq_true rfl) lk_X11_224 (Or.inl rfl) kc_52 d_X11_meet_30 ?_
    refine jo_istore 3 d_X11_meet_33 rfl (Nat.le_of_ble_eq_true rfl) (fun y5 => ?_)
    exact jO.sub (t_X11_meet_L34 hs n n x1 x2 y5 M4) (And.intro rfl (And.intro rfl (And.intro rfl (And.intro rfl True.intro))))
  · skip
    refine jo_aload 0 d_X11_meet_9 rfl rfl ?_
    refine jo_iconst 1 d_X11_meet_10 ?_
    refine jo_callV (st := []) (m_X11_refuse hs n 1 M2) ok_X11_refuse (And.intro (Nat.le_of_ble_eq_true rfl) (Nat.le_of_ble_eq_true rfl)) lm_X11_143 in_X11_refuse se_X11_refuse rfl kc_0 rfl rfl (And.intro (Nat.zero_le _) (Nat.zero_le _)) rfl (Nat.le_of_ble_eq_true rfl) d_X11_meet_11 (fun r6 M7 => ?_)
    exact jo_iret rfl d_X11_meet_14
theorem m_X11_meet {g : JG} {ad : Nat → Nat} (hs : jStr g ad) (n : Nat) (x1 : Int) (x2 : Int) (M : JMem) : jMet g jNN ad jR D_X11_meet yX11_meet [.ref 0, ji x1, ji x2] M (f_X11_meet n x1 x2 M) :=
  jMet.of (lo0 := [some (.ref 0), some (ji x1), some (ji x2), none]) (by decide) rfl rfl (Nat.le_of_ble_eq_true rfl) (And.intro rfl (And.intro rfl (And.intro rfl True.intro))) (t_X11_meet hs n x1 x2 M)
end

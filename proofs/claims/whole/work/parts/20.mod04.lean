section
/-! CageLeaveModel.soonest(III)I -/
def D_X12_soonest : JD := (RX12, cX12_soonest, 4, some .int, "soonest", { frames := 4, cells := 0, slots := 0, locals := 84 })
theorem ok_X12_soonest : jOk D_X12_soonest yX12_soonest 3 := ⟨jTW_mem (k := 1922) (by decide +kernel) rfl, jTW_mem (k := 151) (by decide +kernel) rfl, ⟨by decide +kernel, by decide +kernel⟩, by decide +kernel, rfl, rfl⟩
theorem in_X12_soonest : Cond.instanceMethod yX12_soonest ∈ jTW := jTW_mem (k := 1920) (by decide +kernel) rfl
theorem se_X12_soonest : Cond.selects yX12_soonest.cls yX12_soonest yX12_soonest ∈ jTW := jTW_mem (k := 1921) (by decide +kernel) rfl
theorem lm_X12_376 : Cond.methodLink RX12 376 yX12_isWay ∈ jTW := jTW_mem (k := 1923) (by decide +kernel) rfl
theorem d_X12_soonest_0 : decode (D_X12_soonest).2.1 0 = .ok (.aload_n 0, 1) := by decide +kernel
theorem d_X12_soonest_1 : decode (D_X12_soonest).2.1 1 = .ok (.iload_n 1, 1) := by decide +kernel
theorem d_X12_soonest_2 : decode (D_X12_soonest).2.1 2 = .ok (.iload_n 2, 1) := by decide +kernel
theorem d_X12_soonest_3 : decode (D_X12_soonest).2.1 3 = .ok (.iload_n 3, 1) := by decide +kernel
theorem d_X12_soonest_4 : decode (D_X12_soonest).2.1 4 = .ok (.invokevirtual 376, 3) := by decide +kernel
theorem d_X12_soonest_7 : decode (D_X12_soonest).2.1 7 = .ok (.ifCond .ne 9, 3) := by decide +kernel
theorem d_X12_soonest_10 : decode (D_X12_soonest).2.1 10 = .ok (.aload_n 0, 1) := by decide +kernel
theorem d_X12_soonest_11 : decode (D_X12_soonest).2.1 11 = .ok (.iconst 1, 1) := by decide +kernel
theorem d_X12_soonest_12 : decode (D_X12_soonest).2.1 12 = .ok (.invokevirtual 87, 3) := by decide +kernel
theorem d_X12_soonest_15 : decode (D_X12_soonest).2.1 15 = .ok (.ireturn, 1) := by decide +kernel
theorem d_X12_soonest_16 : decode (D_X12_soonest).2.1 16 = .ok (.aload_n 0, 1) := by decide +kernel
theorem d_X12_soonest_17 : decode (D_X12_soonest).2.1 17 = .ok (.iload_n 1, 1) := by decide +kernel
theorem d_X12_soonest_18 : decode (D_X12_soonest).2.1 18 = .ok (.iload_n 2, 1) := by decide +kernel
theorem d_X12_soonest_19 : decode (D_X12_soonest).2.1 19 = .ok (.aload_n 0, 1) := by decide +kernel
theorem d_X12_soonest_20 : decode (D_X12_soonest).2.1 20 = .ok (.invokevirtual 379, 3) := by decide +kernel
theorem d_X12_soonest_23 : decode (D_X12_soonest).2.1 23 = .ok (.invokevirtual 382, 3) := by decide +kernel
theorem d_X12_soonest_26 : decode (D_X12_soonest).2.1 26 = .ok (.aload_n 0, 1) := by decide +kernel
theorem d_X12_soonest_27 : decode (D_X12_soonest).2.1 27 = .ok (.getfield 56, 3) := by decide +kernel
theorem d_X12_soonest_30 : decode (D_X12_soonest).2.1 30 = .ok (.iload_n 3, 1) := by decide +kernel
theorem d_X12_soonest_31 : decode (D_X12_soonest).2.1 31 = .ok (.iaload, 1) := by decide +kernel
theorem d_X12_soonest_32 : decode (D_X12_soonest).2.1 32 = .ok (.ldc_w 375, 3) := by decide +kernel
theorem d_X12_soonest_35 : decode (D_X12_soonest).2.1 35 = .ok (.if_icmp .ne 12, 3) := by decide +kernel
theorem d_X12_soonest_38 : decode (D_X12_soonest).2.1 38 = .ok (.aload_n 0, 1) := by decide +kernel
theorem d_X12_soonest_39 : decode (D_X12_soonest).2.1 39 = .ok (.bipush 6, 2) := by decide +kernel
theorem d_X12_soonest_41 : decode (D_X12_soonest).2.1 41 = .ok (.invokevirtual 87, 3) := by decide +kernel
theorem d_X12_soonest_44 : decode (D_X12_soonest).2.1 44 = .ok (.goto 13, 3) := by decide +kernel
theorem d_X12_soonest_47 : decode (D_X12_soonest).2.1 47 = .ok (.aload_n 0, 1) := by decide +kernel
theorem d_X12_soonest_48 : decode (D_X12_soonest).2.1 48 = .ok (.aload_n 0, 1) := by decide +kernel
theorem d_X12_soonest_49 : decode (D_X12_soonest).2.1 49 = .ok (.getfield 56, 3) := by decide +kernel
theorem d_X12_soonest_52 : decode (D_X12_soonest).2.1 52 = .ok (.iload_n 3, 1) := by decide +kernel
theorem d_X12_soonest_53 : decode (D_X12_soonest).2.1 53 = .ok (.iaload, 1) := by decide +kernel
theorem d_X12_soonest_54 : decode (D_X12_soonest).2.1 54 = .ok (.invokevirtual 91, 3) := by decide +kernel
theorem d_X12_soonest_57 : decode (D_X12_soonest).2.1 57 = .ok (.ireturn, 1) := by decide +kernel
def f_X12_soonest (n : Nat) (x1 : Int) (x2 : Int) (x3 : Int) (M : JMem) : Option (Int × JMem) := bnd (f_X12_isWay n x1 x2 x3 M) fun r1 M2 => if jw r1 = 0 then (bnd (f_X12_refuse n 1 M2) fun r11 M12 => some (r11, M12)) else (bnd (f_X12_going n M2) fun r3 M4 => bnd (f_X12_laysSoon n x1 x2 r3 M4) fun _ M6 => chk (jin x3 6) <| if jw (M6 179 (jw x3).toNat) = jw 1000000 then (bnd (f_X12_refuse n 6 M6) fun r9 M10 => some (r9, M10)) else (chk (jin x3 6) <| bnd (f_X12_gives n (M6 179 (jw x3).toNat) M6) fun r7 M8 => some (r7, M8)))
set_option maxRecDepth 4000 in
theorem t_X12_soonest {g : JG} {ad : Nat → Nat} (hs : jStr g ad) (n : Nat) (x1 : Int) (x2 : Int) (x3 : Int) (M : JMem) : jB g D_X12_soonest ad 0 [some (.ref 167), some (ji x1), some (ji x2), some (ji x3)] [] M (f_X12_soonest n x1 x2 x3 M) := by
  unfold f_X12_soonest
  refine jo_aload 0 d_X12_soonest_0 rfl rfl ?_
  refine jo_iload 1 d_X12_soonest_1 rfl rfl ?_
  refine jo_iload 2 d_X12_soonest_2 rfl rfl ?_
  refine jo_iload 3 d_X12_soonest_3 rfl rfl ?_
  refine jo_callV (st := []) (m_X12_isWay hs n x1 x2 x3 M) ok_X12_isWay (And.intro (Nat.le_of_ble_eq_true rfl) (Nat.le_of_ble_eq_true rfl)) lm_X12_376 in_X12_isWay se_X12_isWay rfl kc_167 rfl rfl (And.intro (Nat.zero_le _) (Nat.zero_le _)) rfl (Nat.le_of_ble_eq_true rfl) d_X12_soonest_4 (fun r1 M2 => ?_)
  refine jo_if_ne 16 d_X12_soonest_7 (by decide) ?_ ?_
  · skip
    refine jo_aload 0 d_X12_soonest_16 rfl rfl ?_
    refine jo_iload 1 d_X12_soonest_17 rfl rfl ?_
    refine jo_iload 2 d_X12_soonest_18 rfl rfl ?_
    refine jo_aload 0 d_X12_soonest_19 rfl rfl ?_
    refine jo_callV (st := [ji x2, ji x1, .ref 167]) (m_X12_going hs n M2) ok_X12_going (And.intro (Nat.le_of_ble_eq_true rfl) (Nat.le_of_ble_eq_true rfl)) lm_X12_379 in_X12_going se_X12_going rfl kc_167 rfl rfl (And.intro (Nat.zero_le _) (Nat.zero_le _)) rfl (Nat.le_of_ble_eq_true rfl) d_X12_soonest_20 (fun r3 M4 => ?_)
    refine jo_callV (st := []) (m_X12_laysSoon hs n x1 x2 r3 M4) ok_X12_laysSoon (And.intro (Nat.le_of_ble_eq_true rfl) (Nat.le_of_ble_eq_true rfl)) lm_X12_382 in_X12_laysSoon se_X12_laysSoon rfl kc_167 rfl rfl (And.intro (Nat.zero_le _) (Nat.zero_le _)) rfl (Nat.le_of_ble_eq_true rfl) d_X12_soonest_23 (fun _ M6 => ?_)
    refine jo_aload 0 d_X12_soonest_26 rfl rfl ?_
    refine jo_getR (k := 28) cl_12 (Nat.le_of_ble_eq_true rfl) lk_X12_56 rfl kc_167 kr_167_28 d_X12_soonest_27 ?_
    refine jo_iload 3 d_X12_soonest_30 rfl rfl ?_
    refine jo_iald (N := 6) kc_179 d_X12_soonest_31 ?_
    refine jo_ldcw 1000000 lc_X12_375 d_X12_soonest_32 ?_
    refine jo_icmp_ne 47 d_X12_soonest_35 (by decide) ?_ ?_
    · skip
      refine jo_aload 0 d_X12_soonest_47 rfl rfl ?_
      refine jo_aload 0 d_X12_soonest_48 rfl rfl ?_
      refine jo_getR (k := 28) cl_12 (Nat.le_of_ble_eq_true rfl) lk_X12_56 rfl kc_167 kr_167_28 d_X12_soonest_49 ?_
      refine jo_iload 3 d_X12_soonest_52 rfl rfl ?_
      refine jo_iald (N := 6) kc_179 d_X12_soonest_53 ?_
      refine jo_callV (st := []) (m_X12_gives hs n (M6 179 (jw x3).toNat) M6) ok_X12_gives (And.intro (Nat.le_of_ble_eq_true rfl) (Nat.le_of_ble_eq_true rfl)) lm_X12_91 in_X12_gives se_X12_gives rfl kc_167 rfl rfl (And.intro (Nat.zero_le _) (Nat.zero_le _)) rfl (Nat.le_of_ble_eq_true rfl) d_X12_soonest_54 (fun r7 M8 => ?_)
      exact jo_iret rfl d_X12_soonest_57
    · skip
      refine jo_aload 0 d_X12_soonest_38 rfl rfl ?_
      refine jo_bipush 6 d_X12_soonest_39 (by decide) ?_
      refine jo_callV (st := []) (m_X12_refuse hs n 6 M6) ok_X12_refuse (And.intro (Nat.le_of_ble_eq_true rfl) (Nat.le_of_ble_eq_true rfl)) lm_X12_87 in_X12_refuse se_X12_refuse rfl kc_167 rfl rfl (And.intro (Nat.zero_le _) (Nat.zero_le _)) rfl (Nat.le_of_ble_eq_true rfl) d_X12_soonest_41 (fun r9 M10 => ?_)
      refine jo_goto 57 d_X12_soonest_44 (by decide) ?_
      exact jo_iret rfl d_X12_soonest_57
  · skip
    refine jo_aload 0 d_X12_soonest_10 rfl rfl ?_
    refine jo_iconst 1 d_X12_soonest_11 ?_
    refine jo_callV (st := []) (m_X12_refuse hs n 1 M2) ok_X12_refuse (And.intro (Nat.le_of_ble_eq_true rfl) (Nat.le_of_ble_eq_true rfl)) lm_X12_87 in_X12_refuse se_X12_refuse rfl kc_167 rfl rfl (And.intro (Nat.zero_le _) (Nat.zero_le _)) rfl (Nat.le_of_ble_eq_true rfl) d_X12_soonest_12 (fun r11 M12 => ?_)
    exact jo_iret rfl d_X12_soonest_15
theorem m_X12_soonest {g : JG} {ad : Nat → Nat} (hs : jStr g ad) (n : Nat) (x1 : Int) (x2 : Int) (x3 : Int) (M : JMem) : jMet g jNN ad jR D_X12_soonest yX12_soonest [.ref 167, ji x1, ji x2, ji x3] M (f_X12_soonest n x1 x2 x3 M) :=
  jMet.of (lo0 := [some (.ref 167), some (ji x1), some (ji x2), some (ji x3)]) (by decide) rfl rfl (Nat.le_of_ble_eq_true rfl) (And.intro rfl (And.intro rfl (And.intro rfl (And.intro rfl True.intro)))) (t_X12_soonest hs n x1 x2 x3 M)
/-! CageLeaveModel.soonestBy(III)I -/
def D_X12_soonestBy : JD := (RX12, cX12_soonestBy, 7, some .int, "soonestBy", { frames := 4, cells := 0, slots := 0, locals := 84 })
theorem ok_X12_soonestBy : jOk D_X12_soonestBy yX12_soonestBy 3 := ⟨jTW_mem (k := 1939) (by decide +kernel) rfl, jTW_mem (k := 151) (by decide +kernel) rfl, ⟨by decide +kernel, by decide +kernel⟩, by decide +kernel, rfl, rfl⟩
theorem in_X12_soonestBy : Cond.instanceMethod yX12_soonestBy ∈ jTW := jTW_mem (k := 1937) (by decide +kernel) rfl
theorem se_X12_soonestBy : Cond.selects yX12_soonestBy.cls yX12_soonestBy yX12_soonestBy ∈ jTW := jTW_mem (k := 1938) (by decide +kernel) rfl
theorem d_X12_soonestBy_0 : decode (D_X12_soonestBy).2.1 0 = .ok (.aload_n 0, 1) := by decide +kernel
theorem d_X12_soonestBy_1 : decode (D_X12_soonestBy).2.1 1 = .ok (.iload_n 1, 1) := by decide +kernel
theorem d_X12_soonestBy_2 : decode (D_X12_soonestBy).2.1 2 = .ok (.iload_n 2, 1) := by decide +kernel
theorem d_X12_soonestBy_3 : decode (D_X12_soonestBy).2.1 3 = .ok (.iload_n 3, 1) := by decide +kernel
theorem d_X12_soonestBy_4 : decode (D_X12_soonestBy).2.1 4 = .ok (.invokevirtual 376, 3) := by decide +kernel
theorem d_X12_soonestBy_7 : decode (D_X12_soonestBy).2.1 7 = .ok (.ifCond .ne 9, 3) := by decide +kernel
theorem d_X12_soonestBy_10 : decode (D_X12_soonestBy).2.1 10 = .ok (.aload_n 0, 1) := by decide +kernel
theorem d_X12_soonestBy_11 : decode (D_X12_soonestBy).2.1 11 = .ok (.iconst 1, 1) := by decide +kernel
theorem d_X12_soonestBy_12 : decode (D_X12_soonestBy).2.1 12 = .ok (.invokevirtual 87, 3) := by decide +kernel
theorem d_X12_soonestBy_15 : decode (D_X12_soonestBy).2.1 15 = .ok (.ireturn, 1) := by decide +kernel
theorem d_X12_soonestBy_16 : decode (D_X12_soonestBy).2.1 16 = .ok (.aload_n 0, 1) := by decide +kernel
theorem d_X12_soonestBy_17 : decode (D_X12_soonestBy).2.1 17 = .ok (.iload_n 1, 1) := by decide +kernel
theorem d_X12_soonestBy_18 : decode (D_X12_soonestBy).2.1 18 = .ok (.iload_n 2, 1) := by decide +kernel
theorem d_X12_soonestBy_19 : decode (D_X12_soonestBy).2.1 19 = .ok (.aload_n 0, 1) := by decide +kernel
theorem d_X12_soonestBy_20 : decode (D_X12_soonestBy).2.1 20 = .ok (.invokevirtual 379, 3) := by decide +kernel
theorem d_X12_soonestBy_23 : decode (D_X12_soonestBy).2.1 23 = .ok (.invokevirtual 382, 3) := by decide +kernel
theorem d_X12_soonestBy_26 : decode (D_X12_soonestBy).2.1 26 = .ok (.aload_n 0, 1) := by decide +kernel
theorem d_X12_soonestBy_27 : decode (D_X12_soonestBy).2.1 27 = .ok (.getfield 56, 3) := by decide +kernel
theorem d_X12_soonestBy_30 : decode (D_X12_soonestBy).2.1 30 = .ok (.iload_n 3, 1) := by decide +kernel
theorem d_X12_soonestBy_31 : decode (D_X12_soonestBy).2.1 31 = .ok (.iaload, 1) := by decide +kernel
theorem d_X12_soonestBy_32 : decode (D_X12_soonestBy).2.1 32 = .ok (.istore 4, 2) := by decide +kernel
theorem d_X12_soonestBy_34 : decode (D_X12_soonestBy).2.1 34 = .ok (.iload 4, 2) := by decide +kernel
theorem d_X12_soonestBy_36 : decode (D_X12_soonestBy).2.1 36 = .ok (.ldc_w 375, 3) := by decide +kernel
theorem d_X12_soonestBy_39 : decode (D_X12_soonestBy).2.1 39 = .ok (.if_icmp .ne 10, 3) := by decide +kernel
theorem d_X12_soonestBy_42 : decode (D_X12_soonestBy).2.1 42 = .ok (.aload_n 0, 1) := by decide +kernel
theorem d_X12_soonestBy_43 : decode (D_X12_soonestBy).2.1 43 = .ok (.bipush 6, 2) := by decide +kernel
theorem d_X12_soonestBy_45 : decode (D_X12_soonestBy).2.1 45 = .ok (.invokevirtual 87, 3) := by decide +kernel
theorem d_X12_soonestBy_48 : decode (D_X12_soonestBy).2.1 48 = .ok (.ireturn, 1) := by decide +kernel
theorem d_X12_soonestBy_49 : decode (D_X12_soonestBy).2.1 49 = .ok (.iload_n 1, 1) := by decide +kernel
theorem d_X12_soonestBy_50 : decode (D_X12_soonestBy).2.1 50 = .ok (.iload_n 3, 1) := by decide +kernel
theorem d_X12_soonestBy_51 : decode (D_X12_soonestBy).2.1 51 = .ok (.if_icmp .ne 10, 3) := by decide +kernel
theorem d_X12_soonestBy_54 : decode (D_X12_soonestBy).2.1 54 = .ok (.aload_n 0, 1) := by decide +kernel
theorem d_X12_soonestBy_55 : decode (D_X12_soonestBy).2.1 55 = .ok (.bipush 7, 2) := by decide +kernel
theorem d_X12_soonestBy_57 : decode (D_X12_soonestBy).2.1 57 = .ok (.invokevirtual 87, 3) := by decide +kernel
theorem d_X12_soonestBy_60 : decode (D_X12_soonestBy).2.1 60 = .ok (.ireturn, 1) := by decide +kernel
theorem d_X12_soonestBy_61 : decode (D_X12_soonestBy).2.1 61 = .ok (.iconst 0, 1) := by decide +kernel
theorem d_X12_soonestBy_62 : decode (D_X12_soonestBy).2.1 62 = .ok (.istore 5, 2) := by decide +kernel
theorem d_X12_soonestBy_64 : decode (D_X12_soonestBy).2.1 64 = .ok (.iload 5, 2) := by decide +kernel
theorem d_X12_soonestBy_66 : decode (D_X12_soonestBy).2.1 66 = .ok (.aload_n 0, 1) := by decide +kernel
theorem d_X12_soonestBy_67 : decode (D_X12_soonestBy).2.1 67 = .ok (.getfield 7, 3) := by decide +kernel
theorem d_X12_soonestBy_70 : decode (D_X12_soonestBy).2.1 70 = .ok (.iconst 1, 1) := by decide +kernel
theorem d_X12_soonestBy_71 : decode (D_X12_soonestBy).2.1 71 = .ok (.iaload, 1) := by decide +kernel
theorem d_X12_soonestBy_72 : decode (D_X12_soonestBy).2.1 72 = .ok (.if_icmp .ge 106, 3) := by decide +kernel
theorem d_X12_soonestBy_75 : decode (D_X12_soonestBy).2.1 75 = .ok (.aload_n 0, 1) := by decide +kernel
theorem d_X12_soonestBy_76 : decode (D_X12_soonestBy).2.1 76 = .ok (.iload 5, 2) := by decide +kernel
theorem d_X12_soonestBy_78 : decode (D_X12_soonestBy).2.1 78 = .ok (.iconst 2, 1) := by decide +kernel
theorem d_X12_soonestBy_79 : decode (D_X12_soonestBy).2.1 79 = .ok (.invokevirtual 288, 3) := by decide +kernel
theorem d_X12_soonestBy_82 : decode (D_X12_soonestBy).2.1 82 = .ok (.aload_n 0, 1) := by decide +kernel
theorem d_X12_soonestBy_83 : decode (D_X12_soonestBy).2.1 83 = .ok (.iload 5, 2) := by decide +kernel
theorem d_X12_soonestBy_85 : decode (D_X12_soonestBy).2.1 85 = .ok (.iconst 3, 1) := by decide +kernel
theorem d_X12_soonestBy_86 : decode (D_X12_soonestBy).2.1 86 = .ok (.invokevirtual 288, 3) := by decide +kernel
theorem d_X12_soonestBy_89 : decode (D_X12_soonestBy).2.1 89 = .ok (.iadd, 1) := by decide +kernel
theorem d_X12_soonestBy_90 : decode (D_X12_soonestBy).2.1 90 = .ok (.istore 6, 2) := by decide +kernel
theorem d_X12_soonestBy_92 : decode (D_X12_soonestBy).2.1 92 = .ok (.aload_n 0, 1) := by decide +kernel
theorem d_X12_soonestBy_93 : decode (D_X12_soonestBy).2.1 93 = .ok (.aload_n 0, 1) := by decide +kernel
theorem d_X12_soonestBy_94 : decode (D_X12_soonestBy).2.1 94 = .ok (.invokevirtual 379, 3) := by decide +kernel
theorem d_X12_soonestBy_97 : decode (D_X12_soonestBy).2.1 97 = .ok (.iload 5, 2) := by decide +kernel
theorem d_X12_soonestBy_99 : decode (D_X12_soonestBy).2.1 99 = .ok (.invokevirtual 315, 3) := by decide +kernel
theorem d_X12_soonestBy_102 : decode (D_X12_soonestBy).2.1 102 = .ok (.ifCond .eq 70, 3) := by decide +kernel
theorem d_X12_soonestBy_105 : decode (D_X12_soonestBy).2.1 105 = .ok (.aload_n 0, 1) := by decide +kernel
theorem d_X12_soonestBy_106 : decode (D_X12_soonestBy).2.1 106 = .ok (.iload 5, 2) := by decide +kernel
theorem d_X12_soonestBy_108 : decode (D_X12_soonestBy).2.1 108 = .ok (.iconst 0, 1) := by decide +kernel
theorem d_X12_soonestBy_109 : decode (D_X12_soonestBy).2.1 109 = .ok (.invokevirtual 288, 3) := by decide +kernel
theorem d_X12_soonestBy_112 : decode (D_X12_soonestBy).2.1 112 = .ok (.iload_n 1, 1) := by decide +kernel
theorem d_X12_soonestBy_113 : decode (D_X12_soonestBy).2.1 113 = .ok (.if_icmp .ne 59, 3) := by decide +kernel
theorem d_X12_soonestBy_116 : decode (D_X12_soonestBy).2.1 116 = .ok (.aload_n 0, 1) := by decide +kernel
theorem d_X12_soonestBy_117 : decode (D_X12_soonestBy).2.1 117 = .ok (.iload 5, 2) := by decide +kernel
theorem d_X12_soonestBy_119 : decode (D_X12_soonestBy).2.1 119 = .ok (.iconst 2, 1) := by decide +kernel
theorem d_X12_soonestBy_120 : decode (D_X12_soonestBy).2.1 120 = .ok (.invokevirtual 288, 3) := by decide +kernel
theorem d_X12_soonestBy_123 : decode (D_X12_soonestBy).2.1 123 = .ok (.iload_n 2, 1) := by decide +kernel
theorem d_X12_soonestBy_124 : decode (D_X12_soonestBy).2.1 124 = .ok (.if_icmp .lt 48, 3) := by decide +kernel
theorem d_X12_soonestBy_127 : decode (D_X12_soonestBy).2.1 127 = .ok (.iload 6, 2) := by decide +kernel
theorem d_X12_soonestBy_129 : decode (D_X12_soonestBy).2.1 129 = .ok (.bipush 64, 2) := by decide +kernel
theorem d_X12_soonestBy_131 : decode (D_X12_soonestBy).2.1 131 = .ok (.if_icmp .le 6, 3) := by decide +kernel
theorem d_X12_soonestBy_134 : decode (D_X12_soonestBy).2.1 134 = .ok (.goto 38, 3) := by decide +kernel
theorem d_X12_soonestBy_137 : decode (D_X12_soonestBy).2.1 137 = .ok (.aload_n 0, 1) := by decide +kernel
theorem d_X12_soonestBy_138 : decode (D_X12_soonestBy).2.1 138 = .ok (.aload_n 0, 1) := by decide +kernel
theorem d_X12_soonestBy_139 : decode (D_X12_soonestBy).2.1 139 = .ok (.iload 5, 2) := by decide +kernel
theorem d_X12_soonestBy_141 : decode (D_X12_soonestBy).2.1 141 = .ok (.iconst 1, 1) := by decide +kernel
theorem d_X12_soonestBy_142 : decode (D_X12_soonestBy).2.1 142 = .ok (.invokevirtual 288, 3) := by decide +kernel
theorem d_X12_soonestBy_145 : decode (D_X12_soonestBy).2.1 145 = .ok (.iload 6, 2) := by decide +kernel
theorem d_X12_soonestBy_147 : decode (D_X12_soonestBy).2.1 147 = .ok (.aload_n 0, 1) := by decide +kernel
theorem d_X12_soonestBy_148 : decode (D_X12_soonestBy).2.1 148 = .ok (.invokevirtual 379, 3) := by decide +kernel
theorem d_X12_soonestBy_151 : decode (D_X12_soonestBy).2.1 151 = .ok (.invokevirtual 382, 3) := by decide +kernel
theorem d_X12_soonestBy_154 : decode (D_X12_soonestBy).2.1 154 = .ok (.aload_n 0, 1) := by decide +kernel
theorem d_X12_soonestBy_155 : decode (D_X12_soonestBy).2.1 155 = .ok (.getfield 56, 3) := by decide +kernel
theorem d_X12_soonestBy_158 : decode (D_X12_soonestBy).2.1 158 = .ok (.iload_n 3, 1) := by decide +kernel
theorem d_X12_soonestBy_159 : decode (D_X12_soonestBy).2.1 159 = .ok (.iaload, 1) := by decide +kernel
theorem d_X12_soonestBy_160 : decode (D_X12_soonestBy).2.1 160 = .ok (.iload 4, 2) := by decide +kernel
theorem d_X12_soonestBy_162 : decode (D_X12_soonestBy).2.1 162 = .ok (.if_icmp .ne 10, 3) := by decide +kernel
theorem d_X12_soonestBy_165 : decode (D_X12_soonestBy).2.1 165 = .ok (.aload_n 0, 1) := by decide +kernel
theorem d_X12_soonestBy_166 : decode (D_X12_soonestBy).2.1 166 = .ok (.iload 5, 2) := by decide +kernel
theorem d_X12_soonestBy_168 : decode (D_X12_soonestBy).2.1 168 = .ok (.invokevirtual 91, 3) := by decide +kernel
theorem d_X12_soonestBy_171 : decode (D_X12_soonestBy).2.1 171 = .ok (.ireturn, 1) := by decide +kernel
theorem d_X12_soonestBy_172 : decode (D_X12_soonestBy).2.1 172 = .ok (.iinc 5 1, 3) := by decide +kernel
theorem d_X12_soonestBy_175 : decode (D_X12_soonestBy).2.1 175 = .ok (.goto (-111), 3) := by decide +kernel
theorem d_X12_soonestBy_178 : decode (D_X12_soonestBy).2.1 178 = .ok (.aload_n 0, 1) := by decide +kernel
theorem d_X12_soonestBy_179 : decode (D_X12_soonestBy).2.1 179 = .ok (.bipush 6, 2) := by decide +kernel
theorem d_X12_soonestBy_181 : decode (D_X12_soonestBy).2.1 181 = .ok (.invokevirtual 87, 3) := by decide +kernel
theorem d_X12_soonestBy_184 : decode (D_X12_soonestBy).2.1 184 = .ok (.ireturn, 1) := by decide +kernel
def f_X12_soonestBy_L165 (n : Nat) (v5 : Int) (M : JMem) : Option (Int × JMem) := bnd (f_X12_gives n v5 M) fun r1 M2 => some (r1, M2)
set_option maxRecDepth 4000 in
theorem t_X12_soonestBy_L165 {g : JG} {ad : Nat → Nat} (hs : jStr g ad) (n : Nat) (v5 : Int) (M : JMem) : jB g D_X12_soonestBy ad 165 [some (.ref 167), none, none, none, none, some (ji v5), none] [] M (f_X12_soonestBy_L165 n v5 M) := by
  unfold f_X12_soonestBy_L165
  refine jo_aload 0 d_X12_soonestBy_165 rfl rfl ?_
  refine jo_iloadW 5 d_X12_soonestBy_166 rfl ?_
  refine jo_callV (st := []) (m_X12_gives hs n v5 M) ok_X12_gives (And.intro (Nat.le_of_ble_eq_true rfl) (Nat.le_of_ble_eq_true rfl)) lm_X12_91 in_X12_gives se_X12_gives rfl kc_167 rfl rfl (And.intro (Nat.zero_le _) (Nat.zero_le _)) rfl (Nat.le_of_ble_eq_true rfl) d_X12_soonestBy_168 (fun r1 M2 => ?_)
  exact jo_iret rfl d_X12_soonestBy_171
def f_X12_soonestBy_L172 (n : Nat) (r64 : Int → Int → Int → Int → Int → JMem → Option (Int × JMem)) (v1 v2 v3 v4 v5 : Int) (M : JMem) : Option (Int × JMem) := letv (v5 + 1) fun y1 => r64 v1 v2 v3 v4 y1 M
set_option maxRecDepth 4000 in
theorem t_X12_soonestBy_L172 {g : JG} {ad : Nat → Nat} (hs : jStr g ad) (n : Nat) (r64 : Int → Int → Int → Int → Int → JMem → Option (Int × JMem)) (hr64 : ∀ (v1 v2 v3 v4 v5 : Int) (M : JMem), jB g D_X12_soonestBy ad 64 [some (.ref 167), some (ji v1), some (ji v2), some (ji v3), some (ji v4), some (ji v5), none] [] M (r64 v1 v2 v3 v4 v5 M)) (v1 v2 v3 v4 v5 : Int) (M : JMem) : jB g D_X12_soonestBy ad 172 [some (.ref 167), some (ji v1), some (ji v2), some (ji v3), some (ji v4), some (ji v5), none] [] M (f_X12_soonestBy_L172 n r64 v1 v2 v3 v4 v5 M) := by
  unfold f_X12_soonestBy_L172
  refine jo_iinc 5 d_X12_soonestBy_172 rfl (Nat.le_of_ble_eq_true rfl) (fun y1 => ?_)
  refine jo_goto 64 d_X12_soonestBy_175 (by decide) ?_
  exact jO.sub (hr64 v1 v2 v3 v4 y1 M) (And.intro rfl (And.intro rfl (And.intro rfl (And.intro rfl (And.intro rfl (And.intro rfl True.intro))))))
def f_X12_soonestBy_L178 (n : Nat) (M : JMem) : Option (Int × JMem) := bnd (f_X12_refuse n 6 M) fun r1 M2 => some (r1, M2)
set_option maxRecDepth 4000 in
theorem t_X12_soonestBy_L178 {g : JG} {ad : Nat → Nat} (hs : jStr g ad) (n : Nat) (M : JMem) : jB g D_X12_soonestBy ad 178 [some (.ref 167), none, none, none, none, none, none] [] M (f_X12_soonestBy_L178 n M) := by
  unfold f_X12_soonestBy_L178
  refine jo_aload 0 d_X12_soonestBy_178 rfl rfl ?_
  refine jo_bipush 6 d_X12_soonestBy_179 (by decide) ?_
  refine jo_callV (st := []) (m_X12_refuse hs n 6 M) ok_X12_refuse (And.intro (Nat.le_of_ble_eq_true rfl) (Nat.le_of_ble_eq_true rfl)) lm_X12_87 in_X12_refuse se_X12_refuse rfl kc_167 rfl rfl (And.intro (Nat.zero_le _) (Nat.zero_le _)) rfl (Nat.le_of_ble_eq_true rfl) d_X12_soonestBy_181 (fun r1 M2 => ?_)
  exact jo_iret rfl d_X12_soonestBy_184
def f_X12_soonestBy_L64 (n : Nat) : Nat → Int → Int → Int → Int → Int → JMem → Option (Int × JMem)
  | 0, _, _, _, _, _, _ => none
  | k + 1, v1, v2, v3, v4, v5, M => chk (jin 1 3160) <| if jw (M 168 (jw 1).toNat) ≤ jw v5 then (f_X12_soonestBy_L178 n M) else (bnd (f_X12_trainOf n v5 2 M) fun r1 M2 => bnd (f_X12_trainOf n v5 3 M2) fun r3 M4 => letv (r1 + r3) fun y5 => bnd (f_X12_going n M4) fun r6 M7 => bnd (f_X12_isIn n r6 v5 M7) fun r8 M9 => if jw r8 = 0 then (f_X12_soonestBy_L172 n (f_X12_soonestBy_L64 n k) v1 v2 v3 v4 v5 M9) else (bnd (f_X12_trainOf n v5 0 M9) fun r10 M11 => if jw r10 = jw v1 then (bnd (f_X12_trainOf n v5 2 M11) fun r12 M13 => if jw r12 < jw v2 then (f_X12_soonestBy_L172 n (f_X12_soonestBy_L64 n k) v1 v2 v3 v4 v5 M13) else (if jw y5 ≤ jw 64 then (bnd (f_X12_trainOf n v5 1 M13) fun r14 M15 => bnd (f_X12_going n M15) fun r16 M17 => bnd (f_X12_laysSoon n r14 y5 r16 M17) fun _ M19 => chk (jin v3 6) <| if jw (M19 179 (jw v3).toNat) = jw v4 then (f_X12_soonestBy_L165 n v5 M19) else (f_X12_soonestBy_L172 n (f_X12_soonestBy_L64 n k) v1 v2 v3 v4 v5 M19)) else (f_X12_soonestBy_L172 n (f_X12_soonestBy_L64 n k) v1 v2 v3 v4 v5 M13))) else (f_X12_soonestBy_L172 n (f_X12_soonestBy_L64 n k) v1 v2 v3 v4 v5 M11)))
set_option maxRecDepth 4000 in
theorem t_X12_soonestBy_L64 {g : JG} {ad : Nat → Nat} (hs : jStr g ad) (n : Nat) : ∀ (k : Nat) (v1 v2 v3 v4 v5 : Int) (M : JMem), jB g D_X12_soonestBy ad 64 [some (.ref 167), some (ji v1), some (ji v2), some (ji v3), some (ji v4), some (ji v5), none] [] M (f_X12_soonestBy_L64 n k v1 v2 v3 v4 v5 M) := by
  intro k
  induction k with
  | zero => intro v1 v2 v3 v4 v5 M; exact jO.none
  | succ k ih =>
    intro v1 v2 v3 v4 v5 M
    rw [f_X12_soonestBy_L64]
    refine jo_iloadW 5 d_X12_soonestBy_64 rfl ?_
    refine jo_aload 0 d_X12_soonestBy_66 rfl rfl ?_
    refine jo_getR (k := 0) cl_12 (Nat.le_of_ble_eq_true rfl) lk_X12_7 rfl kc_167 kr_167_0 d_X12_soonestBy_67 ?_
    refine jo_iconst 1 d_X12_soonestBy_70 ?_
    refine jo_iald (N := 3160) kc_168 d_X12_soonestBy_71 ?_
    refine jo_icmp_ge 178 d_X12_soonestBy_72 (by decide) ?_ ?_
    · skip
      exact jO.sub (t_X12_soonestBy_L178 hs n M) (And.intro rfl True.intro)
    · skip
      refine jo_aload 0 d_X12_soonestBy_75 rfl rfl ?_
      refine jo_iloadW 5 d_X12_soonestBy_76 rfl ?_
      refine jo_iconst 2 d_X12_soonestBy_78 ?_
      refine jo_callV (st := []) (m_X12_trainOf hs n v5 2 M) ok_X12_trainOf (And.intro (Nat.le_of_ble_eq_true rfl) (Nat.le_of_ble_eq_true rfl)) lm_X12_288 in_X12_trainOf se_X12_trainOf rfl kc_167 rfl rfl (And.intro (Nat.zero_le _) (Nat.zero_le _)) rfl (Nat.le_of_ble_eq_true rfl) d_X12_soonestBy_79 (fun r1 M2 => ?_)
      refine jo_aload 0 d_X12_soonestBy_82 rfl rfl ?_
      refine jo_iloadW 5 d_X12_soonestBy_83 rfl ?_
      refine jo_iconst 3 d_X12_soonestBy_85 ?_
      refine jo_callV (st := [ji r1]) (m_X12_trainOf hs n v5 3 M2) ok_X12_trainOf (And.intro (Nat.le_of_ble_eq_true rfl) (Nat.le_of_ble_eq_true rfl)) lm_X12_288 in_X12_trainOf se_X12_trainOf rfl kc_167 rfl rfl (And.intro (Nat.zero_le _) (Nat.zero_le _)) rfl (Nat.le_of_ble_eq_true rfl) d_X12_soonestBy_86 (fun r3 M4 => ?_)
      refine jo_iadd d_X12_soonestBy_89 ?_
      refine jo_istoreW 6 d_X12_soonestBy_90 (Nat.le_of_ble_eq_true rfl) (fun y5 => ?_)
      refine jo_aload 0 d_X12_soonestBy_92 rfl rfl ?_
      refine jo_aload 0 d_X12_soonestBy_93 rfl rfl ?_
      refine jo_callV (st := [.ref 167]) (m_X12_going hs n M4) ok_X12_going (And.intro (Nat.le_of_ble_eq_true rfl) (Nat.le_of_ble_eq_true rfl)) lm_X12_379 in_X12_going se_X12_going rfl kc_167 rfl rfl (And.intro (Nat.zero_le _) (Nat.zero_le _)) rfl (Nat.le_of_ble_eq_true rfl) d_X12_soonestBy_94 (fun r6 M7 => ?_)
      refine jo_iloadW 5 d_X12_soonestBy_97 rfl ?_
      refine jo_callV (st := []) (m_X12_isIn hs n r6 v5 M7) ok_X12_isIn (And.intro (Nat.le_of_ble_eq_true rfl) (Nat.le_of_ble_eq_true rfl)) lm_X12_315 in_X12_isIn se_X12_isIn rfl kc_167 rfl rfl (And.intro (Nat.zero_le _) (Nat.zero_le _)) rfl (Nat.le_of_ble_eq_true rfl) d_X12_soonestBy_99 (fun r8 M9 => ?_)
      refine jo_if_eq 172 d_X12_soonestBy_102 (by decide) ?_ ?_
      · skip
        exact jO.sub (t_X12_soonestBy_L172 hs n (f_X12_soonestBy_L64 n k) ih v1 v2 v3 v4 v5 M9) (And.intro rfl (And.intro rfl (And.intro rfl (And.intro rfl (And.intro rfl (And.intro rfl True.intro))))))
      · skip
        refine jo_aload 0 d_X12_soonestBy_105 rfl rfl ?_
        refine jo_iloadW 5 d_X12_soonestBy_106 rfl ?_
        refine jo_iconst 0 d_X12_soonestBy_108 ?_
        refine jo_callV (st := []) (m_X12_trainOf hs n v5 0 M9) ok_X12_trainOf (And.intro (Nat.le_of_ble_eq_true rfl) (Nat.le_of_ble_eq_true rfl)) lm_X12_288 in_X12_trainOf se_X12_trainOf rfl kc_167 rfl rfl (And.intro (Nat.zero_le _) (Nat.zero_le _)) rfl (Nat.le_of_ble_eq_true rfl) d_X12_soonestBy_109 (fun r10 M11 => ?_)
        refine jo_iload 1 d_X12_soonestBy_112 rfl rfl ?_
        refine jo_icmp_ne 172 d_X12_soonestBy_113 (by decide) ?_ ?_
        · skip
          exact jO.sub (t_X12_soonestBy_L172 hs n (f_X12_soonestBy_L64 n k) ih v1 v2 v3 v4 v5 M11) (And.intro rfl (And.intro rfl (And.intro rfl (And.intro rfl (And.intro rfl (And.intro rfl True.intro))))))
        · skip
          refine jo_aload 0 d_X12_soonestBy_116 rfl rfl ?_
          refine jo_iloadW 5 d_X12_soonestBy_117 rfl ?_
          refine jo_iconst 2 d_X12_soonestBy_119 ?_
          refine jo_callV (st := []) (m_X12_trainOf hs n v5 2 M11) ok_X12_trainOf (And.intro (Nat.le_of_ble_eq_true rfl) (Nat.le_of_ble_eq_true rfl)) lm_X12_288 in_X12_trainOf se_X12_trainOf rfl kc_167 rfl rfl (And.intro (Nat.zero_le _) (Nat.zero_le _)) rfl (Nat.le_of_ble_eq_true rfl) d_X12_soonestBy_120 (fun r12 M13 => ?_)
          refine jo_iload 2 d_X12_soonestBy_123 rfl rfl ?_
          refine jo_icmp_lt 172 d_X12_soonestBy_124 (by decide) ?_ ?_
          · skip
            exact jO.sub (t_X12_soonestBy_L172 hs n (f_X12_soonestBy_L64 n k) ih v1 v2 v3 v4 v5 M13) (And.intro rfl (And.intro rfl (And.intro rfl (And.intro rfl (And.intro rfl (And.intro rfl True.intro))))))
          · skip
            refine jo_iloadW 6 d_X12_soonestBy_127 rfl ?_
            refine jo_bipush 64 d_X12_soonestBy_129 (by decide) ?_
            refine jo_icmp_le 137 d_X12_soonestBy_131 (by decide) ?_ ?_
            · skip
              refine jo_aload 0 d_X12_soonestBy_137 rfl rfl ?_
              refine jo_aload 0 d_X12_soonestBy_138 rfl rfl ?_
              refine jo_iloadW 5 d_X12_soonestBy_139 rfl ?_
              refine jo_iconst 1 d_X12_soonestBy_141 ?_
              refine jo_callV (st := [.ref 167]) (m_X12_trainOf hs n v5 1 M13) ok_X12_trainOf (And.intro (Nat.le_of_ble_eq_true rfl) (Nat.le_of_ble_eq_true rfl)) lm_X12_288 in_X12_trainOf se_X12_trainOf rfl kc_167 rfl rfl (And.intro (Nat.zero_le _) (Nat.zero_le _)) rfl (Nat.le_of_ble_eq_true rfl) d_X12_soonestBy_142 (fun r14 M15 => ?_)
              refine jo_iloadW 6 d_X12_soonestBy_145 rfl ?_
              refine jo_aload 0 d_X12_soonestBy_147 rfl rfl ?_
              refine jo_callV (st := [ji y5, ji r14, .ref 167]) (m_X12_going hs n M15) ok_X12_going (And.intro (Nat.le_of_ble_eq_true rfl) (Nat.le_of_ble_eq_true rfl)) lm_X12_379 in_X12_going se_X12_going rfl kc_167 rfl rfl (And.intro (Nat.zero_le _) (Nat.zero_le _)) rfl (Nat.le_of_ble_eq_true rfl) d_X12_soonestBy_148 (fun r16 M17 => ?_)
              refine jo_callV (st := []) (m_X12_laysSoon hs n r14 y5 r16 M17) ok_X12_laysSoon (And.intro (Nat.le_of_ble_eq_true rfl) (Nat.le_of_ble_eq_true rfl)) lm_X12_382 in_X12_laysSoon se_X12_laysSoon rfl kc_167 rfl rfl (And.intro (Nat.zero_le _) (Nat.zero_le _)) rfl (Nat.le_of_ble_eq_true rfl) d_X12_soonestBy_151 (fun _ M19 => ?_)
              refine jo_aload 0 d_X12_soonestBy_154 rfl rfl ?_
              refine jo_getR (k := 28) cl_12 (Nat.le_of_ble_eq_true rfl) lk_X12_56 rfl kc_167 kr_167_28 d_X12_soonestBy_155 ?_
              refine jo_iload 3 d_X12_soonestBy_158 rfl rfl ?_
              refine jo_iald (N := 6) kc_179 d_X12_soonestBy_159 ?_
              refine jo_iloadW 4 d_X12_soonestBy_160 rfl ?_
              refine jo_icmp_ne 172 d_X12_soonestBy_162 (by decide) ?_ ?_
              · skip
                exact jO.sub (t_X12_soonestBy_L172 hs n (f_X12_soonestBy_L64 n k) ih v1 v2 v3 v4 v5 M19) (And.intro rfl (And.intro rfl (And.intro rfl (And.intro rfl (And.intro rfl (And.intro rfl True.intro))))))
              · skip
                exact jO.sub (t_X12_soonestBy_L165 hs n v5 M19) (And.intro rfl (And.intro rfl True.intro))
            · skip
              refine jo_goto 172 d_X12_soonestBy_134 (by decide) ?_
              exact jO.sub (t_X12_soonestBy_L172 hs n (f_X12_soonestBy_L64 n k) ih v1 v2 v3 v4 v5 M13) (And.intro rfl (And.intro rfl (And.intro rfl (And.intro rfl (And.intro rfl (And.intro rfl True.intro))))))
def f_X12_soonestBy (n : Nat) (x1 : Int) (x2 : Int) (x3 : Int) (M : JMem) : Option (Int × JMem) := bnd (f_X12_isWay n x1 x2 x3 M) fun r1 M2 => if jw r1 = 0 then (bnd (f_X12_refuse n 1 M2) fun r13 M14 => some (r13, M14)) else (bnd (f_X12_going n M2) fun r3 M4 => bnd (f_X12_laysSoon n x1 x2 r3 M4) fun _ M6 => chk (jin x3 6) <| letv (M6 179 (jw x3).toNat) fun y7 => if jw y7 = jw 1000000 then (bnd (f_X12_refuse n 6 M6) fun r11 M12 => some (r11, M12)) else (if jw x1 = jw x3 then (bnd (f_X12_refuse n 7 M6) fun r9 M10 => some (r9, M10)) else (letv 0 fun y8 => f_X12_soonestBy_L64 n n x1 x2 x3 y7 y8 M6)))
set_option maxRecDepth 4000 in
theorem t_X12_soonestBy {g : JG} {ad : Nat → Nat} (hs : jStr g ad) (n : Nat) (x1 : Int) (x2 : Int) (x3 : Int) (M : JMem) : jB g D_X12_soonestBy ad 0 [some (.ref 167), some (ji x1), some (ji x2), some (ji x3), none, none, none] [] M (f_X12_soonestBy n x1 x2 x3 M) := by
  unfold f_X12_soonestBy
  refine jo_aload 0 d_X12_soonestBy_0 rfl rfl ?_
  refine jo_iload 1 d_X12_soonestBy_1 rfl rfl ?_
  refine jo_iload 2 d_X12_soonestBy_2 rfl rfl ?_
  refine jo_iload 3 d_X12_soonestBy_3 rfl rfl ?_
  refine jo_callV (st := []) (m_X12_isWay hs n x1 x2 x3 M) ok_X12_isWay (And.intro (Nat.le_of_ble_eq_true rfl) (Nat.le_of_ble_eq_true rfl)) lm_X12_376 in_X12_isWay se_X12_isWay rfl kc_167 rfl rfl (And.intro (Nat.zero_le _) (Nat.zero_le _)) rfl (Nat.le_of_ble_eq_true rfl) d_X12_soonestBy_4 (fun r1 M2 => ?_)
  refine jo_if_ne 16 d_X12_soonestBy_7 (by decide) ?_ ?_
  · skip
    refine jo_aload 0 d_X12_soonestBy_16 rfl rfl ?_
    refine jo_iload 1 d_X12_soonestBy_17 rfl rfl ?_
    refine jo_iload 2 d_X12_soonestBy_18 rfl rfl ?_
    refine jo_aload 0 d_X12_soonestBy_19 rfl rfl ?_
    refine jo_callV (st := [ji x2, ji x1, .ref 167]) (m_X12_going hs n M2) ok_X12_going (And.intro (Nat.le_of_ble_eq_true rfl) (Nat.le_of_ble_eq_true rfl)) lm_X12_379 in_X12_going se_X12_going rfl kc_167 rfl rfl (And.intro (Nat.zero_le _) (Nat.zero_le _)) rfl (Nat.le_of_ble_eq_true rfl) d_X12_soonestBy_20 (fun r3 M4 => ?_)
    refine jo_callV (st := []) (m_X12_laysSoon hs n x1 x2 r3 M4) ok_X12_laysSoon (And.intro (Nat.le_of_ble_eq_true rfl) (Nat.le_of_ble_eq_true rfl)) lm_X12_382 in_X12_laysSoon se_X12_laysSoon rfl kc_167 rfl rfl (And.intro (Nat.zero_le _) (Nat.zero_le _)) rfl (Nat.le_of_ble_eq_true rfl) d_X12_soonestBy_23 (fun _ M6 => ?_)
    refine jo_aload 0 d_X12_soonestBy_26 rfl rfl ?_
    refine jo_getR (k := 28) cl_12 (Nat.le_of_ble_eq_true rfl) lk_X12_56 rfl kc_167 kr_167_28 d_X12_soonestBy_27 ?_
    refine jo_iload 3 d_X12_soonestBy_30 rfl rfl ?_
    refine jo_iald (N := 6) kc_179 d_X12_soonestBy_31 ?_
    refine jo_istoreW 4 d_X12_soonestBy_32 (Nat.le_of_ble_eq_true rfl) (fun y7 => ?_)
    refine jo_iloadW 4 d_X12_soonestBy_34 rfl ?_
    refine jo_ldcw 1000000 lc_X12_375 d_X12_soonestBy_36 ?_
    refine jo_icmp_ne 49 d_X12_soonestBy_39 (by decide) ?_ ?_
    · skip
      refine jo_iload 1 d_X12_soonestBy_49 rfl rfl ?_
      refine jo_iload 3 d_X12_soonestBy_50 rfl rfl ?_
      refine jo_icmp_ne 61 d_X12_soonestBy_51 (by decide) ?_ ?_
      · skip
        refine jo_iconst 0 d_X12_soonestBy_61 ?_
        refine jo_istoreW 5 d_X12_soonestBy_62 (Nat.le_of_ble_eq_true rfl) (fun y8 => ?_)
        exact jO.sub (t_X12_soonestBy_L64 hs n n x1 x2 x3 y7 y8 M6) (And.intro rfl (And.intro rfl (And.intro rfl (And.intro rfl (And.intro rfl (And.intro rfl True.intro))))))
      · skip
        refine jo_aload 0 d_X12_soonestBy_54 rfl rfl ?_
        refine jo_bipush 7 d_X12_soonestBy_55 (by decide) ?_
        refine jo_callV (st := []) (m_X12_refuse hs n 7 M6) ok_X12_refuse (And.intro (Nat.le_of_ble_eq_true rfl) (Nat.le_of_ble_eq_true rfl)) lm_X12_87 in_X12_refuse se_X12_refuse rfl kc_167 rfl rfl (And.intro (Nat.zero_le _) (Nat.zero_le _)) rfl (Nat.le_of_ble_eq_true rfl) d_X12_soonestBy_57 (fun r9 M10 => ?_)
        exact jo_iret rfl d_X12_soonestBy_60
    · skip
      refine jo_aload 0 d_X12_soonestBy_42 rfl rfl ?_
      refine jo_bipush 6 d_X12_soonestBy_43 (by decide) ?_
      refine jo_callV (st := []) (m_X12_refuse hs n 6 M6) ok_X12_refuse (And.intro (Nat.le_of_ble_eq_true rfl) (Nat.le_of_ble_eq_true rfl)) lm_X12_87 in_X12_refuse se_X12_refuse rfl kc_167 rfl rfl (And.intro (Nat.zero_le _) (Nat.zero_le _)) rfl (Nat.le_of_ble_eq_true rfl) d_X12_soonestBy_45 (fun r11 M12 => ?_)
      exact jo_iret rfl d_X12_soonestBy_48
  · skip
    refine jo_aload 0 d_X12_soonestBy_10 rfl rfl ?_
    refine jo_iconst 1 d_X12_soonestBy_11 ?_
    refine jo_callV (st := []) (m_X12_refuse hs n 1 M2) ok_X12_refuse (And.intro (Nat.le_of_ble_eq_true rfl) (Nat.le_of_ble_eq_true rfl)) lm_X12_87 in_X12_refuse se_X12_refuse rfl kc_167 rfl rfl (And.intro (Nat.zero_le _) (Nat.zero_le _)) rfl (Nat.le_of_ble_eq_true rfl) d_X12_soonestBy_12 (fun r13 M14 => ?_)
    exact jo_iret rfl d_X12_soonestBy_15
theorem m_X12_soonestBy {g : JG} {ad : Nat → Nat} (hs : jStr g ad) (n : Nat) (x1 : Int) (x2 : Int) (x3 : Int) (M : JMem) : jMet g jNN ad jR D_X12_soonestBy yX12_soonestBy [.ref 167, ji x1, ji x2, ji x3] M (f_X12_soonestBy n x1 x2 x3 M) :=
  jMet.of (lo0 := [some (.ref 167), some (ji x1), some (ji x2), some (ji x3), none, none, none]) (by decide) rfl rfl (Nat.le_of_ble_eq_true rfl) (And.intro rfl (And.intro rfl (And.intro rfl (And.intro rfl True.intro)))) (t_X12_soonestBy hs n x1 x2 x3 M)
/-! CageLeaveModel.status()I -/
def D_X12_status : JD := (RX12, cX12_status, 1, some .int, "status", { frames := 0, cells := 0, slots := 0, locals := 0 })
theorem ok_X12_status : jOk D_X12_status yX12_status 0 := ⟨jTW_mem (k := 1497) (by decide +kernel) rfl, jTW_mem (k := 151) (by decide +kernel) rfl, ⟨by decide +kernel, by decide +kernel⟩, by decide +kernel, rfl, rfl⟩
theorem in_X12_status : Cond.instanceMethod yX12_status ∈ jTW := jTW_mem (k := 1495) (by decide +kernel) rfl
theorem se_X12_status : Cond.selects yX12_status.cls yX12_status yX12_status ∈ jTW := jTW_mem (k := 1496) (by decide +kernel) rfl
theorem d_X12_status_0 : decode (D_X12_status).2.1 0 = .ok (.aload_n 0, 1) := by decide +kernel
theorem d_X12_status_1 : decode (D_X12_status).2.1 1 = .ok (.getfield 81, 3) := by decide +kernel
theorem d_X12_status_4 : decode (D_X12_status).2.1 4 = .ok (.ireturn, 1) := by decide +kernel
def f_X12_status (n : Nat) (M : JMem) : Option (Int × JMem) := some ((M 167 2), M)
set_option maxRecDepth 4000 in
theorem t_X12_status {g : JG} {ad : Nat → Nat} (hs : jStr g ad) (n : Nat) (M : JMem) : jB g D_X12_status ad 0 [some (.ref 167)] [] M (f_X12_status n M) := by
  unfold f_X12_status
  refine jo_aload 0 d_X12_status_0 rfl rfl ?_
  refine jo_getI (k := 2) cl_12 (Nat.le_of_ble_eq_true rfl) lk_X12_81 (Or.inl rfl) kc_167 d_X12_status_1 ?_
  exact jo_iret rfl d_X12_status_4
theorem m_X12_status {g : JG} {ad : Nat → Nat} (hs : jStr g ad) (n : Nat) (M : JMem) : jMet g jNN ad jR D_X12_status yX12_status [.ref 167] M (f_X12_status n M) :=
  jMet.of (lo0 := [some (.ref 167)]) (by decide) rfl rfl (Nat.le_of_ble_eq_true rfl) (And.intro rfl True.intro) (t_X12_status hs n M)
/-! CageLeaveModel.stay(I)I -/
def D_X12_stay : JD := (RX12, cX12_stay, 4, some .int, "stay", { frames := 5, cells := 0, slots := 0, locals := 108 })
theorem ok_X12_stay : jOk D_X12_stay yX12_stay 1 := ⟨jTW_mem (k := 1951) (by decide +kernel) rfl, jTW_mem (k := 151) (by decide +kernel) rfl, ⟨by decide +kernel, by decide +kernel⟩, by decide +kernel, rfl, rfl⟩
theorem in_X12_stay : Cond.instanceMethod yX12_stay ∈ jTW := jTW_mem (k := 1949) (by decide +kernel) rfl
theorem se_X12_stay : Cond.selects yX12_stay.cls yX12_stay yX12_stay ∈ jTW := jTW_mem (k := 1950) (by decide +kernel) rfl
theorem d_X12_stay_0 : decode (D_X12_stay).2.1 0 = .ok (.aload_n 0, 1) := by decide +kernel
theorem d_X12_stay_1 : decode (D_X12_stay).2.1 1 = .ok (.iload_n 1, 1) := by decide +kernel
theorem d_X12_stay_2 : decode (D_X12_stay).2.1 2 = .ok (.invokevirtual 306, 3) := by decide +kernel
theorem d_X12_stay_5 : decode (D_X12_stay).2.1 5 = .ok (.ifCond .eq 7, 3) := by decide +kernel
theorem d_X12_stay_8 : decode (D_X12_stay).2.1 8 = .ok (.iload_n 1, 1) := by decide +kernel
theorem d_X12_stay_9 : decode (D_X12_stay).2.1 9 = .ok (.ifCond .ne 9, 3) := by decide +kernel
theorem d_X12_stay_12 : decode (D_X12_stay).2.1 12 = .ok (.aload_n 0, 1) := by decide +kernel
theorem d_X12_stay_13 : decode (D_X12_stay).2.1 13 = .ok (.iconst 1, 1) := by decide +kernel
theorem d_X12_stay_14 : decode (D_X12_stay).2.1 14 = .ok (.invokevirtual 87, 3) := by decide +kernel
theorem d_X12_stay_17 : decode (D_X12_stay).2.1 17 = .ok (.ireturn, 1) := by decide +kernel
theorem d_X12_stay_18 : decode (D_X12_stay).2.1 18 = .ok (.aload_n 0, 1) := by decide +kernel
theorem d_X12_stay_19 : decode (D_X12_stay).2.1 19 = .ok (.iconst 0, 1) := by decide +kernel
theorem d_X12_stay_20 : decode (D_X12_stay).2.1 20 = .ok (.iconst 0, 1) := by decide +kernel
theorem d_X12_stay_21 : decode (D_X12_stay).2.1 21 = .ok (.aload_n 0, 1) := by decide +kernel
theorem d_X12_stay_22 : decode (D_X12_stay).2.1 22 = .ok (.invokevirtual 379, 3) := by decide +kernel
theorem d_X12_stay_25 : decode (D_X12_stay).2.1 25 = .ok (.invokevirtual 382, 3) := by decide +kernel
theorem d_X12_stay_28 : decode (D_X12_stay).2.1 28 = .ok (.aload_n 0, 1) := by decide +kernel
theorem d_X12_stay_29 : decode (D_X12_stay).2.1 29 = .ok (.getfield 56, 3) := by decide +kernel
theorem d_X12_stay_32 : decode (D_X12_stay).2.1 32 = .ok (.iload_n 1, 1) := by decide +kernel
theorem d_X12_stay_33 : decode (D_X12_stay).2.1 33 = .ok (.iaload, 1) := by decide +kernel
theorem d_X12_stay_34 : decode (D_X12_stay).2.1 34 = .ok (.istore_n 2, 1) := by decide +kernel
theorem d_X12_stay_35 : decode (D_X12_stay).2.1 35 = .ok (.aload_n 0, 1) := by decide +kernel
theorem d_X12_stay_36 : decode (D_X12_stay).2.1 36 = .ok (.iload_n 1, 1) := by decide +kernel
theorem d_X12_stay_37 : decode (D_X12_stay).2.1 37 = .ok (.iconst 0, 1) := by decide +kernel
theorem d_X12_stay_38 : decode (D_X12_stay).2.1 38 = .ok (.bipush 64, 2) := by decide +kernel
theorem d_X12_stay_40 : decode (D_X12_stay).2.1 40 = .ok (.invokevirtual 386, 3) := by decide +kernel
theorem d_X12_stay_43 : decode (D_X12_stay).2.1 43 = .ok (.istore_n 3, 1) := by decide +kernel
theorem d_X12_stay_44 : decode (D_X12_stay).2.1 44 = .ok (.iload_n 3, 1) := by decide +kernel
theorem d_X12_stay_45 : decode (D_X12_stay).2.1 45 = .ok (.iload_n 2, 1) := by decide +kernel
theorem d_X12_stay_46 : decode (D_X12_stay).2.1 46 = .ok (.if_icmp .ge 12, 3) := by decide +kernel
theorem d_X12_stay_49 : decode (D_X12_stay).2.1 49 = .ok (.aload_n 0, 1) := by decide +kernel
theorem d_X12_stay_50 : decode (D_X12_stay).2.1 50 = .ok (.bipush 6, 2) := by decide +kernel
theorem d_X12_stay_52 : decode (D_X12_stay).2.1 52 = .ok (.invokevirtual 87, 3) := by decide +kernel
theorem d_X12_stay_55 : decode (D_X12_stay).2.1 55 = .ok (.goto 10, 3) := by decide +kernel
theorem d_X12_stay_58 : decode (D_X12_stay).2.1 58 = .ok (.aload_n 0, 1) := by decide +kernel
theorem d_X12_stay_59 : decode (D_X12_stay).2.1 59 = .ok (.iload_n 3, 1) := by decide +kernel
theorem d_X12_stay_60 : decode (D_X12_stay).2.1 60 = .ok (.iload_n 2, 1) := by decide +kernel
theorem d_X12_stay_61 : decode (D_X12_stay).2.1 61 = .ok (.isub, 1) := by decide +kernel
theorem d_X12_stay_62 : decode (D_X12_stay).2.1 62 = .ok (.invokevirtual 91, 3) := by decide +kernel
theorem d_X12_stay_65 : decode (D_X12_stay).2.1 65 = .ok (.ireturn, 1) := by decide +kernel
def f_X12_stay_L12 (n : Nat) (M : JMem) : Option (Int × JMem) := bnd (f_X12_refuse n 1 M) fun r1 M2 => some (r1, M2)
set_option maxRecDepth 4000 in
theorem t_X12_stay_L12 {g : JG} {ad : Nat → Nat} (hs : jStr g ad) (n : Nat) (M : JMem) : jB g D_X12_stay ad 12 [some (.ref 167), none, none, none] [] M (f_X12_stay_L12 n M) := by
  unfold f_X12_stay_L12
  refine jo_aload 0 d_X12_stay_12 rfl rfl ?_
  refine jo_iconst 1 d_X12_stay_13 ?_
  refine jo_callV (st := []) (m_X12_refuse hs n 1 M) ok_X12_refuse (And.intro (Nat.le_of_ble_eq_true rfl) (Nat.le_of_ble_eq_true rfl)) lm_X12_87 in_X12_refuse se_X12_refuse rfl kc_167 rfl rfl (And.intro (Nat.zero_le _) (Nat.zero_le _)) rfl (Nat.le_of_ble_eq_true rfl) d_X12_stay_14 (fun r1 M2 => ?_)
  exact jo_iret rfl d_X12_stay_17
def f_X12_stay (n : Nat) (x1 : Int) (M : JMem) : Option (Int × JMem) := bnd (f_X12_isPlace n x1 M) fun r1 M2 => if jw r1 = 0 then (f_X12_stay_L12 n M2) else (if jw x1 = 0 then (f_X12_stay_L12 n M2) else (bnd (f_X12_going n M2) fun r3 M4 => bnd (f_X12_laysSoon n 0 0 r3 M4) fun _ M6 => chk (jin x1 6) <| letv (M6 179 (jw x1).toNat) fun y7 => bnd (f_X12_latestOf n x1 0 64 M6) fun r8 M9 => letv r8 fun y10 => if jw y7 ≤ jw y10 then (bnd (f_X12_gives n (y10 - y7) M9) fun r11 M12 => some (r11, M12)) else (bnd (f_X12_refuse n 6 M9) fun r13 M14 => some (r13, M14))))
set_option maxRecDepth 4000 in
theorem t_X12_stay {g : JG} {ad : Nat → Nat} (hs : jStr g ad) (n : Nat) (x1 : Int) (M : JMem) : jB g D_X12_stay ad 0 [some (.ref 167), some (ji x1), none, none] [] M (f_X12_stay n x1 M) := by
  unfold f_X12_stay
  refine jo_aload 0 d_X12_stay_0 rfl rfl ?_
  refine jo_iload 1 d_X12_stay_1 rfl rfl ?_
  refine jo_callV (st := []) (m_X12_isPlace hs n x1 M) ok_X12_isPlace (And.intro (Nat.le_of_ble_eq_true rfl) (Nat.le_of_ble_eq_true rfl)) lm_X12_306 in_X12_isPlace se_X12_isPlace rfl kc_167 rfl rfl (And.intro (Nat.zero_le _) (Nat.zero_le _)) rfl (Nat.le_of_ble_eq_true rfl) d_X12_stay_2 (fun r1 M2 => ?_)
  refine jo_if_eq 12 d_X12_stay_5 (by decide) ?_ ?_
  · skip
    exact jO.sub (t_X12_stay_L12 hs n M2) (And.intro rfl True.intro)
  · skip
    refine jo_iload 1 d_X12_stay_8 rfl rfl ?_
    refine jo_if_ne 18 d_X12_stay_9 (by decide) ?_ ?_
    · skip
      refine jo_aload 0 d_X12_stay_18 rfl rfl ?_
      refine jo_iconst 0 d_X12_stay_19 ?_
      refine jo_iconst 0 d_X12_stay_20 ?_
      refine jo_aload 0 d_X12_stay_21 rfl rfl ?_
      refine jo_callV (st := [ji 0, ji 0, .ref 167]) (m_X12_going hs n M2) ok_X12_going (And.intro (Nat.le_of_ble_eq_true rfl) (Nat.le_of_ble_eq_true rfl)) lm_X12_379 in_X12_going se_X12_going rfl kc_167 rfl rfl (And.intro (Nat.zero_le _) (Nat.zero_le _)) rfl (Nat.le_of_ble_eq_true rfl) d_X12_stay_22 (fun r3 M4 => ?_)
      refine jo_callV (st := []) (m_X12_laysSoon hs n 0 0 r3 M4) ok_X12_laysSoon (And.intro (Nat.le_of_ble_eq_true rfl) (Nat.le_of_ble_eq_true rfl)) lm_X12_382 in_X12_laysSoon se_X12_laysSoon rfl kc_167 rfl rfl (And.intro (Nat.zero_le _) (Nat.zero_le _)) rfl (Nat.le_of_ble_eq_true rfl) d_X12_stay_25 (fun _ M6 => ?_)
      refine jo_aload 0 d_X12_stay_28 rfl rfl ?_
      refine jo_getR (k := 28) cl_12 (Nat.le_of_ble_eq_true rfl) lk_X12_56 rfl kc_167 kr_167_28 d_X12_stay_29 ?_
      refine jo_iload 1 d_X12_stay_32 rfl rfl ?_
      refine jo_iald (N := 6) kc_179 d_X12_stay_33 ?_
      refine jo_istore 2 d_X12_stay_34 rfl (Nat.le_of_ble_eq_true rfl) (fun y7 => ?_)
      refine jo_aload 0 d_X12_stay_35 rfl rfl ?_
      refine jo_iload 1 d_X12_stay_36 rfl rfl ?_
      refine jo_iconst 0 d_X12_stay_37 ?_
      refine jo_bipush 64 d_X12_stay_38 (by decide) ?_
      refine jo_callV (st := []) (m_X12_latestOf hs n x1 0 64 M6) ok_X12_latestOf (And.intro (Nat.le_of_ble_eq_true rfl) (Nat.le_of_ble_eq_true rfl)) lm_X12_386 in_X12_latestOf se_X12_latestOf rfl kc_167 rfl rfl (And.intro (Nat.zero_le _) (Nat.zero_le _)) rfl (Nat.le_of_ble_eq_true rfl) d_X12_stay_40 (fun r8 M9 => ?_)
      refine jo_istore 3 d_X12_stay_43 rfl (Nat.le_of_ble_eq_true rfl) (fun y10 => ?_)
      refine jo_iload 3 d_X12_stay_44 rfl rfl ?_
      refine jo_iload 2 d_X12_stay_45 rfl rfl ?_
      refine jo_icmp_ge 58 d_X12_stay_46 (by decide) ?_ ?_
      · skip
        refine jo_aload 0 d_X12_stay_58 rfl rfl ?_
        refine jo_iload 3 d_X12_stay_59 rfl rfl ?_
        refine jo_iload 2 d_X12_stay_60 rfl rfl ?_
        refine jo_isub d_X12_stay_61 ?_
        refine jo_callV (st := []) (m_X12_gives hs n (y10 - y7) M9) ok_X12_gives (And.intro (Nat.le_of_ble_eq_true rfl) (Nat.le_of_ble_eq_true rfl)) lm_X12_91 in_X12_gives se_X12_gives rfl kc_167 rfl rfl (And.intro (Nat.zero_le _) (Nat.zero_le _)) rfl (Nat.le_of_ble_eq_true rfl) d_X12_stay_62 (fun r11 M12 => ?_)
        exact jo_iret rfl d_X12_stay_65
      · skip
        refine jo_aload 0 d_X12_stay_49 rfl rfl ?_
        refine jo_bipush 6 d_X12_stay_50 (by decide) ?_
        refine jo_callV (st := []) (m_X12_refuse hs n 6 M9) ok_X12_refuse (And.intro (Nat.le_of_ble_eq_true rfl) (Nat.le_of_ble_eq_true rfl)) lm_X12_87 in_X12_refuse se_X12_refuse rfl kc_167 rfl rfl (And.intro (Nat.zero_le _) (Nat.zero_le _)) rfl (Nat.le_of_ble_eq_true rfl) d_X12_stay_52 (fun r13 M14 => ?_)
        refine jo_goto 65 d_X12_stay_55 (by decide) ?_
        exact jo_iret rfl d_X12_stay_65
    · skip
      exact jO.sub (t_X12_stay_L12 hs n M2) (And.intro rfl True.intro)
theorem m_X12_stay {g : JG} {ad : Nat → Nat} (hs : jStr g ad) (n : Nat) (x1 : Int) (M : JMem) : jMet g jNN ad jR D_X12_stay yX12_stay [.ref 167, ji x1] M (f_X12_stay n x1 M) :=
  jMet.of (lo0 := [some (.ref 167), some (ji x1), none, none]) (by decide) rfl rfl (Nat.le_of_ble_eq_true rfl) (And.intro rfl (And.intro rfl True.intro)) (t_X12_stay hs n x1 M)
/-! CageLeaveModel.sure(III)I -/
def D_X12_sure : JD := (RX12, cX12_sure, 7, some .int, "sure", { frames := 10, cells := 0, slots := 0, locals := 223 })
theorem ok_X12_sure : jOk D_X12_sure yX12_sure 3 := ⟨jTW_mem (k := 2022) (by decide +kernel) rfl, jTW_mem (k := 151) (by decide +kernel) rfl, ⟨by decide +kernel, by decide +kernel⟩, by decide +kernel, rfl, rfl⟩
theorem in_X12_sure : Cond.instanceMethod yX12_sure ∈ jTW := jTW_mem (k := 2020) (by decide +kernel) rfl
theorem se_X12_sure : Cond.selects yX12_sure.cls yX12_sure yX12_sure ∈ jTW := jTW_mem (k := 2021) (by decide +kernel) rfl
theorem d_X12_sure_0 : decode (D_X12_sure).2.1 0 = .ok (.aload_n 0, 1) := by decide +kernel
theorem d_X12_sure_1 : decode (D_X12_sure).2.1 1 = .ok (.iload_n 1, 1) := by decide +kernel
theorem d_X12_sure_2 : decode (D_X12_sure).2.1 2 = .ok (.iload_n 2, 1) := by decide +kernel
theorem d_X12_sure_3 : decode (D_X12_sure).2.1 3 = .ok (.iload_n 3, 1) := by decide +kernel
theorem d_X12_sure_4 : decode (D_X12_sure).2.1 4 = .ok (.invokevirtual 412, 3) := by decide +kernel
theorem d_X12_sure_7 : decode (D_X12_sure).2.1 7 = .ok (.istore 4, 2) := by decide +kernel
theorem d_X12_sure_9 : decode (D_X12_sure).2.1 9 = .ok (.iload 4, 2) := by decide +kernel
theorem d_X12_sure_11 : decode (D_X12_sure).2.1 11 = .ok (.ifCond .le 10, 3) := by decide +kernel
theorem d_X12_sure_14 : decode (D_X12_sure).2.1 14 = .ok (.aload_n 0, 1) := by decide +kernel
theorem d_X12_sure_15 : decode (D_X12_sure).2.1 15 = .ok (.iload 4, 2) := by decide +kernel
theorem d_X12_sure_17 : decode (D_X12_sure).2.1 17 = .ok (.invokevirtual 87, 3) := by decide +kernel
theorem d_X12_sure_20 : decode (D_X12_sure).2.1 20 = .ok (.ireturn, 1) := by decide +kernel
theorem d_X12_sure_21 : decode (D_X12_sure).2.1 21 = .ok (.aload_n 0, 1) := by decide +kernel
theorem d_X12_sure_22 : decode (D_X12_sure).2.1 22 = .ok (.iload_n 1, 1) := by decide +kernel
theorem d_X12_sure_23 : decode (D_X12_sure).2.1 23 = .ok (.iload_n 2, 1) := by decide +kernel
theorem d_X12_sure_24 : decode (D_X12_sure).2.1 24 = .ok (.invokevirtual 415, 3) := by decide +kernel
theorem d_X12_sure_27 : decode (D_X12_sure).2.1 27 = .ok (.iconst (-1), 1) := by decide +kernel
theorem d_X12_sure_28 : decode (D_X12_sure).2.1 28 = .ok (.istore 5, 2) := by decide +kernel
theorem d_X12_sure_30 : decode (D_X12_sure).2.1 30 = .ok (.iconst 0, 1) := by decide +kernel
theorem d_X12_sure_31 : decode (D_X12_sure).2.1 31 = .ok (.istore 6, 2) := by decide +kernel
theorem d_X12_sure_33 : decode (D_X12_sure).2.1 33 = .ok (.iload 6, 2) := by decide +kernel
theorem d_X12_sure_35 : decode (D_X12_sure).2.1 35 = .ok (.iconst 1, 1) := by decide +kernel
theorem d_X12_sure_36 : decode (D_X12_sure).2.1 36 = .ok (.aload_n 0, 1) := by decide +kernel
theorem d_X12_sure_37 : decode (D_X12_sure).2.1 37 = .ok (.getfield 7, 3) := by decide +kernel
theorem d_X12_sure_40 : decode (D_X12_sure).2.1 40 = .ok (.iconst 2, 1) := by decide +kernel
theorem d_X12_sure_41 : decode (D_X12_sure).2.1 41 = .ok (.iaload, 1) := by decide +kernel
theorem d_X12_sure_42 : decode (D_X12_sure).2.1 42 = .ok (.ishl, 1) := by decide +kernel
theorem d_X12_sure_43 : decode (D_X12_sure).2.1 43 = .ok (.if_icmp .ge 38, 3) := by decide +kernel
theorem d_X12_sure_46 : decode (D_X12_sure).2.1 46 = .ok (.aload_n 0, 1) := by decide +kernel
theorem d_X12_sure_47 : decode (D_X12_sure).2.1 47 = .ok (.getfield 65, 3) := by decide +kernel
theorem d_X12_sure_50 : decode (D_X12_sure).2.1 50 = .ok (.iload 6, 2) := by decide +kernel
theorem d_X12_sure_52 : decode (D_X12_sure).2.1 52 = .ok (.iaload, 1) := by decide +kernel
theorem d_X12_sure_53 : decode (D_X12_sure).2.1 53 = .ok (.iload_n 3, 1) := by decide +kernel
theorem d_X12_sure_54 : decode (D_X12_sure).2.1 54 = .ok (.if_icmp .gt 21, 3) := by decide +kernel
theorem d_X12_sure_57 : decode (D_X12_sure).2.1 57 = .ok (.iload 5, 2) := by decide +kernel
theorem d_X12_sure_59 : decode (D_X12_sure).2.1 59 = .ok (.iconst (-1), 1) := by decide +kernel
theorem d_X12_sure_60 : decode (D_X12_sure).2.1 60 = .ok (.if_icmp .ne 8, 3) := by decide +kernel
theorem d_X12_sure_63 : decode (D_X12_sure).2.1 63 = .ok (.iload 6, 2) := by decide +kernel
theorem d_X12_sure_65 : decode (D_X12_sure).2.1 65 = .ok (.goto 8, 3) := by decide +kernel
theorem d_X12_sure_68 : decode (D_X12_sure).2.1 68 = .ok (.iload 5, 2) := by decide +kernel
theorem d_X12_sure_70 : decode (D_X12_sure).2.1 70 = .ok (.iload 6, 2) := by decide +kernel
theorem d_X12_sure_72 : decode (D_X12_sure).2.1 72 = .ok (.iand, 1) := by decide +kernel
theorem d_X12_sure_73 : decode (D_X12_sure).2.1 73 = .ok (.istore 5, 2) := by decide +kernel
theorem d_X12_sure_75 : decode (D_X12_sure).2.1 75 = .ok (.iinc 6 1, 3) := by decide +kernel
theorem d_X12_sure_78 : decode (D_X12_sure).2.1 78 = .ok (.goto (-45), 3) := by decide +kernel
theorem d_X12_sure_81 : decode (D_X12_sure).2.1 81 = .ok (.aload_n 0, 1) := by decide +kernel
theorem d_X12_sure_82 : decode (D_X12_sure).2.1 82 = .ok (.iload 5, 2) := by decide +kernel
theorem d_X12_sure_84 : decode (D_X12_sure).2.1 84 = .ok (.invokevirtual 303, 3) := by decide +kernel
theorem d_X12_sure_87 : decode (D_X12_sure).2.1 87 = .ok (.ireturn, 1) := by decide +kernel
def f_X12_sure_L75 (n : Nat) (r33 : Int → Int → Int → JMem → Option (Int × JMem)) (v3 v5 v6 : Int) (M : JMem) : Option (Int × JMem) := letv (v6 + 1) fun y1 => r33 v3 v5 y1 M
set_option maxRecDepth 4000 in
theorem t_X12_sure_L75 {g : JG} {ad : Nat → Nat} (hs : jStr g ad) (n : Nat) (r33 : Int → Int → Int → JMem → Option (Int × JMem)) (hr33 : ∀ (v3 v5 v6 : Int) (M : JMem), jB g D_X12_sure ad 33 [some (.ref 167), none, none, some (ji v3), none, some (ji v5), some (ji v6)] [] M (r33 v3 v5 v6 M)) (v3 v5 v6 : Int) (M : JMem) : jB g D_X12_sure ad 75 [some (.ref 167), none, none, some (ji v3), none, some (ji v5), some (ji v6)] [] M (f_X12_sure_L75 n r33 v3 v5 v6 M) := by
  unfold f_X12_sure_L75
  refine jo_iinc 6 d_X12_sure_75 rfl (Nat.le_of_ble_eq_true rfl) (fun y1 => ?_)
  refine jo_goto 33 d_X12_sure_78 (by decide) ?_
  exact jO.sub (hr33 v3 v5 y1 M) (And.intro rfl (And.intro rfl (And.intro rfl (And.intro rfl True.intro))))
def f_X12_sure_L73 (n : Nat) (r33 : Int → Int → Int → JMem → Option (Int × JMem)) (v3 v6 w0 : Int) (M : JMem) : Option (Int × JMem) := letv w0 fun y1 => f_X12_sure_L75 n r33 v3 y1 v6 M
set_option maxRecDepth 4000 in
theorem t_X12_sure_L73 {g : JG} {ad : Nat → Nat} (hs : jStr g ad) (n : Nat) (r33 : Int → Int → Int → JMem → Option (Int × JMem)) (hr33 : ∀ (v3 v5 v6 : Int) (M : JMem), jB g D_X12_sure ad 33 [some (.ref 167), none, none, some (ji v3), none, some (ji v5), some (ji v6)] [] M (r33 v3 v5 v6 M)) (v3 v6 w0 : Int) (M : JMem) : jB g D_X12_sure ad 73 [some (.ref 167), none, none, some (ji v3), none, none, some (ji v6)] [ji w0] M (f_X12_sure_L73 n r33 v3 v6 w0 M) := by
  unfold f_X12_sure_L73
  refine jo_istoreW 5 d_X12_sure_73 (Nat.le_of_ble_eq_true rfl) (fun y1 => ?_)
  exact jO.sub (t_X12_sure_L75 hs n r33 hr33 v3 y1 v6 M) (And.intro rfl (And.intro rfl (And.intro rfl (And.intro rfl True.intro))))
def f_X12_sure_L81 (n : Nat) (v5 : Int) (M : JMem) : Option (Int × JMem) := bnd (f_X12_orNone n v5 M) fun r1 M2 => some (r1, M2)
set_option maxRecDepth 4000 in
theorem t_X12_sure_L81 {g : JG} {ad : Nat → Nat} (hs : jStr g ad) (n : Nat) (v5 : Int) (M : JMem) : jB g D_X12_sure ad 81 [some (.ref 167), none, none, none, none, some (ji v5), none] [] M (f_X12_sure_L81 n v5 M) := by
  unfold f_X12_sure_L81
  refine jo_aload 0 d_X12_sure_81 rfl rfl ?_
  refine jo_iloadW 5 d_X12_sure_82 rfl ?_
  refine jo_callV (st := []) (m_X12_orNone hs n v5 M) ok_X12_orNone (And.intro (Nat.le_of_ble_eq_true rfl) (Nat.le_of_ble_eq_true rfl)) lm_X12_303 in_X12_orNone se_X12_orNone rfl kc_167 rfl rfl (And.intro (Nat.zero_le _) (Nat.zero_le _)) rfl (Nat.le_of_ble_eq_true rfl) d_X12_sure_84 (fun r1 M2 => ?_)
  exact jo_iret rfl d_X12_sure_87
def f_X12_sure_L33 (n : Nat) : Nat → Int → Int → Int → JMem → Option (Int × JMem)
  | 0, _, _, _, _ => none
  | k + 1, v3, v5, v6, M => chk (jin 2 3160) <| if jw (jshl 1 (M 168 (jw 2).toNat)) ≤ jw v6 then (f_X12_sure_L81 n v5 M) else (chk (jin v6 256) <| if jw v3 < jw (M 182 (jw v6).toNat) then (f_X12_sure_L75 n (f_X12_sure_L33 n k) v3 v5 v6 M) else (if jw v5 = jw (-1) then (f_X12_sure_L73 n (f_X12_sure_L33 n k) v3 v6 v6 M) else (f_X12_sure_L73 n (f_X12_sure_L33 n k) v3 v6 (jand v5 v6) M)))
set_option maxRecDepth 4000 in
theorem t_X12_sure_L33 {g : JG} {ad : Nat → Nat} (hs : jStr g ad) (n : Nat) : ∀ (k : Nat) (v3 v5 v6 : Int) (M : JMem), jB g D_X12_sure ad 33 [some (.ref 167), none, none, some (ji v3), none, some (ji v5), some (ji v6)] [] M (f_X12_sure_L33 n k v3 v5 v6 M) := by
  intro k
  induction k with
  | zero => intro v3 v5 v6 M; exact jO.none
  | succ k ih =>
    intro v3 v5 v6 M
    rw [f_X12_sure_L33]
    refine jo_iloadW 6 d_X12_sure_33 rfl ?_
    refine jo_iconst 1 d_X12_sure_35 ?_
    refine jo_aload 0 d_X12_sure_36 rfl rfl ?_
    refine jo_getR (k := 0) cl_12 (Nat.le_of_ble_eq_true rfl) lk_X12_7 rfl kc_167 kr_167_0 d_X12_sure_37 ?_
    refine jo_iconst 2 d_X12_sure_40 ?_
    refine jo_iald (N := 3160) kc_168 d_X12_sure_41 ?_
    refine jo_ishl d_X12_sure_42 ?_
    refine jo_icmp_ge 81 d_X12_sure_43 (by decide) ?_ ?_
    · skip
      exact jO.sub (t_X12_sure_L81 hs n v5 M) (And.intro rfl (And.intro rfl True.intro))
    · skip
      refine jo_aload 0 d_X12_sure_46 rfl rfl ?_
      refine jo_getR (k := 31) cl_12 (Nat.le_of_ble_eq_true rfl) lk_X12_65 rfl kc_167 kr_167_31 d_X12_sure_47 ?_
      refine jo_iloadW 6 d_X12_sure_50 rfl ?_
      refine jo_iald (N := 256) kc_182 d_X12_sure_52 ?_
      refine jo_iload 3 d_X12_sure_53 rfl rfl ?_
      refine jo_icmp_gt 75 d_X12_sure_54 (by decide) ?_ ?_
      · skip
        exact jO.sub (t_X12_sure_L75 hs n (f_X12_sure_L33 n k) ih v3 v5 v6 M) (And.intro rfl (And.intro rfl (And.intro rfl (And.intro rfl True.intro))))
      · skip
        refine jo_iloadW 5 d_X12_sure_57 rfl ?_
        refine jo_iconst (-1) d_X12_sure_59 ?_
        refine jo_icmp_ne 68 d_X12_sure_60 (by decide) ?_ ?_
        · skip
          refine jo_iloadW 5 d_X12_sure_68 rfl ?_
          refine jo_iloadW 6 d_X12_sure_70 rfl ?_
          refine jo_iand d_X12_sure_72 ?_
          exact jO.sub (t_X12_sure_L73 hs n (f_X12_sure_L33 n k) ih v3 v6 (jand v5 v6) M) (And.intro rfl (And.intro rfl (And.intro rfl True.intro)))
        · skip
          refine jo_iloadW 6 d_X12_sure_63 rfl ?_
          refine jo_goto 73 d_X12_sure_65 (by decide) ?_
          exact jO.sub (t_X12_sure_L73 hs n (f_X12_sure_L33 n k) ih v3 v6 v6 M) (And.intro rfl (And.intro rfl (And.intro rfl True.intro)))
def f_X12_sure (n : Nat) (x1 : Int) (x2 : Int) (x3 : Int) (M : JMem) : Option (Int × JMem) := bnd (f_X12_wrongParrot n x1 x2 x3 M) fun r1 M2 => letv r1 fun y3 => if jw y3 ≤ 0 then (bnd (f_X12_laysSlips n x1 x2 M2) fun _ M5 => letv (-1) fun y6 => letv 0 fun y7 => f_X12_sure_L33 n n x3 y6 y7 M5) else (bnd (f_X12_refuse n y3 M2) fun r8 M9 => some (r8, M9))
set_option maxRecDepth 4000 in
theorem t_X12_sure {g : JG} {ad : Nat → Nat} (hs : jStr g ad) (n : Nat) (x1 : Int) (x2 : Int) (x3 : Int) (M : JMem) : jB g D_X12_sure ad 0 [some (.ref 167), some (ji x1), some (ji x2), some (ji x3), none, none, none] [] M (f_X12_sure n x1 x2 x3 M) := by
  unfold f_X12_sure
  refine jo_aload 0 d_X12_sure_0 rfl rfl ?_
  refine jo_iload 1 d_X12_sure_1 rfl rfl ?_
  refine jo_iload 2 d_X12_sure_2 rfl rfl ?_
  refine jo_iload 3 d_X12_sure_3 rfl rfl ?_
  refine jo_callV (st := []) (m_X12_wrongParrot hs n x1 x2 x3 M) ok_X12_wrongParrot (And.intro (Nat.le_of_ble_eq_true rfl) (Nat.le_of_ble_eq_true rfl)) lm_X12_412 in_X12_wrongParrot se_X12_wrongParrot rfl kc_167 rfl rfl (And.intro (Nat.zero_le _) (Nat.zero_le _)) rfl (Nat.le_of_ble_eq_true rfl) d_X12_sure_4 (fun r1 M2 => ?_)
  refine jo_istoreW 4 d_X12_sure_7 (Nat.le_of_ble_eq_true rfl) (fun y3 => ?_)
  refine jo_iloadW 4 d_X12_sure_9 rfl ?_
  refine jo_if_le 21 d_X12_sure_11 (by decide) ?_ ?_
  · skip
    refine jo_aload 0 d_X12_sure_21 rfl rfl ?_
    refine jo_iload 1 d_X12_sure_22 rfl rfl ?_
    refine jo_iload 2 d_X12_sure_23 rfl rfl ?_
    refine jo_callV (st := []) (m_X12_laysSlips hs n x1 x2 M2) ok_X12_laysSlips (And.intro (Nat.le_of_ble_eq_true rfl) (Nat.le_of_ble_eq_true rfl)) lm_X12_415 in_X12_laysSlips se_X12_laysSlips rfl kc_167 rfl rfl (And.intro (Nat.zero_le _) (Nat.zero_le _)) rfl (Nat.le_of_ble_eq_true rfl) d_X12_sure_24 (fun _ M5 => ?_)
    refine jo_iconst (-1) d_X12_sure_27 ?_
    refine jo_istoreW 5 d_X12_sure_28 (Nat.le_of_ble_eq_true rfl) (fun y6 => ?_)
    refine jo_iconst 0 d_X12_sure_30 ?_
    refine jo_istoreW 6 d_X12_sure_31 (Nat.le_of_ble_eq_true rfl) (fun y7 => ?_)
    exact jO.sub (t_X12_sure_L33 hs n n x3 y6 y7 M5) (And.intro rfl (And.intro rfl (And.intro rfl (And.intro rfl True.intro))))
  · skip
    refine jo_aload 0 d_X12_sure_14 rfl rfl ?_
    refine jo_iloadW 4 d_X12_sure_15 rfl ?_
    refine jo_callV (st := []) (m_X12_refuse hs n y3 M2) ok_X12_refuse (And.intro (Nat.le_of_ble_eq_true rfl) (Nat.le_of_ble_eq_true rfl)) lm_X12_87 in_X12_refuse se_X12_refuse rfl kc_167 rfl rfl (And.intro (Nat.zero_le _) (Nat.zero_le _)) rfl (Nat.le_of_ble_eq_true rfl) d_X12_sure_17 (fun r8 M9 => ?_)
    exact jo_iret rfl d_X12_sure_20
theorem m_X12_sure {g : JG} {ad : Nat → Nat} (hs : jStr g ad) (n : Nat) (x1 : Int) (x2 : Int) (x3 : Int) (M : JMem) : jMet g jNN ad jR D_X12_sure yX12_sure [.ref 167, ji x1, ji x2, ji x3] M (f_X12_sure n x1 x2 x3 M) :=
  jMet.of (lo0 := [some (.ref 167), some (ji x1), some (ji x2), some (ji x3), none, none, none]) (by decide) rfl rfl (Nat.le_of_ble_eq_true rfl) (And.intro rfl (And.intro rfl (And.intro rfl (And.intro rfl True.intro)))) (t_X12_sure hs n x1 x2 x3 M)
/-! CageLeaveModel.test(I)Z -/
def D_X12_test : JD := (RX12, cX12_test, 3, some .boolean, "test", { frames := 10, cells := 0, slots := 0, locals := 241 })
theorem ok_X12_test : jOk D_X12_test yX12_test 1 := ⟨jTW_mem (k := 1687) (by decide +kernel) rfl, jTW_mem (k := 151) (by decide +kernel) rfl, ⟨by decide +kernel, by decide +kernel⟩, by decide +kernel, rfl, rfl⟩
theorem in_X12_test : Cond.instanceMethod yX12_test ∈ jTW := jTW_mem (k := 1686) (by decide +kernel) rfl
theorem se_X12_test : Cond.selects yX12_test.cls yX12_test yX12_test ∈ jTW := jTW_mem (k := 81) (by decide +kernel) rfl
theorem lm_X12_242 : Cond.methodLink RX12 242 yX12_beastTo ∈ jTW := jTW_mem (k := 1676) (by decide +kernel) rfl
theorem d_X12_test_0 : decode (D_X12_test).2.1 0 = .ok (.aload_n 0, 1) := by decide +kernel
theorem d_X12_test_1 : decode (D_X12_test).2.1 1 = .ok (.ldc 180, 2) := by decide +kernel
theorem d_X12_test_3 : decode (D_X12_test).2.1 3 = .ok (.invokevirtual 172, 3) := by decide +kernel
theorem d_X12_test_6 : decode (D_X12_test).2.1 6 = .ok (.istore_n 2, 1) := by decide +kernel
theorem d_X12_test_7 : decode (D_X12_test).2.1 7 = .ok (.iload_n 2, 1) := by decide +kernel
theorem d_X12_test_8 : decode (D_X12_test).2.1 8 = .ok (.bipush 24, 2) := by decide +kernel
theorem d_X12_test_10 : decode (D_X12_test).2.1 10 = .ok (.if_icmp .ge 9, 3) := by decide +kernel
theorem d_X12_test_13 : decode (D_X12_test).2.1 13 = .ok (.aload_n 0, 1) := by decide +kernel
theorem d_X12_test_14 : decode (D_X12_test).2.1 14 = .ok (.iconst 2, 1) := by decide +kernel
theorem d_X12_test_15 : decode (D_X12_test).2.1 15 = .ok (.invokevirtual 169, 3) := by decide +kernel
theorem d_X12_test_18 : decode (D_X12_test).2.1 18 = .ok (.ireturn, 1) := by decide +kernel
theorem d_X12_test_19 : decode (D_X12_test).2.1 19 = .ok (.aload_n 0, 1) := by decide +kernel
theorem d_X12_test_20 : decode (D_X12_test).2.1 20 = .ok (.getfield 7, 3) := by decide +kernel
theorem d_X12_test_23 : decode (D_X12_test).2.1 23 = .ok (.iload_n 1, 1) := by decide +kernel
theorem d_X12_test_24 : decode (D_X12_test).2.1 24 = .ok (.sipush 2000, 3) := by decide +kernel
theorem d_X12_test_27 : decode (D_X12_test).2.1 27 = .ok (.iload_n 2, 1) := by decide +kernel
theorem d_X12_test_28 : decode (D_X12_test).2.1 28 = .ok (.iadd, 1) := by decide +kernel
theorem d_X12_test_29 : decode (D_X12_test).2.1 29 = .ok (.iastore, 1) := by decide +kernel
theorem d_X12_test_30 : decode (D_X12_test).2.1 30 = .ok (.aload_n 0, 1) := by decide +kernel
theorem d_X12_test_31 : decode (D_X12_test).2.1 31 = .ok (.invokevirtual 163, 3) := by decide +kernel
theorem d_X12_test_34 : decode (D_X12_test).2.1 34 = .ok (.iload_n 2, 1) := by decide +kernel
theorem d_X12_test_35 : decode (D_X12_test).2.1 35 = .ok (.bipush 25, 2) := by decide +kernel
theorem d_X12_test_37 : decode (D_X12_test).2.1 37 = .ok (.if_icmp .ne 11, 3) := by decide +kernel
theorem d_X12_test_40 : decode (D_X12_test).2.1 40 = .ok (.aload_n 0, 1) := by decide +kernel
theorem d_X12_test_41 : decode (D_X12_test).2.1 41 = .ok (.iload_n 1, 1) := by decide +kernel
theorem d_X12_test_42 : decode (D_X12_test).2.1 42 = .ok (.iconst 1, 1) := by decide +kernel
theorem d_X12_test_43 : decode (D_X12_test).2.1 43 = .ok (.iadd, 1) := by decide +kernel
theorem d_X12_test_44 : decode (D_X12_test).2.1 44 = .ok (.invokevirtual 242, 3) := by decide +kernel
theorem d_X12_test_47 : decode (D_X12_test).2.1 47 = .ok (.ireturn, 1) := by decide +kernel
theorem d_X12_test_48 : decode (D_X12_test).2.1 48 = .ok (.iload_n 2, 1) := by decide +kernel
theorem d_X12_test_49 : decode (D_X12_test).2.1 49 = .ok (.bipush 24, 2) := by decide +kernel
theorem d_X12_test_51 : decode (D_X12_test).2.1 51 = .ok (.if_icmp .ne 36, 3) := by decide +kernel
theorem d_X12_test_54 : decode (D_X12_test).2.1 54 = .ok (.aload_n 0, 1) := by decide +kernel
theorem d_X12_test_55 : decode (D_X12_test).2.1 55 = .ok (.iload_n 1, 1) := by decide +kernel
theorem d_X12_test_56 : decode (D_X12_test).2.1 56 = .ok (.iconst 1, 1) := by decide +kernel
theorem d_X12_test_57 : decode (D_X12_test).2.1 57 = .ok (.iadd, 1) := by decide +kernel
theorem d_X12_test_58 : decode (D_X12_test).2.1 58 = .ok (.invokevirtual 242, 3) := by decide +kernel
theorem d_X12_test_61 : decode (D_X12_test).2.1 61 = .ok (.ifCond .eq 24, 3) := by decide +kernel
theorem d_X12_test_64 : decode (D_X12_test).2.1 64 = .ok (.aload_n 0, 1) := by decide +kernel
theorem d_X12_test_65 : decode (D_X12_test).2.1 65 = .ok (.iconst 0, 1) := by decide +kernel
theorem d_X12_test_66 : decode (D_X12_test).2.1 66 = .ok (.aload_n 0, 1) := by decide +kernel
theorem d_X12_test_67 : decode (D_X12_test).2.1 67 = .ok (.getfield 7, 3) := by decide +kernel
theorem d_X12_test_70 : decode (D_X12_test).2.1 70 = .ok (.iconst 0, 1) := by decide +kernel
theorem d_X12_test_71 : decode (D_X12_test).2.1 71 = .ok (.iaload, 1) := by decide +kernel
theorem d_X12_test_72 : decode (D_X12_test).2.1 72 = .ok (.iload_n 1, 1) := by decide +kernel
theorem d_X12_test_73 : decode (D_X12_test).2.1 73 = .ok (.iconst 2, 1) := by decide +kernel
theorem d_X12_test_74 : decode (D_X12_test).2.1 74 = .ok (.iadd, 1) := by decide +kernel
theorem d_X12_test_75 : decode (D_X12_test).2.1 75 = .ok (.invokevirtual 189, 3) := by decide +kernel
theorem d_X12_test_78 : decode (D_X12_test).2.1 78 = .ok (.ifCond .eq 7, 3) := by decide +kernel
theorem d_X12_test_81 : decode (D_X12_test).2.1 81 = .ok (.iconst 1, 1) := by decide +kernel
theorem d_X12_test_82 : decode (D_X12_test).2.1 82 = .ok (.goto 4, 3) := by decide +kernel
theorem d_X12_test_85 : decode (D_X12_test).2.1 85 = .ok (.iconst 0, 1) := by decide +kernel
theorem d_X12_test_86 : decode (D_X12_test).2.1 86 = .ok (.ireturn, 1) := by decide +kernel
theorem d_X12_test_87 : decode (D_X12_test).2.1 87 = .ok (.aload_n 0, 1) := by decide +kernel
theorem d_X12_test_88 : decode (D_X12_test).2.1 88 = .ok (.bipush 60, 2) := by decide +kernel
theorem d_X12_test_90 : decode (D_X12_test).2.1 90 = .ok (.invokevirtual 166, 3) := by decide +kernel
theorem d_X12_test_93 : decode (D_X12_test).2.1 93 = .ok (.ifCond .ne 27, 3) := by decide +kernel
theorem d_X12_test_96 : decode (D_X12_test).2.1 96 = .ok (.aload_n 0, 1) := by decide +kernel
theorem d_X12_test_97 : decode (D_X12_test).2.1 97 = .ok (.bipush 62, 2) := by decide +kernel
theorem d_X12_test_99 : decode (D_X12_test).2.1 99 = .ok (.invokevirtual 166, 3) := by decide +kernel
theorem d_X12_test_102 : decode (D_X12_test).2.1 102 = .ok (.ifCond .ne 18, 3) := by decide +kernel
theorem d_X12_test_105 : decode (D_X12_test).2.1 105 = .ok (.aload_n 0, 1) := by decide +kernel
theorem d_X12_test_106 : decode (D_X12_test).2.1 106 = .ok (.bipush 61, 2) := by decide +kernel
theorem d_X12_test_108 : decode (D_X12_test).2.1 108 = .ok (.invokevirtual 166, 3) := by decide +kernel
theorem d_X12_test_111 : decode (D_X12_test).2.1 111 = .ok (.ifCond .ne 9, 3) := by decide +kernel
theorem d_X12_test_114 : decode (D_X12_test).2.1 114 = .ok (.aload_n 0, 1) := by decide +kernel
theorem d_X12_test_115 : decode (D_X12_test).2.1 115 = .ok (.iconst 2, 1) := by decide +kernel
theorem d_X12_test_116 : decode (D_X12_test).2.1 116 = .ok (.invokevirtual 169, 3) := by decide +kernel
theorem d_X12_test_119 : decode (D_X12_test).2.1 119 = .ok (.ireturn, 1) := by decide +kernel
theorem d_X12_test_120 : decode (D_X12_test).2.1 120 = .ok (.aload_n 0, 1) := by decide +kernel
theorem d_X12_test_121 : decode (D_X12_test).2.1 121 = .ok (.getfield 7, 3) := by decide +kernel
theorem d_X12_test_124 : decode (D_X12_test).2.1 124 = .ok (.iload_n 1, 1) := by decide +kernel
theorem d_X12_test_125 : decode (D_X12_test).2.1 125 = .ok (.iconst 5, 1) := by decide +kernel
theorem d_X12_test_126 : decode (D_X12_test).2.1 126 = .ok (.iadd, 1) := by decide +kernel
theorem d_X12_test_127 : decode (D_X12_test).2.1 127 = .ok (.aload_n 0, 1) := by decide +kernel
theorem d_X12_test_128 : decode (D_X12_test).2.1 128 = .ok (.getfield 129, 3) := by decide +kernel
theorem d_X12_test_131 : decode (D_X12_test).2.1 131 = .ok (.iastore, 1) := by decide +kernel
theorem d_X12_test_132 : decode (D_X12_test).2.1 132 = .ok (.aload_n 0, 1) := by decide +kernel
theorem d_X12_test_133 : decode (D_X12_test).2.1 133 = .ok (.invokevirtual 163, 3) := by decide +kernel
theorem d_X12_test_136 : decode (D_X12_test).2.1 136 = .ok (.aload_n 0, 1) := by decide +kernel
theorem d_X12_test_137 : decode (D_X12_test).2.1 137 = .ok (.iload_n 1, 1) := by decide +kernel
theorem d_X12_test_138 : decode (D_X12_test).2.1 138 = .ok (.iconst 2, 1) := by decide +kernel
theorem d_X12_test_139 : decode (D_X12_test).2.1 139 = .ok (.iadd, 1) := by decide +kernel
theorem d_X12_test_140 : decode (D_X12_test).2.1 140 = .ok (.iconst 0, 1) := by decide +kernel
theorem d_X12_test_141 : decode (D_X12_test).2.1 141 = .ok (.bipush 64, 2) := by decide +kernel
theorem d_X12_test_143 : decode (D_X12_test).2.1 143 = .ok (.invokevirtual 203, 3) := by decide +kernel
theorem d_X12_test_146 : decode (D_X12_test).2.1 146 = .ok (.ireturn, 1) := by decide +kernel
def f_X12_test_L120 (n : Nat) (v1 : Int) (M : JMem) : Option (Int × JMem) := chk (jin (v1 + 5) 3160) <| letm (jup M 168 (jw (v1 + 5)).toNat (M 167 15)) fun M1 => bnd (f_X12_ahead n M1) fun _ M3 => bnd (f_X12_number n (v1 + 2) 0 64 M3) fun r4 M5 => chk (jw r4 = 0 ∨ jw r4 = 1) (some (r4, M5))
set_option maxRecDepth 4000 in
theorem t_X12_test_L120 {g : JG} {ad : Nat → Nat} (hs : jStr g ad) (n : Nat) (v1 : Int) (M : JMem) : jB g D_X12_test ad 120 [some (.ref 167), some (ji v1), none] [] M (f_X12_test_L120 n v1 M) := by
  unfold f_X12_test_L120
  refine jo_aload 0 d_X12_test_120 rfl rfl ?_
  refine jo_getR (k := 0) cl_12 (Nat.le_of_ble_eq_true rfl) lk_X12_7 rfl kc_167 kr_167_0 d_X12_test_121 ?_
  refine jo_iload 1 d_X12_test_124 rfl rfl ?_
  refine jo_iconst 5 d_X12_test_125 ?_
  refine jo_iadd d_X12_test_126 ?_
  refine jo_aload 0 d_X12_test_127 rfl rfl ?_
  refine jo_getI (k := 15) cl_12 (Nat.le_of_ble_eq_true rfl) lk_X12_129 (Or.inl rfl) kc_167 d_X12_test_128 ?_
  refine jo_iast (N := 3160) kc_168 d_X12_test_131 (fun M1 => ?_)
  refine jo_aload 0 d_X12_test_132 rfl rfl ?_
  refine jo_callV (st := []) (m_X12_ahead hs n M1) ok_X12_ahead (And.intro (Nat.le_of_ble_eq_true rfl) (Nat.le_of_ble_eq_true rfl)) lm_X12_163 in_X12_ahead se_X12_ahead rfl kc_167 rfl rfl (And.intro (Nat.zero_le _) (Nat.zero_le _)) rfl (Nat.le_of_ble_eq_true rfl) d_X12_test_133 (fun _ M3 => ?_)
  refine jo_aload 0 d_X12_test_136 rfl rfl ?_
  refine jo_iload 1 d_X12_test_137 rfl rfl ?_
  refine jo_iconst 2 d_X12_test_138 ?_
  refine jo_iadd d_X12_test_139 ?_
  refine jo_iconst 0 d_X12_test_140 ?_
  refine jo_bipush 64 d_X12_test_141 (by decide) ?_
  refine jo_callV (st := []) (m_X12_number hs n (v1 + 2) 0 64 M3) ok_X12_number (And.intro (Nat.le_of_ble_eq_true rfl) (Nat.le_of_ble_eq_true rfl)) lm_X12_203 in_X12_number se_X12_number rfl kc_167 rfl rfl (And.intro (Nat.zero_le _) (Nat.zero_le _)) rfl (Nat.le_of_ble_eq_true rfl) d_X12_test_143 (fun r4 M5 => ?_)
  exact jo_zretq rfl d_X12_test_146
def f_X12_test (n : Nat) (x1 : Int) (M : JMem) : Option (Int × JMem) := bnd (f_X12_inWords n M) fun r1 M2 => letv r1 fun y3 => if jw 24 ≤ jw y3 then (chk (jin x1 3160) <| letm (jup M2 168 (jw x1).toNat (2000 + y3)) fun M4 => bnd (f_X12_ahead n M4) fun _ M6 => if jw y3 = jw 25 then (bnd (f_X12_beastTo n (x1 + 1) M6) fun r19 M20 => chk (jw r19 = 0 ∨ jw r19 = 1) (some (r19, M20))) else (if jw y3 = jw 24 then (bnd (f_X12_beastTo n (x1 + 1) M6) fun r15 M16 => if jw r15 = 0 then (some (0, M16)) else (chk (jin 0 3160) <| bnd (f_X12_oldOne n 0 (M16 168 (jw 0).toNat) (x1 + 2) M16) fun r17 M18 => if jw r17 = 0 then (some (0, M18)) else (some (1, M18)))) else (bnd (f_X12_isSign n 60 M6) fun r7 M8 => if jw r7 = 0 then (bnd (f_X12_isSign n 62 M8) fun r9 M10 => if jw r9 = 0 then (bnd (f_X12_isSign n 61 M10) fun r11 M12 => if jw r11 = 0 then (bnd (f_X12_fails n 2 M12) fun r13 M14 => chk (jw r13 = 0 ∨ jw r13 = 1) (some (r13, M14))) else (f_X12_test_L120 n x1 M12)) else (f_X12_test_L120 n x1 M10)) else (f_X12_test_L120 n x1 M8)))) else (bnd (f_X12_fails n 2 M2) fun r21 M22 => chk (jw r21 = 0 ∨ jw r21 = 1) (some (r21, M22)))
set_option maxRecDepth 4000 in
theorem t_X12_test {g : JG} {ad : Nat → Nat} (hs : jStr g ad) (n : Nat) (x1 : Int) (M : JMem) : jB g D_X12_test ad 0 [some (.ref 167), some (ji x1), none] [] M (f_X12_test n x1 M) := by
  unfold f_X12_test
  refine jo_aload 0 d_X12_test_0 rfl rfl ?_
  refine jo_ldcS hs d_X12_test_1 ?_
  refine jo_callV (st := []) (m_X12_inWords hs n M) ok_X12_inWords (And.intro (Nat.le_of_ble_eq_true rfl) (Nat.le_of_ble_eq_true rfl)) lm_X12_172 in_X12_inWords se_X12_inWords rfl kc_167 rfl rfl (And.intro (Nat.zero_le _) (Nat.zero_le _)) rfl (Nat.le_of_ble_eq_true rfl) d_X12_test_3 (fun r1 M2 => ?_)
  refine jo_istore 2 d_X12_test_6 rfl (Nat.le_of_ble_eq_true rfl) (fun y3 => ?_)
  refine jo_iload 2 d_X12_test_7 rfl rfl ?_
  refine jo_bipush 24 d_X12_test_8 (by decide) ?_
  refine jo_icmp_ge 19 d_X12_test_10 (by decide) ?_ ?_
  · skip
    refine jo_aload 0 d_X12_test_19 rfl rfl ?_
    refine jo_getR (k := 0) cl_12 (Nat.le_of_ble_eq_true rfl) lk_X12_7 rfl kc_167 kr_167_0 d_X12_test_20 ?_
    refine jo_iload 1 d_X12_test_23 rfl rfl ?_
    refine jo_sipush 2000 d_X12_test_24 (by decide) ?_
    refine jo_iload 2 d_X12_test_27 rfl rfl ?_
    refine jo_iadd d_X12_test_28 ?_
    refine jo_iast (N := 3160) kc_168 d_X12_test_29 (fun M4 => ?_)
    refine jo_aload 0 d_X12_test_30 rfl rfl ?_
    refine jo_callV (st := []) (m_X12_ahead hs n M4) ok_X12_ahead (And.intro (Nat.le_of_ble_eq_true rfl) (Nat.le_of_ble_eq_true rfl)) lm_X12_163 in_X12_ahead se_X12_ahead rfl kc_167 rfl rfl (And.intro (Nat.zero_le _) (Nat.zero_le _)) rfl (Nat.le_of_ble_eq_true rfl) d_X12_test_31 (fun _ M6 => ?_)
    refine jo_iload 2 d_X12_test_34 rfl rfl ?_
    refine jo_bipush 25 d_X12_test_35 (by decide) ?_
    refine jo_icmp_ne 48 d_X12_test_37 (by decide) ?_ ?_
    · skip
      refine jo_iload 2 d_X12_test_48 rfl rfl ?_
      refine jo_bipush 24 d_X12_test_49 (by decide) ?_
      refine jo_icmp_ne 87 d_X12_test_51 (by decide) ?_ ?_
      · skip
        refine jo_aload 0 d_X12_test_87 rfl rfl ?_
        refine jo_bipush 60 d_X12_test_88 (by decide) ?_
        refine jo_callV (st := []) (m_X12_isSign hs n 60 M6) ok_X12_isSign (And.intro (Nat.le_of_ble_eq_true rfl) (Nat.le_of_ble_eq_true rfl)) lm_X12_166 in_X12_isSign se_X12_isSign rfl kc_167 rfl rfl (And.intro (Nat.zero_le _) (Nat.zero_le _)) rfl (Nat.le_of_ble_eq_true rfl) d_X12_test_90 (fun r7 M8 => ?_)
        refine jo_if_ne 120 d_X12_test_93 (by decide) ?_ ?_
        · skip
          exact jO.sub (t_X12_test_L120 hs n x1 M8) (And.intro rfl (And.intro rfl True.intro))
        · skip
          refine jo_aload 0 d_X12_test_96 rfl rfl ?_
          refine jo_bipush 62 d_X12_test_97 (by decide) ?_
          refine jo_callV (st := []) (m_X12_isSign hs n 62 M8) ok_X12_isSign (And.intro (Nat.le_of_ble_eq_true rfl) (Nat.le_of_ble_eq_true rfl)) lm_X12_166 in_X12_isSign se_X12_isSign rfl kc_167 rfl rfl (And.intro (Nat.zero_le _) (Nat.zero_le _)) rfl (Nat.le_of_ble_eq_true rfl) d_X12_test_99 (fun r9 M10 => ?_)
          refine jo_if_ne 120 d_X12_test_102 (by decide) ?_ ?_
          · skip
            exact jO.sub (t_X12_test_L120 hs n x1 M10) (And.intro rfl (And.intro rfl True.intro))
          · skip
            refine jo_aload 0 d_X12_test_105 rfl rfl ?_
            refine jo_bipush 61 d_X12_test_106 (by decide) ?_
            refine jo_callV (st := []) (m_X12_isSign hs n 61 M10) ok_X12_isSign (And.intro (Nat.le_of_ble_eq_true rfl) (Nat.le_of_ble_eq_true rfl)) lm_X12_166 in_X12_isSign se_X12_isSign rfl kc_167 rfl rfl (And.intro (Nat.zero_le _) (Nat.zero_le _)) rfl (Nat.le_of_ble_eq_true rfl) d_X12_test_108 (fun r11 M12 => ?_)
            refine jo_if_ne 120 d_X12_test_111 (by decide) ?_ ?_
            · skip
              exact jO.sub (t_X12_test_L120 hs n x1 M12) (And.intro rfl (And.intro rfl True.intro))
            · skip
              refine jo_aload 0 d_X12_test_114 rfl rfl ?_
              refine jo_iconst 2 d_X12_test_115 ?_
              refine jo_callV (st := []) (m_X12_fails hs n 2 M12) ok_X12_fails (And.intro (Nat.le_of_ble_eq_true rfl) (Nat.le_of_ble_eq_true rfl)) lm_X12_169 in_X12_fails se_X12_fails rfl kc_167 rfl rfl (And.intro (Nat.zero_le _) (Nat.zero_le _)) rfl (Nat.le_of_ble_eq_true rfl) d_X12_test_116 (fun r13 M14 => ?_)
              exact jo_zretq rfl d_X12_test_119
      · skip
        refine jo_aload 0 d_X12_test_54 rfl rfl ?_
        refine jo_iload 1 d_X12_test_55 rfl rfl ?_
        refine jo_iconst 1 d_X12_test_56 ?_
        refine jo_iadd d_X12_test_57 ?_
        refine jo_callV (st := []) (m_X12_beastTo hs n (x1 + 1) M6) ok_X12_beastTo (And.intro (Nat.le_of_ble_eq_true rfl) (Nat.le_of_ble_eq_true rfl)) lm_X12_242 in_X12_beastTo se_X12_beastTo rfl kc_167 rfl rfl (And.intro (Nat.zero_le _) (Nat.zero_le _)) rfl (Nat.le_of_ble_eq_true rfl) d_X12_test_58 (fun r15 M16 => ?_)
        refine jo_if_eq 85 d_X12_test_61 (by decide) ?_ ?_
        · skip
          refine jo_iconst 0 d_X12_test_85 ?_
          exact jo_zret rfl (by decide) d_X12_test_86
        · skip
          refine jo_aload 0 d_X12_test_64 rfl rfl ?_
          refine jo_iconst 0 d_X12_test_65 ?_
          refine jo_aload 0 d_X12_test_66 rfl rfl ?_
          refine jo_getR (k := 0) cl_12 (Nat.le_of_ble_eq_true rfl) lk_X12_7 rfl kc_167 kr_167_0 d_X12_test_67 ?_
          refine jo_iconst 0 d_X12_test_70 ?_
          refine jo_iald (N := 3160) kc_168 d_X12_test_71 ?_
          refine jo_iload 1 d_X12_test_72 rfl rfl ?_
          refine jo_iconst 2 d_X12_test_73 ?_
          refine jo_iadd d_X12_test_74 ?_
          refine jo_callV (st := []) (m_X12_oldOne hs n 0 (M16 168 (jw 0).toNat) (x1 + 2) M16) ok_X12_oldOne (And.intro (Nat.le_of_ble_eq_true rfl) (Nat.le_of_ble_eq_true rfl)) lm_X12_189 in_X12_oldOne se_X12_oldOne rfl kc_167 rfl rfl (And.intro (Nat.zero_le _) (Nat.zero_le _)) rfl (Nat.le_of_ble_eq_true rfl) d_X12_test_75 (fun r17 M18 => ?_)
          refine jo_if_eq 85 d_X12_test_78 (by decide) ?_ ?_
          · skip
            refine jo_iconst 0 d_X12_test_85 ?_
            exact jo_zret rfl (by decide) d_X12_test_86
          · skip
            refine jo_iconst 1 d_X12_test_81 ?_
            refine jo_goto 86 d_X12_test_82 (by decide) ?_
            exact jo_zret rfl (by decide) d_X12_test_86
    · skip
      refine jo_aload 0 d_X12_test_40 rfl rfl ?_
      refine jo_iload 1 d_X12_test_41 rfl rfl ?_
      refine jo_iconst 1 d_X12_test_42 ?_
      refine jo_iadd d_X12_test_43 ?_
      refine jo_callV (st := []) (m_X12_beastTo hs n (x1 + 1) M6) ok_X12_beastTo (And.intro (Nat.le_of_ble_eq_true rfl) (Nat.le_of_ble_eq_true rfl)) lm_X12_242 in_X12_beastTo se_X12_beastTo rfl kc_167 rfl rfl (And.intro (Nat.zero_le _) (Nat.zero_le _)) rfl (Nat.le_of_ble_eq_true rfl) d_X12_test_44 (fun r19 M20 => ?_)
      exact jo_zretq rfl d_X12_test_47
  · skip
    refine jo_aload 0 d_X12_test_13 rfl rfl ?_
    refine jo_iconst 2 d_X12_test_14 ?_
    refine jo_callV (st := []) (m_X12_fails hs n 2 M2) ok_X12_fails (And.intro (Nat.le_of_ble_eq_true rfl) (Nat.le_of_ble_eq_true rfl)) lm_X12_169 in_X12_fails se_X12_fails rfl kc_167 rfl rfl (And.intro (Nat.zero_le _) (Nat.zero_le _)) rfl (Nat.le_of_ble_eq_true rfl) d_X12_test_15 (fun r21 M22 => ?_)
    exact jo_zretq rfl d_X12_test_18
theorem m_X12_test {g : JG} {ad : Nat → Nat} (hs : jStr g ad) (n : Nat) (x1 : Int) (M : JMem) : jMet g jNN ad jR D_X12_test yX12_test [.ref 167, ji x1] M (f_X12_test n x1 M) :=
  jMet.of (lo0 := [some (.ref 167), some (ji x1), none]) (by decide) rfl rfl (Nat.le_of_ble_eq_true rfl) (And.intro rfl (And.intro rfl True.intro)) (t_X12_test hs n x1 M)
/-! CageLeaveModel.there(I)I -/
def D_X12_there : JD := (RX12, cX12_there, 2, some .int, "there", { frames := 5, cells := 0, slots := 0, locals := 107 })
theorem ok_X12_there : jOk D_X12_there yX12_there 1 := ⟨jTW_mem (k := 1757) (by decide +kernel) rfl, jTW_mem (k := 151) (by decide +kernel) rfl, ⟨by decide +kernel, by decide +kernel⟩, by decide +kernel, rfl, rfl⟩
theorem in_X12_there : Cond.instanceMethod yX12_there ∈ jTW := jTW_mem (k := 1755) (by decide +kernel) rfl
theorem se_X12_there : Cond.selects yX12_there.cls yX12_there yX12_there ∈ jTW := jTW_mem (k := 1756) (by decide +kernel) rfl
theorem d_X12_there_0 : decode (D_X12_there).2.1 0 = .ok (.aload_n 0, 1) := by decide +kernel
theorem d_X12_there_1 : decode (D_X12_there).2.1 1 = .ok (.iload_n 1, 1) := by decide +kernel
theorem d_X12_there_2 : decode (D_X12_there).2.1 2 = .ok (.invokevirtual 306, 3) := by decide +kernel
theorem d_X12_there_5 : decode (D_X12_there).2.1 5 = .ok (.ifCond .eq 15, 3) := by decide +kernel
theorem d_X12_there_8 : decode (D_X12_there).2.1 8 = .ok (.aload_n 0, 1) := by decide +kernel
theorem d_X12_there_9 : decode (D_X12_there).2.1 9 = .ok (.aload_n 0, 1) := by decide +kernel
theorem d_X12_there_10 : decode (D_X12_there).2.1 10 = .ok (.iload_n 1, 1) := by decide +kernel
theorem d_X12_there_11 : decode (D_X12_there).2.1 11 = .ok (.invokevirtual 285, 3) := by decide +kernel
theorem d_X12_there_14 : decode (D_X12_there).2.1 14 = .ok (.invokevirtual 91, 3) := by decide +kernel
theorem d_X12_there_17 : decode (D_X12_there).2.1 17 = .ok (.goto 8, 3) := by decide +kernel
theorem d_X12_there_20 : decode (D_X12_there).2.1 20 = .ok (.aload_n 0, 1) := by decide +kernel
theorem d_X12_there_21 : decode (D_X12_there).2.1 21 = .ok (.iconst 1, 1) := by decide +kernel
theorem d_X12_there_22 : decode (D_X12_there).2.1 22 = .ok (.invokevirtual 87, 3) := by decide +kernel
theorem d_X12_there_25 : decode (D_X12_there).2.1 25 = .ok (.ireturn, 1) := by decide +kernel
def f_X12_there (n : Nat) (x1 : Int) (M : JMem) : Option (Int × JMem) := bnd (f_X12_isPlace n x1 M) fun r1 M2 => if jw r1 = 0 then (bnd (f_X12_refuse n 1 M2) fun r3 M4 => some (r3, M4)) else (bnd (f_X12_beastsAt n x1 M2) fun r5 M6 => bnd (f_X12_gives n r5 M6) fun r7 M8 => some (r7, M8))
set_option maxRecDepth 4000 in
theorem t_X12_there {g : JG} {ad : Nat → Nat} (hs : jStr g ad) (n : Nat) (x1 : Int) (M : JMem) : jB g D_X12_there ad 0 [some (.ref 167), some (ji x1)] [] M (f_X12_there n x1 M) := by
  unfold f_X12_there
  refine jo_aload 0 d_X12_there_0 rfl rfl ?_
  refine jo_iload 1 d_X12_there_1 rfl rfl ?_
  refine jo_callV (st := []) (m_X12_isPlace hs n x1 M) ok_X12_isPlace (And.intro (Nat.le_of_ble_eq_true rfl) (Nat.le_of_ble_eq_true rfl)) lm_X12_306 in_X12_isPlace se_X12_isPlace rfl kc_167 rfl rfl (And.intro (Nat.zero_le _) (Nat.zero_le _)) rfl (Nat.le_of_ble_eq_true rfl) d_X12_there_2 (fun r1 M2 => ?_)
  refine jo_if_eq 20 d_X12_there_5 (by decide) ?_ ?_
  · skip
    refine jo_aload 0 d_X12_there_20 rfl rfl ?_
    refine jo_iconst 1 d_X12_there_21 ?_
    refine jo_callV (st := []) (m_X12_refuse hs n 1 M2) ok_X12_refuse (And.intro (Nat.le_of_ble_eq_true rfl) (Nat.le_of_ble_eq_true rfl)) lm_X12_87 in_X12_refuse se_X12_refuse rfl kc_167 rfl rfl (And.intro (Nat.zero_le _) (Nat.zero_le _)) rfl (Nat.le_of_ble_eq_true rfl) d_X12_there_22 (fun r3 M4 => ?_)
    exact jo_iret rfl d_X12_there_25
  · skip
    refine jo_aload 0 d_X12_there_8 rfl rfl ?_
    refine jo_aload 0 d_X12_there_9 rfl rfl ?_
    refine jo_iload 1 d_X12_there_10 rfl rfl ?_
    refine jo_callV (st := [.ref 167]) (m_X12_beastsAt hs n x1 M2) ok_X12_beastsAt (And.intro (Nat.le_of_ble_eq_true rfl) (Nat.le_of_ble_eq_true rfl)) lm_X12_285 in_X12_beastsAt se_X12_beastsAt rfl kc_167 rfl rfl (And.intro (Nat.zero_le _) (Nat.zero_le _)) rfl (Nat.le_of_ble_eq_true rfl) d_X12_there_11 (fun r5 M6 => ?_)
    refine jo_callV (st := []) (m_X12_gives hs n r5 M6) ok_X12_gives (And.intro (Nat.le_of_ble_eq_true rfl) (Nat.le_of_ble_eq_true rfl)) lm_X12_91 in_X12_gives se_X12_gives rfl kc_167 rfl rfl (And.intro (Nat.zero_le _) (Nat.zero_le _)) rfl (Nat.le_of_ble_eq_true rfl) d_X12_there_14 (fun r7 M8 => ?_)
    refine jo_goto 25 d_X12_there_17 (by decide) ?_
    exact jo_iret rfl d_X12_there_25
theorem m_X12_there {g : JG} {ad : Nat → Nat} (hs : jStr g ad) (n : Nat) (x1 : Int) (M : JMem) : jMet g jNN ad jR D_X12_there yX12_there [.ref 167, ji x1] M (f_X12_there n x1 M) :=
  jMet.of (lo0 := [some (.ref 167), some (ji x1)]) (by decide) rfl rfl (Nat.le_of_ble_eq_true rfl) (And.intro rfl (And.intro rfl True.intro)) (t_X12_there hs n x1 M)
/-! CageLeaveModel.ticket(IIZ)Z -/
def D_X12_ticket : JD := (RX12, cX12_ticket, 4, some .boolean, "ticket", { frames := 3, cells := 0, slots := 0, locals := 63 })
theorem ok_X12_ticket : jOk D_X12_ticket yX12_ticket 3 := ⟨jTW_mem (k := 1828) (by decide +kernel) rfl, jTW_mem (k := 151) (by decide +kernel) rfl, ⟨by decide +kernel, by decide +kernel⟩, by decide +kernel, rfl, rfl⟩
theorem in_X12_ticket : Cond.instanceMethod yX12_ticket ∈ jTW := jTW_mem (k := 1826) (by decide +kernel) rfl
theorem se_X12_ticket : Cond.selects yX12_ticket.cls yX12_ticket yX12_ticket ∈ jTW := jTW_mem (k := 1827) (by decide +kernel) rfl
theorem d_X12_ticket_0 : decode (D_X12_ticket).2.1 0 = .ok (.aload_n 0, 1) := by decide +kernel
theorem d_X12_ticket_1 : decode (D_X12_ticket).2.1 1 = .ok (.iload_n 1, 1) := by decide +kernel
theorem d_X12_ticket_2 : decode (D_X12_ticket).2.1 2 = .ok (.invokevirtual 263, 3) := by decide +kernel
theorem d_X12_ticket_5 : decode (D_X12_ticket).2.1 5 = .ok (.ifCond .eq 11, 3) := by decide +kernel
theorem d_X12_ticket_8 : decode (D_X12_ticket).2.1 8 = .ok (.aload_n 0, 1) := by decide +kernel
theorem d_X12_ticket_9 : decode (D_X12_ticket).2.1 9 = .ok (.iload_n 2, 1) := by decide +kernel
theorem d_X12_ticket_10 : decode (D_X12_ticket).2.1 10 = .ok (.invokevirtual 300, 3) := by decide +kernel
theorem d_X12_ticket_13 : decode (D_X12_ticket).2.1 13 = .ok (.ifCond .ne 9, 3) := by decide +kernel
theorem d_X12_ticket_16 : decode (D_X12_ticket).2.1 16 = .ok (.aload_n 0, 1) := by decide +kernel
theorem d_X12_ticket_17 : decode (D_X12_ticket).2.1 17 = .ok (.iconst 1, 1) := by decide +kernel
theorem d_X12_ticket_18 : decode (D_X12_ticket).2.1 18 = .ok (.invokevirtual 94, 3) := by decide +kernel
theorem d_X12_ticket_21 : decode (D_X12_ticket).2.1 21 = .ok (.ireturn, 1) := by decide +kernel
theorem d_X12_ticket_22 : decode (D_X12_ticket).2.1 22 = .ok (.aload_n 0, 1) := by decide +kernel
theorem d_X12_ticket_23 : decode (D_X12_ticket).2.1 23 = .ok (.iload_n 1, 1) := by decide +kernel
theorem d_X12_ticket_24 : decode (D_X12_ticket).2.1 24 = .ok (.invokevirtual 279, 3) := by decide +kernel
theorem d_X12_ticket_27 : decode (D_X12_ticket).2.1 27 = .ok (.ifCond .ne 18, 3) := by decide +kernel
theorem d_X12_ticket_30 : decode (D_X12_ticket).2.1 30 = .ok (.aload_n 0, 1) := by decide +kernel
theorem d_X12_ticket_31 : decode (D_X12_ticket).2.1 31 = .ok (.aload_n 0, 1) := by decide +kernel
theorem d_X12_ticket_32 : decode (D_X12_ticket).2.1 32 = .ok (.iload_n 1, 1) := by decide +kernel
theorem d_X12_ticket_33 : decode (D_X12_ticket).2.1 33 = .ok (.iconst 5, 1) := by decide +kernel
theorem d_X12_ticket_34 : decode (D_X12_ticket).2.1 34 = .ok (.invokevirtual 276, 3) := by decide +kernel
theorem d_X12_ticket_37 : decode (D_X12_ticket).2.1 37 = .ok (.iload_n 2, 1) := by decide +kernel
theorem d_X12_ticket_38 : decode (D_X12_ticket).2.1 38 = .ok (.invokevirtual 315, 3) := by decide +kernel
theorem d_X12_ticket_41 : decode (D_X12_ticket).2.1 41 = .ok (.iload_n 3, 1) := by decide +kernel
theorem d_X12_ticket_42 : decode (D_X12_ticket).2.1 42 = .ok (.if_icmp .ne 10, 3) := by decide +kernel
theorem d_X12_ticket_45 : decode (D_X12_ticket).2.1 45 = .ok (.aload_n 0, 1) := by decide +kernel
theorem d_X12_ticket_46 : decode (D_X12_ticket).2.1 46 = .ok (.bipush 7, 2) := by decide +kernel
theorem d_X12_ticket_48 : decode (D_X12_ticket).2.1 48 = .ok (.invokevirtual 94, 3) := by decide +kernel
theorem d_X12_ticket_51 : decode (D_X12_ticket).2.1 51 = .ok (.ireturn, 1) := by decide +kernel
theorem d_X12_ticket_52 : decode (D_X12_ticket).2.1 52 = .ok (.aload_n 0, 1) := by decide +kernel
theorem d_X12_ticket_53 : decode (D_X12_ticket).2.1 53 = .ok (.getfield 7, 3) := by decide +kernel
theorem d_X12_ticket_56 : decode (D_X12_ticket).2.1 56 = .ok (.iload_n 1, 1) := by decide +kernel
theorem d_X12_ticket_57 : decode (D_X12_ticket).2.1 57 = .ok (.invokestatic 270, 3) := by decide +kernel
theorem d_X12_ticket_60 : decode (D_X12_ticket).2.1 60 = .ok (.iconst 5, 1) := by decide +kernel
theorem d_X12_ticket_61 : decode (D_X12_ticket).2.1 61 = .ok (.iadd, 1) := by decide +kernel
theorem d_X12_ticket_62 : decode (D_X12_ticket).2.1 62 = .ok (.dup2, 1) := by decide +kernel
theorem d_X12_ticket_63 : decode (D_X12_ticket).2.1 63 = .ok (.iaload, 1) := by decide +kernel
theorem d_X12_ticket_64 : decode (D_X12_ticket).2.1 64 = .ok (.iconst 1, 1) := by decide +kernel
theorem d_X12_ticket_65 : decode (D_X12_ticket).2.1 65 = .ok (.iload_n 2, 1) := by decide +kernel
theorem d_X12_ticket_66 : decode (D_X12_ticket).2.1 66 = .ok (.ishl, 1) := by decide +kernel
theorem d_X12_ticket_67 : decode (D_X12_ticket).2.1 67 = .ok (.ixor, 1) := by decide +kernel
theorem d_X12_ticket_68 : decode (D_X12_ticket).2.1 68 = .ok (.iastore, 1) := by decide +kernel
theorem d_X12_ticket_69 : decode (D_X12_ticket).2.1 69 = .ok (.aload_n 0, 1) := by decide +kernel
theorem d_X12_ticket_70 : decode (D_X12_ticket).2.1 70 = .ok (.iconst 0, 1) := by decide +kernel
theorem d_X12_ticket_71 : decode (D_X12_ticket).2.1 71 = .ok (.invokevirtual 94, 3) := by decide +kernel
theorem d_X12_ticket_74 : decode (D_X12_ticket).2.1 74 = .ok (.ireturn, 1) := by decide +kernel
def f_X12_ticket_L16 (n : Nat) (M : JMem) : Option (Int × JMem) := bnd (f_X12_is n 1 M) fun r1 M2 => chk (jw r1 = 0 ∨ jw r1 = 1) (some (r1, M2))
set_option maxRecDepth 4000 in
theorem t_X12_ticket_L16 {g : JG} {ad : Nat → Nat} (hs : jStr g ad) (n : Nat) (M : JMem) : jB g D_X12_ticket ad 16 [some (.ref 167), none, none, none] [] M (f_X12_ticket_L16 n M) := by
  unfold f_X12_ticket_L16
  refine jo_aload 0 d_X12_ticket_16 rfl rfl ?_
  refine jo_iconst 1 d_X12_ticket_17 ?_
  refine jo_callV (st := []) (m_X12_is hs n 1 M) ok_X12_is (And.intro (Nat.le_of_ble_eq_true rfl) (Nat.le_of_ble_eq_true rfl)) lm_X12_94 in_X12_is se_X12_is rfl kc_167 rfl rfl (And.intro (Nat.zero_le _) (Nat.zero_le _)) rfl (Nat.le_of_ble_eq_true rfl) d_X12_ticket_18 (fun r1 M2 => ?_)
  exact jo_zretq rfl d_X12_ticket_21
def f_X12_ticket_L45 (n : Nat) (M : JMem) : Option (Int × JMem) := bnd (f_X12_is n 7 M) fun r1 M2 => chk (jw r1 = 0 ∨ jw r1 = 1) (some (r1, M2))
set_option maxRecDepth 4000 in
theorem t_X12_ticket_L45 {g : JG} {ad : Nat → Nat} (hs : jStr g ad) (n : Nat) (M : JMem) : jB g D_X12_ticket ad 45 [some (.ref 167), none, none, none] [] M (f_X12_ticket_L45 n M) := by
  unfold f_X12_ticket_L45
  refine jo_aload 0 d_X12_ticket_45 rfl rfl ?_
  refine jo_bipush 7 d_X12_ticket_46 (by decide) ?_
  refine jo_callV (st := []) (m_X12_is hs n 7 M) ok_X12_is (And.intro (Nat.le_of_ble_eq_true rfl) (Nat.le_of_ble_eq_true rfl)) lm_X12_94 in_X12_is se_X12_is rfl kc_167 rfl rfl (And.intro (Nat.zero_le _) (Nat.zero_le _)) rfl (Nat.le_of_ble_eq_true rfl) d_X12_ticket_48 (fun r1 M2 => ?_)
  exact jo_zretq rfl d_X12_ticket_51
def f_X12_ticket (n : Nat) (x1 : Int) (x2 : Int) (x3 : Int) (M : JMem) : Option (Int × JMem) := bnd (f_X12_isBeast n x1 M) fun r1 M2 => if jw r1 = 0 then (f_X12_ticket_L16 n M2) else (bnd (f_X12_isTrain n x2 M2) fun r3 M4 => if jw r3 = 0 then (f_X12_ticket_L16 n M4) else (bnd (f_X12_isEaten n x1 M4) fun r5 M6 => if jw r5 = 0 then (bnd (f_X12_beastOf n x1 5 M6) fun r7 M8 => bnd (f_X12_isIn n r7 x2 M8) fun r9 M10 => if jw r9 = jw x3 then (f_X12_ticket_L45 n M10) else (bnd (f_X12_beastRow n x1 M10) fun r11 M12 => chk (jin (r11 + 5) 3160) <| chk (jin (r11 + 5) 3160) <| letm (jup M12 168 (jw (r11 + 5)).toNat (jxor (M12 168 (jw (r11 + 5)).toNat) (jshl 1 x2))) fun M13 => bnd (f_X12_is n 0 M13) fun r14 M15 => chk (jw r14 = 0 ∨ jw r14 = 1) (some (r14, M15)))) else (f_X12_ticket_L45 n M6)))
set_option maxRecDepth 4000 in
theorem t_X12_ticket {g : JG} {ad : Nat → Nat} (hs : jStr g ad) (n : Nat) (x1 : Int) (x2 : Int) (x3 : Int) (M : JMem) : jB g D_X12_ticket ad 0 [some (.ref 167), some (ji x1), some (ji x2), some (ji x3)] [] M (f_X12_ticket n x1 x2 x3 M) := by
  unfold f_X12_ticket
  refine jo_aload 0 d_X12_ticket_0 rfl rfl ?_
  refine jo_iload 1 d_X12_ticket_1 rfl rfl ?_
  refine jo_callV (st := []) (m_X12_isBeast hs n x1 M) ok_X12_isBeast (And.intro (Nat.le_of_ble_eq_true rfl) (Nat.le_of_ble_eq_true rfl)) lm_X12_263 in_X12_isBeast se_X12_isBeast rfl kc_167 rfl rfl (And.intro (Nat.zero_le _) (Nat.zero_le _)) rfl (Nat.le_of_ble_eq_true rfl) d_X12_ticket_2 (fun r1 M2 => ?_)
  refine jo_if_eq 16 d_X12_ticket_5 (by decide) ?_ ?_
  · skip
    exact jO.sub (t_X12_ticket_L16 hs n M2) (And.intro rfl True.intro)
  · skip
    refine jo_aload 0 d_X12_ticket_8 rfl rfl ?_
    refine jo_iload 2 d_X12_ticket_9 rfl rfl ?_
    refine jo_callV (st := []) (m_X12_isTrain hs n x2 M2) ok_X12_isTrain (And.intro (Nat.le_of_ble_eq_true rfl) (Nat.le_of_ble_eq_true rfl)) lm_X12_300 in_X12_isTrain se_X12_isTrain rfl kc_167 rfl rfl (And.intro (Nat.zero_le _) (Nat.zero_le _)) rfl (Nat.le_of_ble_eq_true rfl) d_X12_ticket_10 (fun r3 M4 => ?_)
    refine jo_if_ne 22 d_X12_ticket_13 (by decide) ?_ ?_
    · skip
      refine jo_aload 0 d_X12_ticket_22 rfl rfl ?_
      refine jo_iload 1 d_X12_ticket_23 rfl rfl ?_
      refine jo_callV (st := []) (m_X12_isEaten hs n x1 M4) ok_X12_isEaten (And.intro (Nat.le_of_ble_eq_true rfl) (Nat.le_of_ble_eq_true rfl)) lm_X12_279 in_X12_isEaten se_X12_isEaten rfl kc_167 rfl rfl (And.intro (Nat.zero_le _) (Nat.zero_le _)) rfl (Nat.le_of_ble_eq_true rfl) d_X12_ticket_24 (fun r5 M6 => ?_)
      refine jo_if_ne 45 d_X12_ticket_27 (by decide) ?_ ?_
      · skip
        exact jO.sub (t_X12_ticket_L45 hs n M6) (And.intro rfl True.intro)
      · skip
        refine jo_aload 0 d_X12_ticket_30 rfl rfl ?_
        refine jo_aload 0 d_X12_ticket_31 rfl rfl ?_
        refine jo_iload 1 d_X12_ticket_32 rfl rfl ?_
        refine jo_iconst 5 d_X12_ticket_33 ?_
        refine jo_callV (st := [.ref 167]) (m_X12_beastOf hs n x1 5 M6) ok_X12_beastOf (And.intro (Nat.le_of_ble_eq_true rfl) (Nat.le_of_ble_eq_true rfl)) lm_X12_276 in_X12_beastOf se_X12_beastOf rfl kc_167 rfl rfl (And.intro (Nat.zero_le _) (Nat.zero_le _)) rfl (Nat.le_of_ble_eq_true rfl) d_X12_ticket_34 (fun r7 M8 => ?_)
        refine jo_iload 2 d_X12_ticket_37 rfl rfl ?_
        refine jo_callV (st := []) (m_X12_isIn hs n r7 x2 M8) ok_X12_isIn (And.intro (Nat.le_of_ble_eq_true rfl) (Nat.le_of_ble_eq_true rfl)) lm_X12_315 in_X12_isIn se_X12_isIn rfl kc_167 rfl rfl (And.intro (Nat.zero_le _) (Nat.zero_le _)) rfl (Nat.le_of_ble_eq_true rfl) d_X12_ticket_38 (fun r9 M10 => ?_)
        refine jo_iload 3 d_X12_ticket_41 rfl rfl ?_
        refine jo_icmp_ne 52 d_X12_ticket_42 (by decide) ?_ ?_
        · skip
          refine jo_aload 0 d_X12_ticket_52 rfl rfl ?_
          refine jo_getR (k := 0) cl_12 (Nat.le_of_ble_eq_true rfl) lk_X12_7 rfl kc_167 kr_167_0 d_X12_ticket_53 ?_
          refine jo_iload 1 d_X12_ticket_56 rfl rfl ?_
          refine jo_callS (st := [.ref 168]) (m_X12_beastRow hs n x1 M10) ok_X12_beastRow (And.intro (Nat.le_of_ble_eq_true rfl) (Nat.le_of_ble_eq_true rfl)) lm_X12_270 st_X12_beastRow rfl (And.intro (Nat.zero_le _) (Nat.zero_le _)) rfl (Nat.le_of_ble_eq_true rfl) d_X12_ticket_57 (fun r11 M12 => ?_)
          refine jo_iconst 5 d_X12_ticket_60 ?_
          refine jo_iadd d_X12_ticket_61 ?_
          refine jo_dup2 d_X12_ticket_62 rfl rfl ?_
          refine jo_iald (N := 3160) kc_168 d_X12_ticket_63 ?_
          refine jo_iconst 1 d_X12_ticket_64 ?_
          refine jo_iload 2 d_X12_ticket_65 rfl rfl ?_
          refine jo_ishl d_X12_ticket_66 ?_
          refine jo_ixor d_X12_ticket_67 ?_
          refine jo_iast (N := 3160) kc_168 d_X12_ticket_68 (fun M13 => ?_)
          refine jo_aload 0 d_X12_ticket_69 rfl rfl ?_
          refine jo_iconst 0 d_X12_ticket_70 ?_
          refine jo_callV (st := []) (m_X12_is hs n 0 M13) ok_X12_is (And.intro (Nat.le_of_ble_eq_true rfl) (Nat.le_of_ble_eq_true rfl)) lm_X12_94 in_X12_is se_X12_is rfl kc_167 rfl rfl (And.intro (Nat.zero_le _) (Nat.zero_le _)) rfl (Nat.le_of_ble_eq_true rfl) d_X12_ticket_71 (fun r14 M15 => ?_)
          exact jo_zretq rfl d_X12_ticket_74
        · skip
          exact jO.sub (t_X12_ticket_L45 hs n M10) (And.intro rfl True.intro)
    · skip
      exact jO.sub (t_X12_ticket_L16 hs n M4) (And.intro rfl True.intro)
theorem m_X12_ticket {g : JG} {ad : Nat → Nat} (hs : jStr g ad) (n : Nat) (x1 : Int) (x2 : Int) (x3 : Int) (M : JMem) : jMet g jNN ad jR D_X12_ticket yX12_ticket [.ref 167, ji x1, ji x2, ji x3] M (f_X12_ticket n x1 x2 x3 M) :=
  jMet.of (lo0 := [some (.ref 167), some (ji x1), some (ji x2), some (ji x3)]) (by decide) rfl rfl (Nat.le_of_ble_eq_true rfl) (And.intro rfl (And.intro rfl (And.intro rfl (And.intro rfl True.intro)))) (t_X12_ticket hs n x1 x2 x3 M)
/-! CageLeaveModel.together(II)I -/
def D_X12_together : JD := (RX12, cX12_together, 3, some .int, "together", { frames := 5, cells := 0, slots := 0, locals := 106 })
theorem ok_X12_together : jOk D_X12_together yX12_together 2 := ⟨jTW_mem (k := 1765) (by decide +kernel) rfl, jTW_mem (k := 151) (by decide +kernel) rfl, ⟨by decide +kernel, by decide +kernel⟩, by decide +kernel, rfl, rfl⟩
theorem in_X12_together : Cond.instanceMethod yX12_together ∈ jTW := jTW_mem (k := 1763) (by decide +kernel) rfl
theorem se_X12_together : Cond.selects yX12_together.cls yX12_together yX12_together ∈ jTW := jTW_mem (k := 1764) (by decide +kernel) rfl
theorem d_X12_together_0 : decode (D_X12_together).2.1 0 = .ok (.aload_n 0, 1) := by decide +kernel
theorem d_X12_together_1 : decode (D_X12_together).2.1 1 = .ok (.iload_n 1, 1) := by decide +kernel
theorem d_X12_together_2 : decode (D_X12_together).2.1 2 = .ok (.iload_n 2, 1) := by decide +kernel
theorem d_X12_together_3 : decode (D_X12_together).2.1 3 = .ok (.invokevirtual 309, 3) := by decide +kernel
theorem d_X12_together_6 : decode (D_X12_together).2.1 6 = .ok (.ifCond .ne 9, 3) := by decide +kernel
theorem d_X12_together_9 : decode (D_X12_together).2.1 9 = .ok (.aload_n 0, 1) := by decide +kernel
theorem d_X12_together_10 : decode (D_X12_together).2.1 10 = .ok (.iconst 1, 1) := by decide +kernel
theorem d_X12_together_11 : decode (D_X12_together).2.1 11 = .ok (.invokevirtual 87, 3) := by decide +kernel
theorem d_X12_together_14 : decode (D_X12_together).2.1 14 = .ok (.ireturn, 1) := by decide +kernel
theorem d_X12_together_15 : decode (D_X12_together).2.1 15 = .ok (.aload_n 0, 1) := by decide +kernel
theorem d_X12_together_16 : decode (D_X12_together).2.1 16 = .ok (.aload_n 0, 1) := by decide +kernel
theorem d_X12_together_17 : decode (D_X12_together).2.1 17 = .ok (.iload_n 1, 1) := by decide +kernel
theorem d_X12_together_18 : decode (D_X12_together).2.1 18 = .ok (.iload_n 2, 1) := by decide +kernel
theorem d_X12_together_19 : decode (D_X12_together).2.1 19 = .ok (.invokevirtual 312, 3) := by decide +kernel
theorem d_X12_together_22 : decode (D_X12_together).2.1 22 = .ok (.ifCond .eq 7, 3) := by decide +kernel
theorem d_X12_together_25 : decode (D_X12_together).2.1 25 = .ok (.iconst 1, 1) := by decide +kernel
theorem d_X12_together_26 : decode (D_X12_together).2.1 26 = .ok (.goto 4, 3) := by decide +kernel
theorem d_X12_together_29 : decode (D_X12_together).2.1 29 = .ok (.iconst 0, 1) := by decide +kernel
theorem d_X12_together_30 : decode (D_X12_together).2.1 30 = .ok (.invokevirtual 91, 3) := by decide +kernel
theorem d_X12_together_33 : decode (D_X12_together).2.1 33 = .ok (.ireturn, 1) := by decide +kernel
def f_X12_together_L30 (n : Nat) (w1 : Int) (M : JMem) : Option (Int × JMem) := bnd (f_X12_gives n w1 M) fun r1 M2 => some (r1, M2)
set_option maxRecDepth 4000 in
theorem t_X12_together_L30 {g : JG} {ad : Nat → Nat} (hs : jStr g ad) (n : Nat) (w1 : Int) (M : JMem) : jB g D_X12_together ad 30 [none, none, none] [ji w1, .ref 167] M (f_X12_together_L30 n w1 M) := by
  unfold f_X12_together_L30
  refine jo_callV (st := []) (m_X12_gives hs n w1 M) ok_X12_gives (And.intro (Nat.le_of_ble_eq_true rfl) (Nat.le_of_ble_eq_true rfl)) lm_X12_91 in_X12_gives se_X12_gives rfl kc_167 rfl rfl (And.intro (Nat.zero_le _) (Nat.zero_le _)) rfl (Nat.le_of_ble_eq_true rfl) d_X12_together_30 (fun r1 M2 => ?_)
  exact jo_iret rfl d_X12_together_33
def f_X12_together (n : Nat) (x1 : Int) (x2 : Int) (M : JMem) : Option (Int × JMem) := bnd (f_X12_areTwo n x1 x2 M) fun r1 M2 => if jw r1 = 0 then (bnd (f_X12_refuse n 1 M2) fun r5 M6 => some (r5, M6)) else (bnd (f_X12_areTogether n x1 x2 M2) fun r3 M4 => if jw r3 = 0 then (f_X12_together_L30 n 0 M4) else (f_X12_together_L30 n 1 M4))
set_option maxRecDepth 4000 in
theorem t_X12_together {g : JG} {ad : Nat → Nat} (hs : jStr g ad) (n : Nat) (x1 : Int) (x2 : Int) (M : JMem) : jB g D_X12_together ad 0 [some (.ref 167), some (ji x1), some (ji x2)] [] M (f_X12_together n x1 x2 M) := by
  unfold f_X12_together
  refine jo_aload 0 d_X12_together_0 rfl rfl ?_
  refine jo_iload 1 d_X12_together_1 rfl rfl ?_
  refine jo_iload 2 d_X12_together_2 rfl rfl ?_
  refine jo_callV (st := []) (m_X12_areTwo hs n x1 x2 M) ok_X12_areTwo (And.intro (Nat.le_of_ble_eq_true rfl) (Nat.le_of_ble_eq_true rfl)) lm_X12_309 in_X12_areTwo se_X12_areTwo rfl kc_167 rfl rfl (And.intro (Nat.zero_le _) (Nat.zero_le _)) rfl (Nat.le_of_ble_eq_true rfl) d_X12_together_3 (fun r1 M2 => ?_)
  refine jo_if_ne 15 d_X12_together_6 (by decide) ?_ ?_
  · skip
    refine jo_aload 0 d_X12_together_15 rfl rfl ?_
    refine jo_aload 0 d_X12_together_16 rfl rfl ?_
    refine jo_iload 1 d_X12_together_17 rfl rfl ?_
    refine jo_iload 2 d_X12_together_18 rfl rfl ?_
    refine jo_callV (st := [.ref 167]) (m_X12_areTogether hs n x1 x2 M2) ok_X12_areTogether (And.intro (Nat.le_of_ble_eq_true rfl) (Nat.le_of_ble_eq_true rfl)) lm_X12_312 in_X12_areTogether se_X12_areTogether rfl kc_167 rfl rfl (And.intro (Nat.zero_le _) (Nat.zero_le _)) rfl (Nat.le_of_ble_eq_true rfl) d_X12_together_19 (fun r3 M4 => ?_)
    refine jo_if_eq 29 d_X12_together_22 (by decide) ?_ ?_
    · skip
      refine jo_iconst 0 d_X12_together_29 ?_
      exact jO.sub (t_X12_together_L30 hs n 0 M4) True.intro
    · skip
      refine jo_iconst 1 d_X12_together_25 ?_
      refine jo_goto 30 d_X12_together_26 (by decide) ?_
      exact jO.sub (t_X12_together_L30 hs n 1 M4) True.intro
  · skip
    refine jo_aload 0 d_X12_together_9 rfl rfl ?_
    refine jo_iconst 1 d_X12_together_10 ?_
    refine jo_callV (st := []) (m_X12_refuse hs n 1 M2) ok_X12_refuse (And.intro (Nat.le_of_ble_eq_true rfl) (Nat.le_of_ble_eq_true rfl)) lm_X12_87 in_X12_refuse se_X12_refuse rfl kc_167 rfl rfl (And.intro (Nat.zero_le _) (Nat.zero_le _)) rfl (Nat.le_of_ble_eq_true rfl) d_X12_together_11 (fun r5 M6 => ?_)
    exact jo_iret rfl d_X12_together_14
theorem m_X12_together {g : JG} {ad : Nat → Nat} (hs : jStr g ad) (n : Nat) (x1 : Int) (x2 : Int) (M : JMem) : jMet g jNN ad jR D_X12_together yX12_together [.ref 167, ji x1, ji x2] M (f_X12_together n x1 x2 M) :=
  jMet.of (lo0 := [some (.ref 167), some (ji x1), some (ji x2)]) (by decide) rfl rfl (Nat.le_of_ble_eq_true rfl) (And.intro rfl (And.intro rfl (And.intro rfl True.intro))) (t_X12_together hs n x1 x2 M)
/-! CageLeaveModel.told(I)I -/
def D_X12_told : JD := (RX12, cX12_told, 2, some .int, "told", { frames := 6, cells := 0, slots := 0, locals := 129 })
theorem ok_X12_told : jOk D_X12_told yX12_told 1 := ⟨jTW_mem (k := 1691) (by decide +kernel) rfl, jTW_mem (k := 151) (by decide +kernel) rfl, ⟨by decide +kernel, by decide +kernel⟩, by decide +kernel, rfl, rfl⟩
theorem in_X12_told : Cond.instanceMethod yX12_told ∈ jTW := jTW_mem (k := 1689) (by decide +kernel) rfl
theorem se_X12_told : Cond.selects yX12_told.cls yX12_told yX12_told ∈ jTW := jTW_mem (k := 1690) (by decide +kernel) rfl
theorem lm_X12_294 : Cond.methodLink RX12 294 yX12_onTrains ∈ jTW := jTW_mem (k := 1703) (by decide +kernel) rfl
theorem d_X12_told_0 : decode (D_X12_told).2.1 0 = .ok (.iload_n 1, 1) := by decide +kernel
theorem d_X12_told_1 : decode (D_X12_told).2.1 1 = .ok (.ifCond .lt 9, 3) := by decide +kernel
theorem d_X12_told_4 : decode (D_X12_told).2.1 4 = .ok (.iload_n 1, 1) := by decide +kernel
theorem d_X12_told_5 : decode (D_X12_told).2.1 5 = .ok (.bipush 10, 2) := by decide +kernel
theorem d_X12_told_7 : decode (D_X12_told).2.1 7 = .ok (.if_icmp .le 9, 3) := by decide +kernel
theorem d_X12_told_10 : decode (D_X12_told).2.1 10 = .ok (.aload_n 0, 1) := by decide +kernel
theorem d_X12_told_11 : decode (D_X12_told).2.1 11 = .ok (.iconst 1, 1) := by decide +kernel
theorem d_X12_told_12 : decode (D_X12_told).2.1 12 = .ok (.invokevirtual 87, 3) := by decide +kernel
theorem d_X12_told_15 : decode (D_X12_told).2.1 15 = .ok (.ireturn, 1) := by decide +kernel
theorem d_X12_told_16 : decode (D_X12_told).2.1 16 = .ok (.iload_n 1, 1) := by decide +kernel
theorem d_X12_told_17 : decode (D_X12_told).2.1 17 = .ok (.tableswitch 85 6 10 #[35, 45, 55, 64, 73], 35) := by decide +kernel
theorem d_X12_told_52 : decode (D_X12_told).2.1 52 = .ok (.aload_n 0, 1) := by decide +kernel
theorem d_X12_told_53 : decode (D_X12_told).2.1 53 = .ok (.aload_n 0, 1) := by decide +kernel
theorem d_X12_told_54 : decode (D_X12_told).2.1 54 = .ok (.iconst 2, 1) := by decide +kernel
theorem d_X12_told_55 : decode (D_X12_told).2.1 55 = .ok (.invokevirtual 291, 3) := by decide +kernel
theorem d_X12_told_58 : decode (D_X12_told).2.1 58 = .ok (.invokevirtual 91, 3) := by decide +kernel
theorem d_X12_told_61 : decode (D_X12_told).2.1 61 = .ok (.ireturn, 1) := by decide +kernel
theorem d_X12_told_62 : decode (D_X12_told).2.1 62 = .ok (.aload_n 0, 1) := by decide +kernel
theorem d_X12_told_63 : decode (D_X12_told).2.1 63 = .ok (.aload_n 0, 1) := by decide +kernel
theorem d_X12_told_64 : decode (D_X12_told).2.1 64 = .ok (.iconst 3, 1) := by decide +kernel
theorem d_X12_told_65 : decode (D_X12_told).2.1 65 = .ok (.invokevirtual 291, 3) := by decide +kernel
theorem d_X12_told_68 : decode (D_X12_told).2.1 68 = .ok (.invokevirtual 91, 3) := by decide +kernel
theorem d_X12_told_71 : decode (D_X12_told).2.1 71 = .ok (.ireturn, 1) := by decide +kernel
theorem d_X12_told_72 : decode (D_X12_told).2.1 72 = .ok (.aload_n 0, 1) := by decide +kernel
theorem d_X12_told_73 : decode (D_X12_told).2.1 73 = .ok (.aload_n 0, 1) := by decide +kernel
theorem d_X12_told_74 : decode (D_X12_told).2.1 74 = .ok (.invokevirtual 294, 3) := by decide +kernel
theorem d_X12_told_77 : decode (D_X12_told).2.1 77 = .ok (.invokevirtual 91, 3) := by decide +kernel
theorem d_X12_told_80 : decode (D_X12_told).2.1 80 = .ok (.ireturn, 1) := by decide +kernel
theorem d_X12_told_81 : decode (D_X12_told).2.1 81 = .ok (.aload_n 0, 1) := by decide +kernel
theorem d_X12_told_82 : decode (D_X12_told).2.1 82 = .ok (.aload_n 0, 1) := by decide +kernel
theorem d_X12_told_83 : decode (D_X12_told).2.1 83 = .ok (.invokevirtual 297, 3) := by decide +kernel
theorem d_X12_told_86 : decode (D_X12_told).2.1 86 = .ok (.invokevirtual 91, 3) := by decide +kernel
theorem d_X12_told_89 : decode (D_X12_told).2.1 89 = .ok (.ireturn, 1) := by decide +kernel
theorem d_X12_told_90 : decode (D_X12_told).2.1 90 = .ok (.aload_n 0, 1) := by decide +kernel
theorem d_X12_told_91 : decode (D_X12_told).2.1 91 = .ok (.aload_n 0, 1) := by decide +kernel
theorem d_X12_told_92 : decode (D_X12_told).2.1 92 = .ok (.getfield 7, 3) := by decide +kernel
theorem d_X12_told_95 : decode (D_X12_told).2.1 95 = .ok (.bipush 6, 2) := by decide +kernel
theorem d_X12_told_97 : decode (D_X12_told).2.1 97 = .ok (.iaload, 1) := by decide +kernel
theorem d_X12_told_98 : decode (D_X12_told).2.1 98 = .ok (.invokevirtual 91, 3) := by decide +kernel
theorem d_X12_told_101 : decode (D_X12_told).2.1 101 = .ok (.ireturn, 1) := by decide +kernel
theorem d_X12_told_102 : decode (D_X12_told).2.1 102 = .ok (.aload_n 0, 1) := by decide +kernel
theorem d_X12_told_103 : decode (D_X12_told).2.1 103 = .ok (.aload_n 0, 1) := by decide +kernel
theorem d_X12_told_104 : decode (D_X12_told).2.1 104 = .ok (.getfield 7, 3) := by decide +kernel
theorem d_X12_told_107 : decode (D_X12_told).2.1 107 = .ok (.iload_n 1, 1) := by decide +kernel
theorem d_X12_told_108 : decode (D_X12_told).2.1 108 = .ok (.iaload, 1) := by decide +kernel
theorem d_X12_told_109 : decode (D_X12_told).2.1 109 = .ok (.invokevirtual 91, 3) := by decide +kernel
theorem d_X12_told_112 : decode (D_X12_told).2.1 112 = .ok (.ireturn, 1) := by decide +kernel
def f_X12_told_L10 (n : Nat) (M : JMem) : Option (Int × JMem) := bnd (f_X12_refuse n 1 M) fun r1 M2 => some (r1, M2)
set_option maxRecDepth 4000 in
theorem t_X12_told_L10 {g : JG} {ad : Nat → Nat} (hs : jStr g ad) (n : Nat) (M : JMem) : jB g D_X12_told ad 10 [some (.ref 167), none] [] M (f_X12_told_L10 n M) := by
  unfold f_X12_told_L10
  refine jo_aload 0 d_X12_told_10 rfl rfl ?_
  refine jo_iconst 1 d_X12_told_11 ?_
  refine jo_callV (st := []) (m_X12_refuse hs n 1 M) ok_X12_refuse (And.intro (Nat.le_of_ble_eq_true rfl) (Nat.le_of_ble_eq_true rfl)) lm_X12_87 in_X12_refuse se_X12_refuse rfl kc_167 rfl rfl (And.intro (Nat.zero_le _) (Nat.zero_le _)) rfl (Nat.le_of_ble_eq_true rfl) d_X12_told_12 (fun r1 M2 => ?_)
  exact jo_iret rfl d_X12_told_15
def f_X12_told (n : Nat) (x1 : Int) (M : JMem) : Option (Int × JMem) := if jw x1 < 0 then (f_X12_told_L10 n M) else (if jw x1 ≤ jw 10 then (if jw x1 = 6 then (bnd (f_X12_beastsWith n 2 M) fun r2 M3 => bnd (f_X12_gives n r2 M3) fun r4 M5 => some (r4, M5)) else (if jw x1 = 7 then (bnd (f_X12_beastsWith n 3 M) fun r6 M7 => bnd (f_X12_gives n r6 M7) fun r8 M9 => some (r8, M9)) else (if jw x1 = 8 then (bnd (f_X12_onTrains n M) fun r10 M11 => bnd (f_X12_gives n r10 M11) fun r12 M13 => some (r12, M13)) else (if jw x1 = 9 then (bnd (f_X12_halted n M) fun r14 M15 => bnd (f_X12_gives n r14 M15) fun r16 M17 => some (r16, M17)) else (if jw x1 = 10 then (chk (jin 6 3160) <| bnd (f_X12_gives n (M 168 (jw 6).toNat) M) fun r18 M19 => some (r18, M19)) else (chk (jin x1 3160) <| bnd (f_X12_gives n (M 168 (jw x1).toNat) M) fun r20 M21 => some (r20, M21))))))) else (f_X12_told_L10 n M))
set_option maxRecDepth 4000 in
theorem t_X12_told {g : JG} {ad : Nat → Nat} (hs : jStr g ad) (n : Nat) (x1 : Int) (M : JMem) : jB g D_X12_told ad 0 [some (.ref 167), some (ji x1)] [] M (f_X12_told n x1 M) := by
  unfold f_X12_told
  refine jo_iload 1 d_X12_told_0 rfl rfl ?_
  refine jo_if_lt 10 d_X12_told_1 (by decide) ?_ ?_
  · skip
    exact jO.sub (t_X12_told_L10 hs n M) (And.intro rfl True.intro)
  · skip
    refine jo_iload 1 d_X12_told_4 rfl rfl ?_
    refine jo_bipush 10 d_X12_told_5 (by decide) ?_
    refine jo_icmp_le 16 d_X12_told_7 (by decide) ?_ ?_
    · skip
      refine jo_iload 1 d_X12_told_16 rfl rfl ?_
      refine jo_if (fun c1_6 => ?_) (fun c1_6 => ?_)
      · skip
        refine jo_tabIn 52 d_X12_told_17 6 c1_6 (by decide) (by decide) rfl (by decide) ?_
        refine jo_aload 0 d_X12_told_52 rfl rfl ?_
        refine jo_aload 0 d_X12_told_53 rfl rfl ?_
        refine jo_iconst 2 d_X12_told_54 ?_
        refine jo_callV (st := [.ref 167]) (m_X12_beastsWith hs n 2 M) ok_X12_beastsWith (And.intro (Nat.le_of_ble_eq_true rfl) (Nat.le_of_ble_eq_true rfl)) lm_X12_291 in_X12_beastsWith se_X12_beastsWith rfl kc_167 rfl rfl (And.intro (Nat.zero_le _) (Nat.zero_le _)) rfl (Nat.le_of_ble_eq_true rfl) d_X12_told_55 (fun r2 M3 => ?_)
        refine jo_callV (st := []) (m_X12_gives hs n r2 M3) ok_X12_gives (And.intro (Nat.le_of_ble_eq_true rfl) (Nat.le_of_ble_eq_true rfl)) lm_X12_91 in_X12_gives se_X12_gives rfl kc_167 rfl rfl (And.intro (Nat.zero_le _) (Nat.zero_le _)) rfl (Nat.le_of_ble_eq_true rfl) d_X12_told_58 (fun r4 M5 => ?_)
        exact jo_iret rfl d_X12_told_61
      refine jo_if (fun c1_7 => ?_) (fun c1_7 => ?_)
      · skip
        refine jo_tabIn 62 d_X12_told_17 7 c1_7 (by decide) (by decide) rfl (by decide) ?_
        refine jo_aload 0 d_X12_told_62 rfl rfl ?_
        refine jo_aload 0 d_X12_told_63 rfl rfl ?_
        refine jo_iconst 3 d_X12_told_64 ?_
        refine jo_callV (st := [.ref 167]) (m_X12_beastsWith hs n 3 M) ok_X12_beastsWith (And.intro (Nat.le_of_ble_eq_true rfl) (Nat.le_of_ble_eq_true rfl)) lm_X12_291 in_X12_beastsWith se_X12_beastsWith rfl kc_167 rfl rfl (And.intro (Nat.zero_le _) (Nat.zero_le _)) rfl (Nat.le_of_ble_eq_true rfl) d_X12_told_65 (fun r6 M7 => ?_)
        refine jo_callV (st := []) (m_X12_gives hs n r6 M7) ok_X12_gives (And.intro (Nat.le_of_ble_eq_true rfl) (Nat.le_of_ble_eq_true rfl)) lm_X12_91 in_X12_gives se_X12_gives rfl kc_167 rfl rfl (And.intro (Nat.zero_le _) (Nat.zero_le _)) rfl (Nat.le_of_ble_eq_true rfl) d_X12_told_68 (fun r8 M9 => ?_)
        exact jo_iret rfl d_X12_told_71
      refine jo_if (fun c1_8 => ?_) (fun c1_8 => ?_)
      · skip
        refine jo_tabIn 72 d_X12_told_17 8 c1_8 (by decide) (by decide) rfl (by decide) ?_
        refine jo_aload 0 d_X12_told_72 rfl rfl ?_
        refine jo_aload 0 d_X12_told_73 rfl rfl ?_
        refine jo_callV (st := [.ref 167]) (m_X12_onTrains hs n M) ok_X12_onTrains (And.intro (Nat.le_of_ble_eq_true rfl) (Nat.le_of_ble_eq_true rfl)) lm_X12_294 in_X12_onTrains se_X12_onTrains rfl kc_167 rfl rfl (And.intro (Nat.zero_le _) (Nat.zero_le _)) rfl (Nat.le_of_ble_eq_true rfl) d_X12_told_74 (fun r10 M11 => ?_)
        refine jo_callV (st := []) (m_X12_gives hs n r10 M11) ok_X12_gives (And.intro (Nat.le_of_ble_eq_true rfl) (Nat.le_of_ble_eq_true rfl)) lm_X12_91 in_X12_gives se_X12_gives rfl kc_167 rfl rfl (And.intro (Nat.zero_le _) (Nat.zero_le _)) rfl (Nat.le_of_ble_eq_true rfl) d_X12_told_77 (fun r12 M13 => ?_)
        exact jo_iret rfl d_X12_told_80
      refine jo_if (fun c1_9 => ?_) (fun c1_9 => ?_)
      · skip
        refine jo_tabIn 81 d_X12_told_17 9 c1_9 (by decide) (by decide) rfl (by decide) ?_
        refine jo_aload 0 d_X12_told_81 rfl rfl ?_
        refine jo_aload 0 d_X12_told_82 rfl rfl ?_
        refine jo_callV (st := [.ref 167]) (m_X12_halted hs n M) ok_X12_halted (And.intro (Nat.le_of_ble_eq_true rfl) (Nat.le_of_ble_eq_true rfl)) lm_X12_297 in_X12_halted se_X12_halted rfl kc_167 rfl rfl (And.intro (Nat.zero_le _) (Nat.zero_le _)) rfl (Nat.le_of_ble_eq_true rfl) d_X12_told_83 (fun r14 M15 => ?_)
        refine jo_callV (st := []) (m_X12_gives hs n r14 M15) ok_X12_gives (And.intro (Nat.le_of_ble_eq_true rfl) (Nat.le_of_ble_eq_true rfl)) lm_X12_91 in_X12_gives se_X12_gives rfl kc_167 rfl rfl (And.intro (Nat.zero_le _) (Nat.zero_le _)) rfl (Nat.le_of_ble_eq_true rfl) d_X12_told_86 (fun r16 M17 => ?_)
        exact jo_iret rfl d_X12_told_89
      refine jo_if (fun c1_10 => ?_) (fun c1_10 => ?_)
      · skip
        refine jo_tabIn 90 d_X12_told_17 10 c1_10 (by decide) (by decide) rfl (by decide) ?_
        refine jo_aload 0 d_X12_told_90 rfl rfl ?_
        refine jo_aload 0 d_X12_told_91 rfl rfl ?_
        refine jo_getR (k := 0) cl_12 (Nat.le_of_ble_eq_true rfl) lk_X12_7 rfl kc_167 kr_167_0 d_X12_told_92 ?_
        refine jo_bipush 6 d_X12_told_95 (by decide) ?_
        refine jo_iald (N := 3160) kc_168 d_X12_told_97 ?_
        refine jo_callV (st := []) (m_X12_gives hs n (M 168 (jw 6).toNat) M) ok_X12_gives (And.intro (Nat.le_of_ble_eq_true rfl) (Nat.le_of_ble_eq_true rfl)) lm_X12_91 in_X12_gives se_X12_gives rfl kc_167 rfl rfl (And.intro (Nat.zero_le _) (Nat.zero_le _)) rfl (Nat.le_of_ble_eq_true rfl) d_X12_told_98 (fun r18 M19 => ?_)
        exact jo_iret rfl d_X12_told_101
      refine jo_tabOut 102 d_X12_told_17 (by omega) (by decide) ?_
      refine jo_aload 0 d_X12_told_102 rfl rfl ?_
      refine jo_aload 0 d_X12_told_103 rfl rfl ?_
      refine jo_getR (k := 0) cl_12 (Nat.le_of_ble_eq_true rfl) lk_X12_7 rfl kc_167 kr_167_0 d_X12_told_104 ?_
      refine jo_iload 1 d_X12_told_107 rfl rfl ?_
      refine jo_iald (N := 3160) kc_168 d_X12_told_108 ?_
      refine jo_callV (st := []) (m_X12_gives hs n (M 168 (jw x1).toNat) M) ok_X12_gives (And.intro (Nat.le_of_ble_eq_true rfl) (Nat.le_of_ble_eq_true rfl)) lm_X12_91 in_X12_gives se_X12_gives rfl kc_167 rfl rfl (And.intro (Nat.zero_le _) (Nat.zero_le _)) rfl (Nat.le_of_ble_eq_true rfl) d_X12_told_109 (fun r20 M21 => ?_)
      exact jo_iret rfl d_X12_told_112
    · skip
      exact jO.sub (t_X12_told_L10 hs n M) (And.intro rfl True.intro)
theorem m_X12_told {g : JG} {ad : Nat → Nat} (hs : jStr g ad) (n : Nat) (x1 : Int) (M : JMem) : jMet g jNN ad jR D_X12_told yX12_told [.ref 167, ji x1] M (f_X12_told n x1 M) :=
  jMet.of (lo0 := [some (.ref 167), some (ji x1)]) (by decide) rfl rfl (Nat.le_of_ble_eq_true rfl) (And.intro rfl (And.intro rfl True.intro)) (t_X12_told hs n x1 M)
/-! CageLeaveModel.top()J -/
def D_X12_top : JD := (RX12, cX12_top, 1, some .long, "top", { frames := 0, cells := 0, slots := 0, locals := 0 })
theorem ok_X12_top : jOk D_X12_top yX12_top 0 := ⟨jTW_mem (k := 1501) (by decide +kernel) rfl, jTW_mem (k := 151) (by decide +kernel) rfl, ⟨by decide +kernel, by decide +kernel⟩, by decide +kernel, rfl, rfl⟩
theorem in_X12_top : Cond.instanceMethod yX12_top ∈ jTW := jTW_mem (k := 1499) (by decide +kernel) rfl
theorem se_X12_top : Cond.selects yX12_top.cls yX12_top yX12_top ∈ jTW := jTW_mem (k := 1500) (by decide +kernel) rfl
theorem d_X12_top_0 : decode (D_X12_top).2.1 0 = .ok (.aload_n 0, 1) := by decide +kernel
theorem d_X12_top_1 : decode (D_X12_top).2.1 1 = .ok (.getfield 84, 3) := by decide +kernel
theorem d_X12_top_4 : decode (D_X12_top).2.1 4 = .ok (.lreturn, 1) := by decide +kernel
def f_X12_top (n : Nat) (M : JMem) : Option (Int × JMem) := some ((M 167 3), M)
set_option maxRecDepth 4000 in
theorem t_X12_top {g : JG} {ad : Nat → Nat} (hs : jStr g ad) (n : Nat) (M : JMem) : jB g D_X12_top ad 0 [some (.ref 167)] [] M (f_X12_top n M) := by
  unfold f_X12_top
  refine jo_aload 0 d_X12_top_0 rfl rfl ?_
  refine jo_getL (k := 3) cl_12 (Nat.le_of_ble_eq_true rfl) lk_X12_84 rfl kc_167 d_X12_top_1 ?_
  exact jo_lret rfl d_X12_top_4
theorem m_X12_top {g : JG} {ad : Nat → Nat} (hs : jStr g ad) (n : Nat) (M : JMem) : jMet g jNN ad jR D_X12_top yX12_top [.ref 167] M (f_X12_top n M) :=
  jMet.of (lo0 := [some (.ref 167)]) (by decide) rfl rfl (Nat.le_of_ble_eq_true rfl) (And.intro rfl True.intro) (t_X12_top hs n M)
/-! CageLeaveModel.train(II)I -/
def D_X12_train : JD := (RX12, cX12_train, 3, some .int, "train", { frames := 5, cells := 0, slots := 0, locals := 107 })
theorem ok_X12_train : jOk D_X12_train yX12_train 2 := ⟨jTW_mem (k := 1733) (by decide +kernel) rfl, jTW_mem (k := 151) (by decide +kernel) rfl, ⟨by decide +kernel, by decide +kernel⟩, by decide +kernel, rfl, rfl⟩
theorem in_X12_train : Cond.instanceMethod yX12_train ∈ jTW := jTW_mem (k := 1731) (by decide +kernel) rfl
theorem se_X12_train : Cond.selects yX12_train.cls yX12_train yX12_train ∈ jTW := jTW_mem (k := 1732) (by decide +kernel) rfl
theorem d_X12_train_0 : decode (D_X12_train).2.1 0 = .ok (.aload_n 0, 1) := by decide +kernel
theorem d_X12_train_1 : decode (D_X12_train).2.1 1 = .ok (.iload_n 1, 1) := by decide +kernel
theorem d_X12_train_2 : decode (D_X12_train).2.1 2 = .ok (.invokevirtual 300, 3) := by decide +kernel
theorem d_X12_train_5 : decode (D_X12_train).2.1 5 = .ok (.ifCond .eq 13, 3) := by decide +kernel
theorem d_X12_train_8 : decode (D_X12_train).2.1 8 = .ok (.iload_n 2, 1) := by decide +kernel
theorem d_X12_train_9 : decode (D_X12_train).2.1 9 = .ok (.ifCond .lt 9, 3) := by decide +kernel
theorem d_X12_train_12 : decode (D_X12_train).2.1 12 = .ok (.iload_n 2, 1) := by decide +kernel
theorem d_X12_train_13 : decode (D_X12_train).2.1 13 = .ok (.bipush 6, 2) := by decide +kernel
theorem d_X12_train_15 : decode (D_X12_train).2.1 15 = .ok (.if_icmp .le 9, 3) := by decide +kernel
theorem d_X12_train_18 : decode (D_X12_train).2.1 18 = .ok (.aload_n 0, 1) := by decide +kernel
theorem d_X12_train_19 : decode (D_X12_train).2.1 19 = .ok (.iconst 1, 1) := by decide +kernel
theorem d_X12_train_20 : decode (D_X12_train).2.1 20 = .ok (.invokevirtual 87, 3) := by decide +kernel
theorem d_X12_train_23 : decode (D_X12_train).2.1 23 = .ok (.ireturn, 1) := by decide +kernel
theorem d_X12_train_24 : decode (D_X12_train).2.1 24 = .ok (.aload_n 0, 1) := by decide +kernel
theorem d_X12_train_25 : decode (D_X12_train).2.1 25 = .ok (.iload_n 2, 1) := by decide +kernel
theorem d_X12_train_26 : decode (D_X12_train).2.1 26 = .ok (.bipush 6, 2) := by decide +kernel
theorem d_X12_train_28 : decode (D_X12_train).2.1 28 = .ok (.if_icmp .ne 14, 3) := by decide +kernel
theorem d_X12_train_31 : decode (D_X12_train).2.1 31 = .ok (.aload_n 0, 1) := by decide +kernel
theorem d_X12_train_32 : decode (D_X12_train).2.1 32 = .ok (.bipush 10, 2) := by decide +kernel
theorem d_X12_train_34 : decode (D_X12_train).2.1 34 = .ok (.iload_n 1, 1) := by decide +kernel
theorem d_X12_train_35 : decode (D_X12_train).2.1 35 = .ok (.iadd, 1) := by decide +kernel
theorem d_X12_train_36 : decode (D_X12_train).2.1 36 = .ok (.invokevirtual 285, 3) := by decide +kernel
theorem d_X12_train_39 : decode (D_X12_train).2.1 39 = .ok (.goto 9, 3) := by decide +kernel
theorem d_X12_train_42 : decode (D_X12_train).2.1 42 = .ok (.aload_n 0, 1) := by decide +kernel
theorem d_X12_train_43 : decode (D_X12_train).2.1 43 = .ok (.iload_n 1, 1) := by decide +kernel
theorem d_X12_train_44 : decode (D_X12_train).2.1 44 = .ok (.iload_n 2, 1) := by decide +kernel
theorem d_X12_train_45 : decode (D_X12_train).2.1 45 = .ok (.invokevirtual 288, 3) := by decide +kernel
theorem d_X12_train_48 : decode (D_X12_train).2.1 48 = .ok (.invokevirtual 91, 3) := by decide +kernel
theorem d_X12_train_51 : decode (D_X12_train).2.1 51 = .ok (.ireturn, 1) := by decide +kernel
def f_X12_train_L18 (n : Nat) (M : JMem) : Option (Int × JMem) := bnd (f_X12_refuse n 1 M) fun r1 M2 => some (r1, M2)
set_option maxRecDepth 4000 in
theorem t_X12_train_L18 {g : JG} {ad : Nat → Nat} (hs : jStr g ad) (n : Nat) (M : JMem) : jB g D_X12_train ad 18 [some (.ref 167), none, none] [] M (f_X12_train_L18 n M) := by
  unfold f_X12_train_L18
  refine jo_aload 0 d_X12_train_18 rfl rfl ?_
  refine jo_iconst 1 d_X12_train_19 ?_
  refine jo_callV (st := []) (m_X12_refuse hs n 1 M) ok_X12_refuse (And.intro (Nat.le_of_ble_eq_true rfl) (Nat.le_of_ble_eq_true rfl)) lm_X12_87 in_X12_refuse se_X12_refuse rfl kc_167 rfl rfl (And.intro (Nat.zero_le _) (Nat.zero_le _)) rfl (Nat.le_of_ble_eq_true rfl) d_X12_train_20 (fun r1 M2 => ?_)
  exact jo_iret rfl d_X12_train_23
def f_X12_train_L48 (n : Nat) (w1 : Int) (M : JMem) : Option (Int × JMem) := bnd (f_X12_gives n w1 M) fun r1 M2 => some (r1, M2)
set_option maxRecDepth 4000 in
theorem t_X12_train_L48 {g : JG} {ad : Nat → Nat} (hs : jStr g ad) (n : Nat) (w1 : Int) (M : JMem) : jB g D_X12_train ad 48 [none, none, none] [ji w1, .ref 167] M (f_X12_train_L48 n w1 M) := by
  unfold f_X12_train_L48
  refine jo_callV (st := []) (m_X12_gives hs n w1 M) ok_X12_gives (And.intro (Nat.le_of_ble_eq_true rfl) (Nat.le_of_ble_eq_true rfl)) lm_X12_91 in_X12_gives se_X12_gives rfl kc_167 rfl rfl (And.intro (Nat.zero_le _) (Nat.zero_le _)) rfl (Nat.le_of_ble_eq_true rfl) d_X12_train_48 (fun r1 M2 => ?_)
  exact jo_iret rfl d_X12_train_51
def f_X12_train (n : Nat) (x1 : Int) (x2 : Int) (M : JMem) : Option (Int × JMem) := bnd (f_X12_isTrain n x1 M) fun r1 M2 => if jw r1 = 0 then (f_X12_train_L18 n M2) else (if jw x2 < 0 then (f_X12_train_L18 n M2) else (if jw x2 ≤ jw 6 then (if jw x2 = jw 6 then (bnd (f_X12_beastsAt n (10 + x1) M2) fun r5 M6 => f_X12_train_L48 n r5 M6) else (bnd (f_X12_trainOf n x1 x2 M2) fun r3 M4 => f_X12_train_L48 n r3 M4)) else (f_X12_train_L18 n M2)))
set_option maxRecDepth 4000 in
theorem t_X12_train {g : JG} {ad : Nat → Nat} (hs : jStr g ad) (n : Nat) (x1 : Int) (x2 : Int) (M : JMem) : jB g D_X12_train ad 0 [some (.ref 167), some (ji x1), some (ji x2)] [] M (f_X12_train n x1 x2 M) := by
  unfold f_X12_train
  refine jo_aload 0 d_X12_train_0 rfl rfl ?_
  refine jo_iload 1 d_X12_train_1 rfl rfl ?_
  refine jo_callV (st := []) (m_X12_isTrain hs n x1 M) ok_X12_isTrain (And.intro (Nat.le_of_ble_eq_true rfl) (Nat.le_of_ble_eq_true rfl)) lm_X12_300 in_X12_isTrain se_X12_isTrain rfl kc_167 rfl rfl (And.intro (Nat.zero_le _) (Nat.zero_le _)) rfl (Nat.le_of_ble_eq_true rfl) d_X12_train_2 (fun r1 M2 => ?_)
  refine jo_if_eq 18 d_X12_train_5 (by decide) ?_ ?_
  · skip
    exact jO.sub (t_X12_train_L18 hs n M2) (And.intro rfl True.intro)
  · skip
    refine jo_iload 2 d_X12_train_8 rfl rfl ?_
    refine jo_if_lt 18 d_X12_train_9 (by decide) ?_ ?_
    · skip
      exact jO.sub (t_X12_train_L18 hs n M2) (And.intro rfl True.intro)
    · skip
      refine jo_iload 2 d_X12_train_12 rfl rfl ?_
      refine jo_bipush 6 d_X12_train_13 (by decide) ?_
      refine jo_icmp_le 24 d_X12_train_15 (by decide) ?_ ?_
      · skip
        refine jo_aload 0 d_X12_train_24 rfl rfl ?_
        refine jo_iload 2 d_X12_train_25 rfl rfl ?_
        refine jo_bipush 6 d_X12_train_26 (by decide) ?_
        refine jo_icmp_ne 42 d_X12_train_28 (by decide) ?_ ?_
        · skip
          refine jo_aload 0 d_X12_train_42 rfl rfl ?_
          refine jo_iload 1 d_X12_train_43 rfl rfl ?_
          refine jo_iload 2 d_X12_train_44 rfl rfl ?_
          refine jo_callV (st := [.ref 167]) (m_X12_trainOf hs n x1 x2 M2) ok_X12_trainOf (And.intro (Nat.le_of_ble_eq_true rfl) (Nat.le_of_ble_eq_true rfl)) lm_X12_288 in_X12_trainOf se_X12_trainOf rfl kc_167 rfl rfl (And.intro (Nat.zero_le _) (Nat.zero_le _)) rfl (Nat.le_of_ble_eq_true rfl) d_X12_train_45 (fun r3 M4 => ?_)
          exact jO.sub (t_X12_train_L48 hs n r3 M4) True.intro
        · skip
          refine jo_aload 0 d_X12_train_31 rfl rfl ?_
          refine jo_bipush 10 d_X12_train_32 (by decide) ?_
          refine jo_iload 1 d_X12_train_34 rfl rfl ?_
          refine jo_iadd d_X12_train_35 ?_
          refine jo_callV (st := [.ref 167]) (m_X12_beastsAt hs n (10 + x1) M2) ok_X12_beastsAt (And.intro (Nat.le_of_ble_eq_true rfl) (Nat.le_of_ble_eq_true rfl)) lm_X12_285 in_X12_beastsAt se_X12_beastsAt rfl kc_167 rfl rfl (And.intro (Nat.zero_le _) (Nat.zero_le _)) rfl (Nat.le_of_ble_eq_true rfl) d_X12_train_36 (fun r5 M6 => ?_)
          refine jo_goto 48 d_X12_train_39 (by decide) ?_
          exact jO.sub (t_X12_train_L48 hs n r5 M6) True.intro
      · skip
        exact jO.sub (t_X12_train_L18 hs n M2) (And.intro rfl True.intro)
theorem m_X12_train {g : JG} {ad : Nat → Nat} (hs : jStr g ad) (n : Nat) (x1 : Int) (x2 : Int) (M : JMem) : jMet g jNN ad jR D_X12_train yX12_train [.ref 167, ji x1, ji x2] M (f_X12_train n x1 x2 M) :=
  jMet.of (lo0 := [some (.ref 167), some (ji x1), some (ji x2)]) (by decide) rfl rfl (Nat.le_of_ble_eq_true rfl) (And.intro rfl (And.intro rfl (And.intro rfl True.intro))) (t_X12_train hs n x1 x2 M)
/-! CageLeaveModel.trainTo(I)Z -/
def D_X12_trainTo : JD := (RX12, cX12_trainTo, 2, some .boolean, "trainTo", { frames := 9, cells := 0, slots := 0, locals := 220 })
theorem ok_X12_trainTo : jOk D_X12_trainTo yX12_trainTo 1 := ⟨jTW_mem (k := 1683) (by decide +kernel) rfl, jTW_mem (k := 151) (by decide +kernel) rfl, ⟨by decide +kernel, by decide +kernel⟩, by decide +kernel, rfl, rfl⟩
theorem in_X12_trainTo : Cond.instanceMethod yX12_trainTo ∈ jTW := jTW_mem (k := 1682) (by decide +kernel) rfl
theorem se_X12_trainTo : Cond.selects yX12_trainTo.cls yX12_trainTo yX12_trainTo ∈ jTW := jTW_mem (k := 80) (by decide +kernel) rfl
theorem d_X12_trainTo_0 : decode (D_X12_trainTo).2.1 0 = .ok (.aload_n 0, 1) := by decide +kernel
theorem d_X12_trainTo_1 : decode (D_X12_trainTo).2.1 1 = .ok (.bipush 6, 2) := by decide +kernel
theorem d_X12_trainTo_3 : decode (D_X12_trainTo).2.1 3 = .ok (.aload_n 0, 1) := by decide +kernel
theorem d_X12_trainTo_4 : decode (D_X12_trainTo).2.1 4 = .ok (.getfield 7, 3) := by decide +kernel
theorem d_X12_trainTo_7 : decode (D_X12_trainTo).2.1 7 = .ok (.iconst 1, 1) := by decide +kernel
theorem d_X12_trainTo_8 : decode (D_X12_trainTo).2.1 8 = .ok (.iaload, 1) := by decide +kernel
theorem d_X12_trainTo_9 : decode (D_X12_trainTo).2.1 9 = .ok (.iload_n 1, 1) := by decide +kernel
theorem d_X12_trainTo_10 : decode (D_X12_trainTo).2.1 10 = .ok (.invokevirtual 189, 3) := by decide +kernel
theorem d_X12_trainTo_13 : decode (D_X12_trainTo).2.1 13 = .ok (.ireturn, 1) := by decide +kernel
def f_X12_trainTo (n : Nat) (x1 : Int) (M : JMem) : Option (Int × JMem) := chk (jin 1 3160) <| bnd (f_X12_oldOne n 6 (M 168 (jw 1).toNat) x1 M) fun r1 M2 => chk (jw r1 = 0 ∨ jw r1 = 1) (some (r1, M2))
set_option maxRecDepth 4000 in
theorem t_X12_trainTo {g : JG} {ad : Nat → Nat} (hs : jStr g ad) (n : Nat) (x1 : Int) (M : JMem) : jB g D_X12_trainTo ad 0 [some (.ref 167), some (ji x1)] [] M (f_X12_trainTo n x1 M) := by
  unfold f_X12_trainTo
  refine jo_aload 0 d_X12_trainTo_0 rfl rfl ?_
  refine jo_bipush 6 d_X12_trainTo_1 (by decide) ?_
  refine jo_aload 0 d_X12_trainTo_3 rfl rfl ?_
  refine jo_getR (k := 0) cl_12 (Nat.le_of_ble_eq_true rfl) lk_X12_7 rfl kc_167 kr_167_0 d_X12_trainTo_4 ?_
  refine jo_iconst 1 d_X12_trainTo_7 ?_
  refine jo_iald (N := 3160) kc_168 d_X12_trainTo_8 ?_
  refine jo_iload 1 d_X12_trainTo_9 rfl rfl ?_
  refine jo_callV (st := []) (m_X12_oldOne hs n 6 (M 168 (jw 1).toNat) x1 M) ok_X12_oldOne (And.intro (Nat.le_of_ble_eq_true rfl) (Nat.le_of_ble_eq_true rfl)) lm_X12_189 in_X12_oldOne se_X12_oldOne rfl kc_167 rfl rfl (And.intro (Nat.zero_le _) (Nat.zero_le _)) rfl (Nat.le_of_ble_eq_true rfl) d_X12_trainTo_10 (fun r1 M2 => ?_)
  exact jo_zretq rfl d_X12_trainTo_13
theorem m_X12_trainTo {g : JG} {ad : Nat → Nat} (hs : jStr g ad) (n : Nat) (x1 : Int) (M : JMem) : jMet g jNN ad jR D_X12_trainTo yX12_trainTo [.ref 167, ji x1] M (f_X12_trainTo n x1 M) :=
  jMet.of (lo0 := [some (.ref 167), some (ji x1)]) (by decide) rfl rfl (Nat.le_of_ble_eq_true rfl) (And.intro rfl (And.intro rfl True.intro)) (t_X12_trainTo hs n x1 M)
/-! CageLeaveModel.tray(III)Z -/
def D_X12_tray : JD := (RX12, cX12_tray, 5, some .boolean, "tray", { frames := 1, cells := 0, slots := 0, locals := 21 })
theorem ok_X12_tray : jOk D_X12_tray yX12_tray 3 := ⟨jTW_mem (k := 1509) (by decide +kernel) rfl, jTW_mem (k := 151) (by decide +kernel) rfl, ⟨by decide +kernel, by decide +kernel⟩, by decide +kernel, rfl, rfl⟩
theorem in_X12_tray : Cond.instanceMethod yX12_tray ∈ jTW := jTW_mem (k := 1507) (by decide +kernel) rfl
theorem se_X12_tray : Cond.selects yX12_tray.cls yX12_tray yX12_tray ∈ jTW := jTW_mem (k := 1508) (by decide +kernel) rfl
theorem d_X12_tray_0 : decode (D_X12_tray).2.1 0 = .ok (.iload_n 1, 1) := by decide +kernel
theorem d_X12_tray_1 : decode (D_X12_tray).2.1 1 = .ok (.invokestatic 98, 3) := by decide +kernel
theorem d_X12_tray_4 : decode (D_X12_tray).2.1 4 = .ok (.ifCond .eq 22, 3) := by decide +kernel
theorem d_X12_tray_7 : decode (D_X12_tray).2.1 7 = .ok (.iload_n 2, 1) := by decide +kernel
theorem d_X12_tray_8 : decode (D_X12_tray).2.1 8 = .ok (.ifCond .lt 18, 3) := by decide +kernel
theorem d_X12_tray_11 : decode (D_X12_tray).2.1 11 = .ok (.iload_n 2, 1) := by decide +kernel
theorem d_X12_tray_12 : decode (D_X12_tray).2.1 12 = .ok (.iconst 3, 1) := by decide +kernel
theorem d_X12_tray_13 : decode (D_X12_tray).2.1 13 = .ok (.if_icmp .gt 13, 3) := by decide +kernel
theorem d_X12_tray_16 : decode (D_X12_tray).2.1 16 = .ok (.iload_n 3, 1) := by decide +kernel
theorem d_X12_tray_17 : decode (D_X12_tray).2.1 17 = .ok (.ifCond .lt 9, 3) := by decide +kernel
theorem d_X12_tray_20 : decode (D_X12_tray).2.1 20 = .ok (.iload_n 3, 1) := by decide +kernel
theorem d_X12_tray_21 : decode (D_X12_tray).2.1 21 = .ok (.bipush 60, 2) := by decide +kernel
theorem d_X12_tray_23 : decode (D_X12_tray).2.1 23 = .ok (.if_icmp .le 9, 3) := by decide +kernel
theorem d_X12_tray_26 : decode (D_X12_tray).2.1 26 = .ok (.aload_n 0, 1) := by decide +kernel
theorem d_X12_tray_27 : decode (D_X12_tray).2.1 27 = .ok (.iconst 1, 1) := by decide +kernel
theorem d_X12_tray_28 : decode (D_X12_tray).2.1 28 = .ok (.invokevirtual 94, 3) := by decide +kernel
theorem d_X12_tray_31 : decode (D_X12_tray).2.1 31 = .ok (.ireturn, 1) := by decide +kernel
theorem d_X12_tray_32 : decode (D_X12_tray).2.1 32 = .ok (.aload_n 0, 1) := by decide +kernel
theorem d_X12_tray_33 : decode (D_X12_tray).2.1 33 = .ok (.getfield 21, 3) := by decide +kernel
theorem d_X12_tray_36 : decode (D_X12_tray).2.1 36 = .ok (.iload_n 1, 1) := by decide +kernel
theorem d_X12_tray_37 : decode (D_X12_tray).2.1 37 = .ok (.iload_n 2, 1) := by decide +kernel
theorem d_X12_tray_38 : decode (D_X12_tray).2.1 38 = .ok (.iastore, 1) := by decide +kernel
theorem d_X12_tray_39 : decode (D_X12_tray).2.1 39 = .ok (.aload_n 0, 1) := by decide +kernel
theorem d_X12_tray_40 : decode (D_X12_tray).2.1 40 = .ok (.getfield 24, 3) := by decide +kernel
theorem d_X12_tray_43 : decode (D_X12_tray).2.1 43 = .ok (.iload_n 1, 1) := by decide +kernel
theorem d_X12_tray_44 : decode (D_X12_tray).2.1 44 = .ok (.iload_n 3, 1) := by decide +kernel
theorem d_X12_tray_45 : decode (D_X12_tray).2.1 45 = .ok (.iastore, 1) := by decide +kernel
theorem d_X12_tray_46 : decode (D_X12_tray).2.1 46 = .ok (.iconst 0, 1) := by decide +kernel
theorem d_X12_tray_47 : decode (D_X12_tray).2.1 47 = .ok (.istore 4, 2) := by decide +kernel
theorem d_X12_tray_49 : decode (D_X12_tray).2.1 49 = .ok (.iload 4, 2) := by decide +kernel
theorem d_X12_tray_51 : decode (D_X12_tray).2.1 51 = .ok (.iload_n 3, 1) := by decide +kernel
theorem d_X12_tray_52 : decode (D_X12_tray).2.1 52 = .ok (.if_icmp .ge 22, 3) := by decide +kernel
theorem d_X12_tray_55 : decode (D_X12_tray).2.1 55 = .ok (.aload_n 0, 1) := by decide +kernel
theorem d_X12_tray_56 : decode (D_X12_tray).2.1 56 = .ok (.getfield 27, 3) := by decide +kernel
theorem d_X12_tray_59 : decode (D_X12_tray).2.1 59 = .ok (.bipush 60, 2) := by decide +kernel
theorem d_X12_tray_61 : decode (D_X12_tray).2.1 61 = .ok (.iload_n 1, 1) := by decide +kernel
theorem d_X12_tray_62 : decode (D_X12_tray).2.1 62 = .ok (.imul, 1) := by decide +kernel
theorem d_X12_tray_63 : decode (D_X12_tray).2.1 63 = .ok (.iload 4, 2) := by decide +kernel
theorem d_X12_tray_65 : decode (D_X12_tray).2.1 65 = .ok (.iadd, 1) := by decide +kernel
theorem d_X12_tray_66 : decode (D_X12_tray).2.1 66 = .ok (.lconst 0, 1) := by decide +kernel
theorem d_X12_tray_67 : decode (D_X12_tray).2.1 67 = .ok (.lastore, 1) := by decide +kernel
theorem d_X12_tray_68 : decode (D_X12_tray).2.1 68 = .ok (.iinc 4 1, 3) := by decide +kernel
theorem d_X12_tray_71 : decode (D_X12_tray).2.1 71 = .ok (.goto (-22), 3) := by decide +kernel
theorem d_X12_tray_74 : decode (D_X12_tray).2.1 74 = .ok (.aload_n 0, 1) := by decide +kernel
theorem d_X12_tray_75 : decode (D_X12_tray).2.1 75 = .ok (.iconst 0, 1) := by decide +kernel
theorem d_X12_tray_76 : decode (D_X12_tray).2.1 76 = .ok (.invokevirtual 94, 3) := by decide +kernel
theorem d_X12_tray_79 : decode (D_X12_tray).2.1 79 = .ok (.ireturn, 1) := by decide +kernel
def f_X12_tray_L26 (n : Nat) (M : JMem) : Option (Int × JMem) := bnd (f_X12_is n 1 M) fun r1 M2 => chk (jw r1 = 0 ∨ jw r1 = 1) (some (r1, M2))
set_option maxRecDepth 4000 in
theorem t_X12_tray_L26 {g : JG} {ad : Nat → Nat} (hs : jStr g ad) (n : Nat) (M : JMem) : jB g D_X12_tray ad 26 [some (.ref 167), none, none, none, none] [] M (f_X12_tray_L26 n M) := by
  unfold f_X12_tray_L26
  refine jo_aload 0 d_X12_tray_26 rfl rfl ?_
  refine jo_iconst 1 d_X12_tray_27 ?_
  refine jo_callV (st := []) (m_X12_is hs n 1 M) ok_X12_is (And.intro (Nat.le_of_ble_eq_true rfl) (Nat.le_of_ble_eq_true rfl)) lm_X12_94 in_X12_is se_X12_is rfl kc_167 rfl rfl (And.intro (Nat.zero_le _) (Nat.zero_le _)) rfl (Nat.le_of_ble_eq_true rfl) d_X12_tray_28 (fun r1 M2 => ?_)
  exact jo_zretq rfl d_X12_tray_31
def f_X12_tray_L74 (n : Nat) (M : JMem) : Option (Int × JMem) := bnd (f_X12_is n 0 M) fun r1 M2 => chk (jw r1 = 0 ∨ jw r1 = 1) (some (r1, M2))
set_option maxRecDepth 4000 in
theorem t_X12_tray_L74 {g : JG} {ad : Nat → Nat} (hs : jStr g ad) (n : Nat) (M : JMem) : jB g D_X12_tray ad 74 [some (.ref 167), none, none, none, none] [] M (f_X12_tray_L74 n M) := by
  unfold f_X12_tray_L74
  refine jo_aload 0 d_X12_tray_74 rfl rfl ?_
  refine jo_iconst 0 d_X12_tray_75 ?_
  refine jo_callV (st := []) (m_X12_is hs n 0 M) ok_X12_is (And.intro (Nat.le_of_ble_eq_true rfl) (Nat.le_of_ble_eq_true rfl)) lm_X12_94 in_X12_is se_X12_is rfl kc_167 rfl rfl (And.intro (Nat.zero_le _) (Nat.zero_le _)) rfl (Nat.le_of_ble_eq_true rfl) d_X12_tray_76 (fun r1 M2 => ?_)
  exact jo_zretq rfl d_X12_tray_79
def f_X12_tray_L49 (n : Nat) : Nat → Int → Int → Int → JMem → Option (Int × JMem)
  | 0, _, _, _, _ => none
  | k + 1, v1, v3, v4, M => if jw v3 ≤ jw v4 then (f_X12_tray_L74 n M) else (chk (jin ((60 * v1) + v4) 240) <| letm (jup M 172 (jw ((60 * v1) + v4)).toNat 0) fun M1 => letv (v4 + 1) fun y2 => (f_X12_tray_L49 n k) v1 v3 y2 M1)
set_option maxRecDepth 4000 in
theorem t_X12_tray_L49 {g : JG} {ad : Nat → Nat} (hs : jStr g ad) (n : Nat) : ∀ (k : Nat) (v1 v3 v4 : Int) (M : JMem), jB g D_X12_tray ad 49 [some (.ref 167), some (ji v1), none, some (ji v3), some (ji v4)] [] M (f_X12_tray_L49 n k v1 v3 v4 M) := by
  intro k
  induction k with
  | zero => intro v1 v3 v4 M; exact jO.none
  | succ k ih =>
    intro v1 v3 v4 M
    rw [f_X12_tray_L49]
    refine jo_iloadW 4 d_X12_tray_49 rfl ?_
    refine jo_iload 3 d_X12_tray_51 rfl rfl ?_
    refine jo_icmp_ge 74 d_X12_tray_52 (by decide) ?_ ?_
    · skip
      exact jO.sub (t_X12_tray_L74 hs n M) (And.intro rfl True.intro)
    · skip
      refine jo_aload 0 d_X12_tray_55 rfl rfl ?_
      refine jo_getR (k := 7) cl_12 (Nat.le_of_ble_eq_true rfl) lk_X12_27 rfl kc_167 kr_167_7 d_X12_tray_56 ?_
      refine jo_bipush 60 d_X12_tray_59 (by decide) ?_
      refine jo_iload 1 d_X12_tray_61 rfl rfl ?_
      refine jo_imul d_X12_tray_62 ?_
      refine jo_iloadW 4 d_X12_tray_63 rfl ?_
      refine jo_iadd d_X12_tray_65 ?_
      refine jo_lconst0 d_X12_tray_66 ?_
      refine jo_last (N := 240) kc_172 d_X12_tray_67 (fun M1 => ?_)
      refine jo_iinc 4 d_X12_tray_68 rfl (Nat.le_of_ble_eq_true rfl) (fun y2 => ?_)
      refine jo_goto 49 d_X12_tray_71 (by decide) ?_
      exact jO.sub (ih v1 v3 y2 M1) (And.intro rfl (And.intro rfl (And.intro rfl (And.intro rfl True.intro))))
def f_X12_tray (n : Nat) (x1 : Int) (x2 : Int) (x3 : Int) (M : JMem) : Option (Int × JMem) := bnd (f_X12_isTray n x1 M) fun r1 M2 => if jw r1 = 0 then (f_X12_tray_L26 n M2) else (if jw x2 < 0 then (f_X12_tray_L26 n M2) else (if jw 3 < jw x2 then (f_X12_tray_L26 n M2) else (if jw x3 < 0 then (f_X12_tray_L26 n M2) else (if jw x3 ≤ jw 60 then (chk (jin x1 4) <| letm (jup M2 170 (jw x1).toNat x2) fun M3 => chk (jin x1 4) <| letm (jup M3 171 (jw x1).toNat x3) fun M4 => letv 0 fun y5 => f_X12_tray_L49 n n x1 x3 y5 M4) else (f_X12_tray_L26 n M2)))))
set_option maxRecDepth 4000 in
theorem t_X12_tray {g : JG} {ad : Nat → Nat} (hs : jStr g ad) (n : Nat) (x1 : Int) (x2 : Int) (x3 : Int) (M : JMem) : jB g D_X12_tray ad 0 [some (.ref 167), some (ji x1), some (ji x2), some (ji x3), none] [] M (f_X12_tray n x1 x2 x3 M) := by
  unfold f_X12_tray
  refine jo_iload 1 d_X12_tray_0 rfl rfl ?_
  refine jo_callS (st := []) (m_X12_isTray hs n x1 M) ok_X12_isTray (And.intro (Nat.le_of_ble_eq_true rfl) (Nat.le_of_ble_eq_true rfl)) lm_X12_98 st_X12_isTray rfl (And.intro (Nat.zero_le _) (Nat.zero_le _)) rfl (Nat.le_of_ble_eq_true rfl) d_X12_tray_1 (fun r1 M2 => ?_)
  refine jo_if_eq 26 d_X12_tray_4 (by decide) ?_ ?_
  · skip
    exact jO.sub (t_X12_tray_L26 hs n M2) (And.intro rfl True.intro)
  · skip
    refine jo_iload 2 d_X12_tray_7 rfl rfl ?_
    refine jo_if_lt 26 d_X12_tray_8 (by decide) ?_ ?_
    · skip
      exact jO.sub (t_X12_tray_L26 hs n M2) (And.intro rfl True.intro)
    · skip
      refine jo_iload 2 d_X12_tray_11 rfl rfl ?_
      refine jo_iconst 3 d_X12_tray_12 ?_
      refine jo_icmp_gt 26 d_X12_tray_13 (by decide) ?_ ?_
      · skip
        exact jO.sub (t_X12_tray_L26 hs n M2) (And.intro rfl True.intro)
      · skip
        refine jo_iload 3 d_X12_tray_16 rfl rfl ?_
        refine jo_if_lt 26 d_X12_tray_17 (by decide) ?_ ?_
        · skip
          exact jO.sub (t_X12_tray_L26 hs n M2) (And.intro rfl True.intro)
        · skip
          refine jo_iload 3 d_X12_tray_20 rfl rfl ?_
          refine jo_bipush 60 d_X12_tray_21 (by decide) ?_
          refine jo_icmp_le 32 d_X12_tray_23 (by decide) ?_ ?_
          · skip
            refine jo_aload 0 d_X12_tray_32 rfl rfl ?_
            refine jo_getR (k := 5) cl_12 (Nat.le_of_ble_eq_true rfl) lk_X12_21 rfl kc_167 kr_167_5 d_X12_tray_33 ?_
            refine jo_iload 1 d_X12_tray_36 rfl rfl ?_
            refine jo_iload 2 d_X12_tray_37 rfl rfl ?_
            refine jo_iast (N := 4) kc_170 d_X12_tray_38 (fun M3 => ?_)
            refine jo_aload 0 d_X12_tray_39 rfl rfl ?_
            refine jo_getR (k := 6) cl_12 (Nat.le_of_ble_eq_true rfl) lk_X12_24 rfl kc_167 kr_167_6 d_X12_tray_40 ?_
            refine jo_iload 1 d_X12_tray_43 rfl rfl ?_
            refine jo_iload 3 d_X12_tray_44 rfl rfl ?_
            refine jo_iast (N := 4) kc_171 d_X12_tray_45 (fun M4 => ?_)
            refine jo_iconst 0 d_X12_tray_46 ?_
            refine jo_istoreW 4 d_X12_tray_47 (Nat.le_of_ble_eq_true rfl) (fun y5 => ?_)
            exact jO.sub (t_X12_tray_L49 hs n n x1 x3 y5 M4) (And.intro rfl (And.intro rfl (And.intro rfl (And.intro rfl True.intro))))
          · skip
            exact jO.sub (t_X12_tray_L26 hs n M2) (And.intro rfl True.intro)
theorem m_X12_tray {g : JG} {ad : Nat → Nat} (hs : jStr g ad) (n : Nat) (x1 : Int) (x2 : Int) (x3 : Int) (M : JMem) : jMet g jNN ad jR D_X12_tray yX12_tray [.ref 167, ji x1, ji x2, ji x3] M (f_X12_tray n x1 x2 x3 M) :=
  jMet.of (lo0 := [some (.ref 167), some (ji x1), some (ji x2), some (ji x3), none]) (by decide) rfl rfl (Nat.le_of_ble_eq_true rfl) (And.intro rfl (And.intro rfl (And.intro rfl (And.intro rfl True.intro)))) (t_X12_tray hs n x1 x2 x3 M)
/-! CageLeaveModel.trust(II)Z -/
def D_X12_trust : JD := (RX12, cX12_trust, 3, some .boolean, "trust", { frames := 1, cells := 0, slots := 0, locals := 25 })
theorem ok_X12_trust : jOk D_X12_trust yX12_trust 2 := ⟨jTW_mem (k := 1840) (by decide +kernel) rfl, jTW_mem (k := 151) (by decide +kernel) rfl, ⟨by decide +kernel, by decide +kernel⟩, by decide +kernel, rfl, rfl⟩
theorem in_X12_trust : Cond.instanceMethod yX12_trust ∈ jTW := jTW_mem (k := 1838) (by decide +kernel) rfl
theorem se_X12_trust : Cond.selects yX12_trust.cls yX12_trust yX12_trust ∈ jTW := jTW_mem (k := 1839) (by decide +kernel) rfl
theorem d_X12_trust_0 : decode (D_X12_trust).2.1 0 = .ok (.aload_n 0, 1) := by decide +kernel
theorem d_X12_trust_1 : decode (D_X12_trust).2.1 1 = .ok (.iload_n 1, 1) := by decide +kernel
theorem d_X12_trust_2 : decode (D_X12_trust).2.1 2 = .ok (.invokevirtual 263, 3) := by decide +kernel
theorem d_X12_trust_5 : decode (D_X12_trust).2.1 5 = .ok (.ifCond .eq 15, 3) := by decide +kernel
theorem d_X12_trust_8 : decode (D_X12_trust).2.1 8 = .ok (.iload_n 2, 1) := by decide +kernel
theorem d_X12_trust_9 : decode (D_X12_trust).2.1 9 = .ok (.i2l, 1) := by decide +kernel
theorem d_X12_trust_10 : decode (D_X12_trust).2.1 10 = .ok (.lconst 0, 1) := by decide +kernel
theorem d_X12_trust_11 : decode (D_X12_trust).2.1 11 = .ok (.ldc2_w 347, 3) := by decide +kernel
theorem d_X12_trust_14 : decode (D_X12_trust).2.1 14 = .ok (.invokestatic 266, 3) := by decide +kernel
theorem d_X12_trust_17 : decode (D_X12_trust).2.1 17 = .ok (.ifCond .ne 9, 3) := by decide +kernel
theorem d_X12_trust_20 : decode (D_X12_trust).2.1 20 = .ok (.aload_n 0, 1) := by decide +kernel
theorem d_X12_trust_21 : decode (D_X12_trust).2.1 21 = .ok (.iconst 1, 1) := by decide +kernel
theorem d_X12_trust_22 : decode (D_X12_trust).2.1 22 = .ok (.invokevirtual 94, 3) := by decide +kernel
theorem d_X12_trust_25 : decode (D_X12_trust).2.1 25 = .ok (.ireturn, 1) := by decide +kernel
theorem d_X12_trust_26 : decode (D_X12_trust).2.1 26 = .ok (.aload_n 0, 1) := by decide +kernel
theorem d_X12_trust_27 : decode (D_X12_trust).2.1 27 = .ok (.getfield 7, 3) := by decide +kernel
theorem d_X12_trust_30 : decode (D_X12_trust).2.1 30 = .ok (.iload_n 1, 1) := by decide +kernel
theorem d_X12_trust_31 : decode (D_X12_trust).2.1 31 = .ok (.invokestatic 270, 3) := by decide +kernel
theorem d_X12_trust_34 : decode (D_X12_trust).2.1 34 = .ok (.iconst 1, 1) := by decide +kernel
theorem d_X12_trust_35 : decode (D_X12_trust).2.1 35 = .ok (.iadd, 1) := by decide +kernel
theorem d_X12_trust_36 : decode (D_X12_trust).2.1 36 = .ok (.iload_n 2, 1) := by decide +kernel
theorem d_X12_trust_37 : decode (D_X12_trust).2.1 37 = .ok (.iastore, 1) := by decide +kernel
theorem d_X12_trust_38 : decode (D_X12_trust).2.1 38 = .ok (.aload_n 0, 1) := by decide +kernel
theorem d_X12_trust_39 : decode (D_X12_trust).2.1 39 = .ok (.iconst 0, 1) := by decide +kernel
theorem d_X12_trust_40 : decode (D_X12_trust).2.1 40 = .ok (.invokevirtual 94, 3) := by decide +kernel
theorem d_X12_trust_43 : decode (D_X12_trust).2.1 43 = .ok (.ireturn, 1) := by decide +kernel
def f_X12_trust_L20 (n : Nat) (M : JMem) : Option (Int × JMem) := bnd (f_X12_is n 1 M) fun r1 M2 => chk (jw r1 = 0 ∨ jw r1 = 1) (some (r1, M2))
set_option maxRecDepth 4000 in
theorem t_X12_trust_L20 {g : JG} {ad : Nat → Nat} (hs : jStr g ad) (n : Nat) (M : JMem) : jB g D_X12_trust ad 20 [some (.ref 167), none, none] [] M (f_X12_trust_L20 n M) := by
  unfold f_X12_trust_L20
  refine jo_aload 0 d_X12_trust_20 rfl rfl ?_
  refine jo_iconst 1 d_X12_trust_21 ?_
  refine jo_callV (st := []) (m_X12_is hs n 1 M) ok_X12_is (And.intro (Nat.le_of_ble_eq_true rfl) (Nat.le_of_ble_eq_true rfl)) lm_X12_94 in_X12_is se_X12_is rfl kc_167 rfl rfl (And.intro (Nat.zero_le _) (Nat.zero_le _)) rfl (Nat.le_of_ble_eq_true rfl) d_X12_trust_22 (fun r1 M2 => ?_)
  exact jo_zretq rfl d_X12_trust_25
def f_X12_trust (n : Nat) (x1 : Int) (x2 : Int) (M : JMem) : Option (Int × JMem) := bnd (f_X12_isBeast n x1 M) fun r1 M2 => if jw r1 = 0 then (f_X12_trust_L20 n M2) else (bnd (f_X12_isFrom n (jw x2) 0 16 M2) fun r3 M4 => if jw r3 = 0 then (f_X12_trust_L20 n M4) else (bnd (f_X12_beastRow n x1 M4) fun r5 M6 => chk (jin (r5 + 1) 3160) <| letm (jup M6 168 (jw (r5 + 1)).toNat x2) fun M7 => bnd (f_X12_is n 0 M7) fun r8 M9 => chk (jw r8 = 0 ∨ jw r8 = 1) (some (r8, M9))))
set_option maxRecDepth 4000 in
theorem t_X12_trust {g : JG} {ad : Nat → Nat} (hs : jStr g ad) (n : Nat) (x1 : Int) (x2 : Int) (M : JMem) : jB g D_X12_trust ad 0 [some (.ref 167), some (ji x1), some (ji x2)] [] M (f_X12_trust n x1 x2 M) := by
  unfold f_X12_trust
  refine jo_aload 0 d_X12_trust_0 rfl rfl ?_
  refine jo_iload 1 d_X12_trust_1 rfl rfl ?_
  refine jo_callV (st := []) (m_X12_isBeast hs n x1 M) ok_X12_isBeast (And.intro (Nat.le_of_ble_eq_true rfl) (Nat.le_of_ble_eq_true rfl)) lm_X12_263 in_X12_isBeast se_X12_isBeast rfl kc_167 rfl rfl (And.intro (Nat.zero_le _) (Nat.zero_le _)) rfl (Nat.le_of_ble_eq_true rfl) d_X12_trust_2 (fun r1 M2 => ?_)
  refine jo_if_eq 20 d_X12_trust_5 (by decide) ?_ ?_
  · skip
    exact jO.sub (t_X12_trust_L20 hs n M2) (And.intro rfl True.intro)
  · skip
    refine jo_iload 2 d_X12_trust_8 rfl rfl ?_
    refine jo_i2l d_X12_trust_9 ?_
    refine jo_lconst0 d_X12_trust_10 ?_
    refine jo_ldc2 16 lc_X12_347 d_X12_trust_11 ?_
    refine jo_callS (st := []) (m_X12_isFrom hs n (jw x2) 0 16 M2) ok_X12_isFrom (And.intro (Nat.le_of_ble_eq_true rfl) (Nat.le_of_ble_eq_true rfl)) lm_X12_266 st_X12_isFrom rfl (And.intro (Nat.zero_le _) (Nat.zero_le _)) rfl (Nat.le_of_ble_eq_true rfl) d_X12_trust_14 (fun r3 M4 => ?_)
    refine jo_if_ne 26 d_X12_trust_17 (by decide) ?_ ?_
    · skip
      refine jo_aload 0 d_X12_trust_26 rfl rfl ?_
      refine jo_getR (k := 0) cl_12 (Nat.le_of_ble_eq_true rfl) lk_X12_7 rfl kc_167 kr_167_0 d_X12_trust_27 ?_
      refine jo_iload 1 d_X12_trust_30 rfl rfl ?_
      refine jo_callS (st := [.ref 168]) (m_X12_beastRow hs n x1 M4) ok_X12_beastRow (And.intro (Nat.le_of_ble_eq_true rfl) (Nat.le_of_ble_eq_true rfl)) lm_X12_270 st_X12_beastRow rfl (And.intro (Nat.zero_le _) (Nat.zero_le _)) rfl (Nat.le_of_ble_eq_true rfl) d_X12_trust_31 (fun r5 M6 => ?_)
      refine jo_iconst 1 d_X12_trust_34 ?_
      refine jo_iadd d_X12_trust_35 ?_
      refine jo_iload 2 d_X12_trust_36 rfl rfl ?_
      refine jo_iast (N := 3160) kc_168 d_X12_trust_37 (fun M7 => ?_)
      refine jo_aload 0 d_X12_trust_38 rfl rfl ?_
      refine jo_iconst 0 d_X12_trust_39 ?_
      refine jo_callV (st := []) (m_X12_is hs n 0 M7) ok_X12_is (And.intro (Nat.le_of_ble_eq_true rfl) (Nat.le_of_ble_eq_true rfl)) lm_X12_94 in_X12_is se_X12_is rfl kc_167 rfl rfl (And.intro (Nat.zero_le _) (Nat.zero_le _)) rfl (Nat.le_of_ble_eq_true rfl) d_X12_trust_40 (fun r8 M9 => ?_)
      exact jo_zretq rfl d_X12_trust_43
    · skip
      exact jO.sub (t_X12_trust_L20 hs n M4) (And.intro rfl True.intro)
theorem m_X12_trust {g : JG} {ad : Nat → Nat} (hs : jStr g ad) (n : Nat) (x1 : Int) (x2 : Int) (M : JMem) : jMet g jNN ad jR D_X12_trust yX12_trust [.ref 167, ji x1, ji x2] M (f_X12_trust n x1 x2 M) :=
  jMet.of (lo0 := [some (.ref 167), some (ji x1), some (ji x2)]) (by decide) rfl rfl (Nat.le_of_ble_eq_true rfl) (And.intro rfl (And.intro rfl (And.intro rfl True.intro))) (t_X12_trust hs n x1 x2 M)
/-! CageLeaveModel.undo()I -/
def D_X12_undo : JD := (RX12, cX12_undo, 1, some .int, "undo", { frames := 1, cells := 0, slots := 0, locals := 23 })
theorem ok_X12_undo : jOk D_X12_undo yX12_undo 0 := ⟨jTW_mem (k := 2096) (by decide +kernel) rfl, jTW_mem (k := 151) (by decide +kernel) rfl, ⟨by decide +kernel, by decide +kernel⟩, by decide +kernel, rfl, rfl⟩
theorem in_X12_undo : Cond.instanceMethod yX12_undo ∈ jTW := jTW_mem (k := 2094) (by decide +kernel) rfl
theorem se_X12_undo : Cond.selects yX12_undo.cls yX12_undo yX12_undo ∈ jTW := jTW_mem (k := 2095) (by decide +kernel) rfl
theorem d_X12_undo_0 : decode (D_X12_undo).2.1 0 = .ok (.aload_n 0, 1) := by decide +kernel
theorem d_X12_undo_1 : decode (D_X12_undo).2.1 1 = .ok (.getfield 461, 3) := by decide +kernel
theorem d_X12_undo_4 : decode (D_X12_undo).2.1 4 = .ok (.ifCond .ne 10, 3) := by decide +kernel
theorem d_X12_undo_7 : decode (D_X12_undo).2.1 7 = .ok (.aload_n 0, 1) := by decide +kernel
theorem d_X12_undo_8 : decode (D_X12_undo).2.1 8 = .ok (.bipush 6, 2) := by decide +kernel
theorem d_X12_undo_10 : decode (D_X12_undo).2.1 10 = .ok (.invokevirtual 87, 3) := by decide +kernel
theorem d_X12_undo_13 : decode (D_X12_undo).2.1 13 = .ok (.ireturn, 1) := by decide +kernel
theorem d_X12_undo_14 : decode (D_X12_undo).2.1 14 = .ok (.aload_n 0, 1) := by decide +kernel
theorem d_X12_undo_15 : decode (D_X12_undo).2.1 15 = .ok (.aload_n 0, 1) := by decide +kernel
theorem d_X12_undo_16 : decode (D_X12_undo).2.1 16 = .ok (.getfield 461, 3) := by decide +kernel
theorem d_X12_undo_19 : decode (D_X12_undo).2.1 19 = .ok (.iconst 0, 1) := by decide +kernel
theorem d_X12_undo_20 : decode (D_X12_undo).2.1 20 = .ok (.invokevirtual 464, 3) := by decide +kernel
theorem d_X12_undo_23 : decode (D_X12_undo).2.1 23 = .ok (.aload_n 0, 1) := by decide +kernel
theorem d_X12_undo_24 : decode (D_X12_undo).2.1 24 = .ok (.dup, 1) := by decide +kernel
theorem d_X12_undo_25 : decode (D_X12_undo).2.1 25 = .ok (.getfield 461, 3) := by decide +kernel
theorem d_X12_undo_28 : decode (D_X12_undo).2.1 28 = .ok (.iconst 1, 1) := by decide +kernel
theorem d_X12_undo_29 : decode (D_X12_undo).2.1 29 = .ok (.isub, 1) := by decide +kernel
theorem d_X12_undo_30 : decode (D_X12_undo).2.1 30 = .ok (.putfield 461, 3) := by decide +kernel
theorem d_X12_undo_33 : decode (D_X12_undo).2.1 33 = .ok (.aload_n 0, 1) := by decide +kernel
theorem d_X12_undo_34 : decode (D_X12_undo).2.1 34 = .ok (.aload_n 0, 1) := by decide +kernel
theorem d_X12_undo_35 : decode (D_X12_undo).2.1 35 = .ok (.getfield 461, 3) := by decide +kernel
theorem d_X12_undo_38 : decode (D_X12_undo).2.1 38 = .ok (.invokevirtual 91, 3) := by decide +kernel
theorem d_X12_undo_41 : decode (D_X12_undo).2.1 41 = .ok (.ireturn, 1) := by decide +kernel
def f_X12_undo (n : Nat) (M : JMem) : Option (Int × JMem) := if jw (M 167 38) = 0 then (bnd (f_X12_refuse n 6 M) fun r6 M7 => some (r6, M7)) else (bnd (f_X12_copies n (M 167 38) 0 M) fun _ M2 => letm (jup M2 167 38 ((M2 167 38) - 1)) fun M3 => bnd (f_X12_gives n (M3 167 38) M3) fun r4 M5 => some (r4, M5))
set_option maxRecDepth 4000 in
theorem t_X12_undo {g : JG} {ad : Nat → Nat} (hs : jStr g ad) (n : Nat) (M : JMem) : jB g D_X12_undo ad 0 [some (.ref 167)] [] M (f_X12_undo n M) := by
  unfold f_X12_undo
  refine jo_aload 0 d_X12_undo_0 rfl rfl ?_
  refine jo_getI (k := 38) cl_12 (Nat.le_of_ble_eq_true rfl) lk_X12_461 (Or.inl rfl) kc_167 d_X12_undo_1 ?_
  refine jo_if_ne 14 d_X12_undo_4 (by decide) ?_ ?_
  · skip
    refine jo_aload 0 d_X12_undo_14 rfl rfl ?_
    refine jo_aload 0 d_X12_undo_15 rfl rfl ?_
    refine jo_getI (k := 38) cl_12 (Nat.le_of_ble_eq_true rfl) lk_X12_461 (Or.inl rfl) kc_167 d_X12_undo_16 ?_
    refine jo_iconst 0 d_X12_undo_19 ?_
    refine jo_callV (st := []) (m_X12_copies hs n (M 167 38) 0 M) ok_X12_copies (And.intro (Nat.le_of_ble_eq_true rfl) (Nat.le_of_ble_eq_true rfl)) lm_X12_464 in_X12_copies se_X12_copies rfl kc_167 rfl rfl (And.intro (Nat.zero_le _) (Nat.zero_le _)) rfl (Nat.le_of_ble_eq_true rfl) d_X12_undo_20 (fun _ M2 => ?_)
    refine jo_aload 0 d_X12_undo_23 rfl rfl ?_
    refine jo_dup d_X12_undo_24 rfl ?_
    refine jo_getI (k := 38) cl_12 (Nat.le_of_ble_eq_true rfl) lk_X12_461 (Or.inl rfl) kc_167 d_X12_undo_25 ?_
    refine jo_iconst 1 d_X12_undo_28 ?_
    refine jo_isub d_X12_undo_29 ?_
    refine jo_putI (k := 38) cl_12 (Nat.le_of_ble_eq_true rfl) lk_X12_461 rfl rfl kc_167 d_X12_undo_30 (fun M3 => ?_)
    refine jo_aload 0 d_X12_undo_33 rfl rfl ?_
    refine jo_aload 0 d_X12_undo_34 rfl rfl ?_
    refine jo_getI (k := 38) cl_12 (Nat.le_of_ble_eq_true rfl) lk_X12_461 (Or.inl rfl) kc_167 d_X12_undo_35 ?_
    refine jo_callV (st := []) (m_X12_gives hs n (M3 167 38) M3) ok_X12_gives (And.intro (Nat.le_of_ble_eq_true rfl) (Nat.le_of_ble_eq_true rfl)) lm_X12_91 in_X12_gives se_X12_gives rfl kc_167 rfl rfl (And.intro (Nat.zero_le _) (Nat.zero_le _)) rfl (Nat.le_of_ble_eq_true rfl) d_X12_undo_38 (fun r4 M5 => ?_)
    exact jo_iret rfl d_X12_undo_41
  · skip
    refine jo_aload 0 d_X12_undo_7 rfl rfl ?_
    refine jo_bipush 6 d_X12_undo_8 (by decide) ?_
    refine jo_callV (st := []) (m_X12_refuse hs n 6 M) ok_X12_refuse (And.intro (Nat.le_of_ble_eq_true rfl) (Nat.le_of_ble_eq_true rfl)) lm_X12_87 in_X12_refuse se_X12_refuse rfl kc_167 rfl rfl (And.intro (Nat.zero_le _) (Nat.zero_le _)) rfl (Nat.le_of_ble_eq_true rfl) d_X12_undo_10 (fun r6 M7 => ?_)
    exact jo_iret rfl d_X12_undo_13
theorem m_X12_undo {g : JG} {ad : Nat → Nat} (hs : jStr g ad) (n : Nat) (M : JMem) : jMet g jNN ad jR D_X12_undo yX12_undo [.ref 167] M (f_X12_undo n M) :=
  jMet.of (lo0 := [some (.ref 167)]) (by decide) rfl rfl (Nat.le_of_ble_eq_true rfl) (And.intro rfl True.intro) (t_X12_undo hs n M)
/-! CageLeaveModel.weekOrder(II)Z -/
def D_X12_weekOrder : JD := (RX12, cX12_weekOrder, 3, some .boolean, "weekOrder", { frames := 11, cells := 0, slots := 0, locals := 263 })
theorem ok_X12_weekOrder : jOk D_X12_weekOrder yX12_weekOrder 2 := ⟨jTW_mem (k := 1675) (by decide +kernel) rfl, jTW_mem (k := 151) (by decide +kernel) rfl, ⟨by decide +kernel, by decide +kernel⟩, by decide +kernel, rfl, rfl⟩
theorem in_X12_weekOrder : Cond.instanceMethod yX12_weekOrder ∈ jTW := jTW_mem (k := 1674) (by decide +kernel) rfl
theorem se_X12_weekOrder : Cond.selects yX12_weekOrder.cls yX12_weekOrder yX12_weekOrder ∈ jTW := jTW_mem (k := 78) (by decide +kernel) rfl
theorem lm_X12_245 : Cond.methodLink RX12 245 yX12_trainTo ∈ jTW := jTW_mem (k := 1680) (by decide +kernel) rfl
theorem lm_X12_248 : Cond.methodLink RX12 248 yX12_test ∈ jTW := jTW_mem (k := 1684) (by decide +kernel) rfl
theorem d_X12_weekOrder_0 : decode (D_X12_weekOrder).2.1 0 = .ok (.iload_n 1, 1) := by decide +kernel
theorem d_X12_weekOrder_1 : decode (D_X12_weekOrder).2.1 1 = .ok (.tableswitch 117 14 21 #[47, 117, 69, 95, 103, 117, 111, 58], 47) := by decide +kernel
theorem d_X12_weekOrder_48 : decode (D_X12_weekOrder).2.1 48 = .ok (.aload_n 0, 1) := by decide +kernel
theorem d_X12_weekOrder_49 : decode (D_X12_weekOrder).2.1 49 = .ok (.iload_n 2, 1) := by decide +kernel
theorem d_X12_weekOrder_50 : decode (D_X12_weekOrder).2.1 50 = .ok (.iconst 1, 1) := by decide +kernel
theorem d_X12_weekOrder_51 : decode (D_X12_weekOrder).2.1 51 = .ok (.iadd, 1) := by decide +kernel
theorem d_X12_weekOrder_52 : decode (D_X12_weekOrder).2.1 52 = .ok (.iconst 1, 1) := by decide +kernel
theorem d_X12_weekOrder_53 : decode (D_X12_weekOrder).2.1 53 = .ok (.bipush 64, 2) := by decide +kernel
theorem d_X12_weekOrder_55 : decode (D_X12_weekOrder).2.1 55 = .ok (.invokevirtual 203, 3) := by decide +kernel
theorem d_X12_weekOrder_58 : decode (D_X12_weekOrder).2.1 58 = .ok (.ireturn, 1) := by decide +kernel
theorem d_X12_weekOrder_59 : decode (D_X12_weekOrder).2.1 59 = .ok (.aload_n 0, 1) := by decide +kernel
theorem d_X12_weekOrder_60 : decode (D_X12_weekOrder).2.1 60 = .ok (.iload_n 2, 1) := by decide +kernel
theorem d_X12_weekOrder_61 : decode (D_X12_weekOrder).2.1 61 = .ok (.iconst 1, 1) := by decide +kernel
theorem d_X12_weekOrder_62 : decode (D_X12_weekOrder).2.1 62 = .ok (.iadd, 1) := by decide +kernel
theorem d_X12_weekOrder_63 : decode (D_X12_weekOrder).2.1 63 = .ok (.iconst 1, 1) := by decide +kernel
theorem d_X12_weekOrder_64 : decode (D_X12_weekOrder).2.1 64 = .ok (.bipush 99, 2) := by decide +kernel
theorem d_X12_weekOrder_66 : decode (D_X12_weekOrder).2.1 66 = .ok (.invokevirtual 203, 3) := by decide +kernel
theorem d_X12_weekOrder_69 : decode (D_X12_weekOrder).2.1 69 = .ok (.ireturn, 1) := by decide +kernel
theorem d_X12_weekOrder_70 : decode (D_X12_weekOrder).2.1 70 = .ok (.aload_n 0, 1) := by decide +kernel
theorem d_X12_weekOrder_71 : decode (D_X12_weekOrder).2.1 71 = .ok (.iload_n 2, 1) := by decide +kernel
theorem d_X12_weekOrder_72 : decode (D_X12_weekOrder).2.1 72 = .ok (.iconst 1, 1) := by decide +kernel
theorem d_X12_weekOrder_73 : decode (D_X12_weekOrder).2.1 73 = .ok (.iadd, 1) := by decide +kernel
theorem d_X12_weekOrder_74 : decode (D_X12_weekOrder).2.1 74 = .ok (.invokevirtual 242, 3) := by decide +kernel
theorem d_X12_weekOrder_77 : decode (D_X12_weekOrder).2.1 77 = .ok (.ifCond .eq 17, 3) := by decide +kernel
theorem d_X12_weekOrder_80 : decode (D_X12_weekOrder).2.1 80 = .ok (.aload_n 0, 1) := by decide +kernel
theorem d_X12_weekOrder_81 : decode (D_X12_weekOrder).2.1 81 = .ok (.iload_n 2, 1) := by decide +kernel
theorem d_X12_weekOrder_82 : decode (D_X12_weekOrder).2.1 82 = .ok (.iconst 2, 1) := by decide +kernel
theorem d_X12_weekOrder_83 : decode (D_X12_weekOrder).2.1 83 = .ok (.iadd, 1) := by decide +kernel
theorem d_X12_weekOrder_84 : decode (D_X12_weekOrder).2.1 84 = .ok (.invokevirtual 245, 3) := by decide +kernel
theorem d_X12_weekOrder_87 : decode (D_X12_weekOrder).2.1 87 = .ok (.ifCond .eq 7, 3) := by decide +kernel
theorem d_X12_weekOrder_90 : decode (D_X12_weekOrder).2.1 90 = .ok (.iconst 1, 1) := by decide +kernel
theorem d_X12_weekOrder_91 : decode (D_X12_weekOrder).2.1 91 = .ok (.goto 4, 3) := by decide +kernel
theorem d_X12_weekOrder_94 : decode (D_X12_weekOrder).2.1 94 = .ok (.iconst 0, 1) := by decide +kernel
theorem d_X12_weekOrder_95 : decode (D_X12_weekOrder).2.1 95 = .ok (.ireturn, 1) := by decide +kernel
theorem d_X12_weekOrder_96 : decode (D_X12_weekOrder).2.1 96 = .ok (.aload_n 0, 1) := by decide +kernel
theorem d_X12_weekOrder_97 : decode (D_X12_weekOrder).2.1 97 = .ok (.iload_n 2, 1) := by decide +kernel
theorem d_X12_weekOrder_98 : decode (D_X12_weekOrder).2.1 98 = .ok (.iconst 1, 1) := by decide +kernel
theorem d_X12_weekOrder_99 : decode (D_X12_weekOrder).2.1 99 = .ok (.iadd, 1) := by decide +kernel
theorem d_X12_weekOrder_100 : decode (D_X12_weekOrder).2.1 100 = .ok (.invokevirtual 242, 3) := by decide +kernel
theorem d_X12_weekOrder_103 : decode (D_X12_weekOrder).2.1 103 = .ok (.ireturn, 1) := by decide +kernel
theorem d_X12_weekOrder_104 : decode (D_X12_weekOrder).2.1 104 = .ok (.aload_n 0, 1) := by decide +kernel
theorem d_X12_weekOrder_105 : decode (D_X12_weekOrder).2.1 105 = .ok (.iload_n 2, 1) := by decide +kernel
theorem d_X12_weekOrder_106 : decode (D_X12_weekOrder).2.1 106 = .ok (.iconst 1, 1) := by decide +kernel
theorem d_X12_weekOrder_107 : decode (D_X12_weekOrder).2.1 107 = .ok (.iadd, 1) := by decide +kernel
theorem d_X12_weekOrder_108 : decode (D_X12_weekOrder).2.1 108 = .ok (.invokevirtual 245, 3) := by decide +kernel
theorem d_X12_weekOrder_111 : decode (D_X12_weekOrder).2.1 111 = .ok (.ireturn, 1) := by decide +kernel
theorem d_X12_weekOrder_112 : decode (D_X12_weekOrder).2.1 112 = .ok (.aload_n 0, 1) := by decide +kernel
theorem d_X12_weekOrder_113 : decode (D_X12_weekOrder).2.1 113 = .ok (.iload_n 2, 1) := by decide +kernel
theorem d_X12_weekOrder_114 : decode (D_X12_weekOrder).2.1 114 = .ok (.invokevirtual 248, 3) := by decide +kernel
theorem d_X12_weekOrder_117 : decode (D_X12_weekOrder).2.1 117 = .ok (.ireturn, 1) := by decide +kernel
theorem d_X12_weekOrder_118 : decode (D_X12_weekOrder).2.1 118 = .ok (.iconst 1, 1) := by decide +kernel
theorem d_X12_weekOrder_119 : decode (D_X12_weekOrder).2.1 119 = .ok (.ireturn, 1) := by decide +kernel
def f_X12_weekOrder (n : Nat) (x1 : Int) (x2 : Int) (M : JMem) : Option (Int × JMem) := if jw x1 = 14 then (bnd (f_X12_number n (x2 + 1) 1 64 M) fun r2 M3 => chk (jw r2 = 0 ∨ jw r2 = 1) (some (r2, M3))) else (if jw x1 = 16 then (bnd (f_X12_beastTo n (x2 + 1) M) fun r4 M5 => if jw r4 = 0 then (some (0, M5)) else (bnd (f_X12_trainTo n (x2 + 2) M5) fun r6 M7 => if jw r6 = 0 then (some (0, M7)) else (some (1, M7)))) else (if jw x1 = 17 then (bnd (f_X12_beastTo n (x2 + 1) M) fun r8 M9 => chk (jw r8 = 0 ∨ jw r8 = 1) (some (r8, M9))) else (if jw x1 = 18 then (bnd (f_X12_trainTo n (x2 + 1) M) fun r10 M11 => chk (jw r10 = 0 ∨ jw r10 = 1) (some (r10, M11))) else (if jw x1 = 20 then (bnd (f_X12_test n x2 M) fun r12 M13 => chk (jw r12 = 0 ∨ jw r12 = 1) (some (r12, M13))) else (if jw x1 = 21 then (bnd (f_X12_number n (x2 + 1) 1 99 M) fun r14 M15 => chk (jw r14 = 0 ∨ jw r14 = 1) (some (r14, M15))) else (some (1, M)))))))
set_option maxRecDepth 4000 in
theorem t_X12_weekOrder {g : JG} {ad : Nat → Nat} (hs : jStr g ad) (n : Nat) (x1 : Int) (x2 : Int) (M : JMem) : jB g D_X12_weekOrder ad 0 [some (.ref 167), some (ji x1), some (ji x2)] [] M (f_X12_weekOrder n x1 x2 M) := by
  unfold f_X12_weekOrder
  refine jo_iload 1 d_X12_weekOrder_0 rfl rfl ?_
  refine jo_if (fun c1_14 => ?_) (fun c1_14 => ?_)
  · skip
    refine jo_tabIn 48 d_X12_weekOrder_1 14 c1_14 (by decide) (by decide) rfl (by decide) ?_
    refine jo_aload 0 d_X12_weekOrder_48 rfl rfl ?_
    refine jo_iload 2 d_X12_weekOrder_49 rfl rfl ?_
    refine jo_iconst 1 d_X12_weekOrder_50 ?_
    refine jo_iadd d_X12_weekOrder_51 ?_
    refine jo_iconst 1 d_X12_weekOrder_52 ?_
    refine jo_bipush 64 d_X12_weekOrder_53 (by decide) ?_
    refine jo_callV (st := []) (m_X12_number hs n (x2 + 1) 1 64 M) ok_X12_number (And.intro (Nat.le_of_ble_eq_true rfl) (Nat.le_of_ble_eq_true rfl)) lm_X12_203 in_X12_number se_X12_number rfl kc_167 rfl rfl (And.intro (Nat.zero_le _) (Nat.zero_le _)) rfl (Nat.le_of_ble_eq_true rfl) d_X12_weekOrder_55 (fun r2 M3 => ?_)
    exact jo_zretq rfl d_X12_weekOrder_58
  refine jo_if (fun c1_16 => ?_) (fun c1_16 => ?_)
  · skip
    refine jo_tabIn 70 d_X12_weekOrder_1 16 c1_16 (by decide) (by decide) rfl (by decide) ?_
    refine jo_aload 0 d_X12_weekOrder_70 rfl rfl ?_
    refine jo_iload 2 d_X12_weekOrder_71 rfl rfl ?_
    refine jo_iconst 1 d_X12_weekOrder_72 ?_
    refine jo_iadd d_X12_weekOrder_73 ?_
    refine jo_callV (st := []) (m_X12_beastTo hs n (x2 + 1) M) ok_X12_beastTo (And.intro (Nat.le_of_ble_eq_true rfl) (Nat.le_of_ble_eq_true rfl)) lm_X12_242 in_X12_beastTo se_X12_beastTo rfl kc_167 rfl rfl (And.intro (Nat.zero_le _) (Nat.zero_le _)) rfl (Nat.le_of_ble_eq_true rfl) d_X12_weekOrder_74 (fun r4 M5 => ?_)
    refine jo_if_eq 94 d_X12_weekOrder_77 (by decide) ?_ ?_
    · skip
      refine jo_iconst 0 d_X12_weekOrder_94 ?_
      exact jo_zret rfl (by decide) d_X12_weekOrder_95
    · skip
      refine jo_aload 0 d_X12_weekOrder_80 rfl rfl ?_
      refine jo_iload 2 d_X12_weekOrder_81 rfl rfl ?_
      refine jo_iconst 2 d_X12_weekOrder_82 ?_
      refine jo_iadd d_X12_weekOrder_83 ?_
      refine jo_callV (st := []) (m_X12_trainTo hs n (x2 + 2) M5) ok_X12_trainTo (And.intro (Nat.le_of_ble_eq_true rfl) (Nat.le_of_ble_eq_true rfl)) lm_X12_245 in_X12_trainTo se_X12_trainTo rfl kc_167 rfl rfl (And.intro (Nat.zero_le _) (Nat.zero_le _)) rfl (Nat.le_of_ble_eq_true rfl) d_X12_weekOrder_84 (fun r6 M7 => ?_)
      refine jo_if_eq 94 d_X12_weekOrder_87 (by decide) ?_ ?_
      · skip
        refine jo_iconst 0 d_X12_weekOrder_94 ?_
        exact jo_zret rfl (by decide) d_X12_weekOrder_95
      · skip
        refine jo_iconst 1 d_X12_weekOrder_90 ?_
        refine jo_goto 95 d_X12_weekOrder_91 (by decide) ?_
        exact jo_zret rfl (by decide) d_X12_weekOrder_95
  refine jo_if (fun c1_17 => ?_) (fun c1_17 => ?_)
  · skip
    refine jo_tabIn 96 d_X12_weekOrder_1 17 c1_17 (by decide) (by decide) rfl (by decide) ?_
    refine jo_aload 0 d_X12_weekOrder_96 rfl rfl ?_
    refine jo_iload 2 d_X12_weekOrder_97 rfl rfl ?_
    refine jo_iconst 1 d_X12_weekOrder_98 ?_
    refine jo_iadd d_X12_weekOrder_99 ?_
    refine jo_callV (st := []) (m_X12_beastTo hs n (x2 + 1) M) ok_X12_beastTo (And.intro (Nat.le_of_ble_eq_true rfl) (Nat.le_of_ble_eq_true rfl)) lm_X12_242 in_X12_beastTo se_X12_beastTo rfl kc_167 rfl rfl (And.intro (Nat.zero_le _) (Nat.zero_le _)) rfl (Nat.le_of_ble_eq_true rfl) d_X12_weekOrder_100 (fun r8 M9 => ?_)
    exact jo_zretq rfl d_X12_weekOrder_103
  refine jo_if (fun c1_18 => ?_) (fun c1_18 => ?_)
  · skip
    refine jo_tabIn 104 d_X12_weekOrder_1 18 c1_18 (by decide) (by decide) rfl (by decide) ?_
    refine jo_aload 0 d_X12_weekOrder_104 rfl rfl ?_
    refine jo_iload 2 d_X12_weekOrder_105 rfl rfl ?_
    refine jo_iconst 1 d_X12_weekOrder_106 ?_
    refine jo_iadd d_X12_weekOrder_107 ?_
    refine jo_callV (st := []) (m_X12_trainTo hs n (x2 + 1) M) ok_X12_trainTo (And.intro (Nat.le_of_ble_eq_true rfl) (Nat.le_of_ble_eq_true rfl)) lm_X12_245 in_X12_trainTo se_X12_trainTo rfl kc_167 rfl rfl (And.intro (Nat.zero_le _) (Nat.zero_le _)) rfl (Nat.le_of_ble_eq_true rfl) d_X12_weekOrder_108 (fun r10 M11 => ?_)
    exact jo_zretq rfl d_X12_weekOrder_111
  refine jo_if (fun c1_20 => ?_) (fun c1_20 => ?_)
  · skip
    refine jo_tabIn 112 d_X12_weekOrder_1 20 c1_20 (by decide) (by decide) rfl (by decide) ?_
    refine jo_aload 0 d_X12_weekOrder_112 rfl rfl ?_
    refine jo_iload 2 d_X12_weekOrder_113 rfl rfl ?_
    refine jo_callV (st := []) (m_X12_test hs n x2 M) ok_X12_test (And.intro (Nat.le_of_ble_eq_true rfl) (Nat.le_of_ble_eq_true rfl)) lm_X12_248 in_X12_test se_X12_test rfl kc_167 rfl rfl (And.intro (Nat.zero_le _) (Nat.zero_le _)) rfl (Nat.le_of_ble_eq_true rfl) d_X12_weekOrder_114 (fun r12 M13 => ?_)
    exact jo_zretq rfl d_X12_weekOrder_117
  refine jo_if (fun c1_21 => ?_) (fun c1_21 => ?_)
  · skip
    refine jo_tabIn 59 d_X12_weekOrder_1 21 c1_21 (by decide) (by decide) rfl (by decide) ?_
    refine jo_aload 0 d_X12_weekOrder_59 rfl rfl ?_
    refine jo_iload 2 d_X12_weekOrder_60 rfl rfl ?_
    refine jo_iconst 1 d_X12_weekOrder_61 ?_
    refine jo_iadd d_X12_weekOrder_62 ?_
    refine jo_iconst 1 d_X12_weekOrder_63 ?_
    refine jo_bipush 99 d_X12_weekOrder_64 (by decide) ?_
    refine jo_callV (st := []) (m_X12_number hs n (x2 + 1) 1 99 M) ok_X12_number (And.intro (Nat.le_of_ble_eq_true rfl) (Nat.le_of_ble_eq_true rfl)) lm_X12_203 in_X12_number se_X12_number rfl kc_167 rfl rfl (And.intro (Nat.zero_le _) (Nat.zero_le _)) rfl (Nat.le_of_ble_eq_true rfl) d_X12_weekOrder_66 (fun r14 M15 => ?_)
    exact jo_zretq rfl d_X12_weekOrder_69
  refine jo_tabAny 118 d_X12_weekOrder_1 (by rcases (show (jw x1 < 14 ∨ 21 < jw x1) ∨ jw x1 = 15 ∨ jw x1 = 19 by omega) with h | h | h; exact Or.inl h; exact Or.inr ⟨15, h, by decide, by decide, rfl⟩; exact Or.inr ⟨19, h, by decide, by decide, rfl⟩) (by decide) ?_
  refine jo_iconst 1 d_X12_weekOrder_118 ?_
  exact jo_zret rfl (by decide) d_X12_weekOrder_119
theorem m_X12_weekOrder {g : JG} {ad : Nat → Nat} (hs : jStr g ad) (n : Nat) (x1 : Int) (x2 : Int) (M : JMem) : jMet g jNN ad jR D_X12_weekOrder yX12_weekOrder [.ref 167, ji x1, ji x2] M (f_X12_weekOrder n x1 x2 M) :=
  jMet.of (lo0 := [some (.ref 167), some (ji x1), some (ji x2)]) (by decide) rfl rfl (Nat.le_of_ble_eq_true rfl) (And.intro rfl (And.intro rfl (And.intro rfl True.intro))) (t_X12_weekOrder hs n x1 x2 M)
/-! CageLeaveModel.weekStep()Z -/
def D_X12_weekStep : JD := (RX12, cX12_weekStep, 6, some .boolean, "weekStep", { frames := 12, cells := 0, slots := 0, locals := 285 })
theorem ok_X12_weekStep : jOk D_X12_weekStep yX12_weekStep 0 := ⟨jTW_mem (k := 1671) (by decide +kernel) rfl, jTW_mem (k := 151) (by decide +kernel) rfl, ⟨by decide +kernel, by decide +kernel⟩, by decide +kernel, rfl, rfl⟩
theorem in_X12_weekStep : Cond.instanceMethod yX12_weekStep ∈ jTW := jTW_mem (k := 1670) (by decide +kernel) rfl
theorem se_X12_weekStep : Cond.selects yX12_weekStep.cls yX12_weekStep yX12_weekStep ∈ jTW := jTW_mem (k := 77) (by decide +kernel) rfl
theorem lk_X12_251 : Cond.fieldLink RX12 251 (TX12 22).1 (TX12 22).2.1 (TX12 22).2.2.1 ∈ jTW := jTW_mem (k := 1398) (by decide +kernel) rfl
theorem lk_X12_254 : Cond.fieldLink RX12 254 (TX12 23).1 (TX12 23).2.1 (TX12 23).2.2.1 ∈ jTW := jTW_mem (k := 1399) (by decide +kernel) rfl
theorem lm_X12_257 : Cond.methodLink RX12 257 yX12_weekOrder ∈ jTW := jTW_mem (k := 1672) (by decide +kernel) rfl
theorem lk_X12_44 : Cond.fieldLink RX12 44 (TX12 21).1 (TX12 21).2.1 (TX12 21).2.2.1 ∈ jTW := jTW_mem (k := 1397) (by decide +kernel) rfl
theorem d_X12_weekStep_0 : decode (D_X12_weekStep).2.1 0 = .ok (.aload_n 0, 1) := by decide +kernel
theorem d_X12_weekStep_1 : decode (D_X12_weekStep).2.1 1 = .ok (.ldc 180, 2) := by decide +kernel
theorem d_X12_weekStep_3 : decode (D_X12_weekStep).2.1 3 = .ok (.invokevirtual 172, 3) := by decide +kernel
theorem d_X12_weekStep_6 : decode (D_X12_weekStep).2.1 6 = .ok (.istore_n 1, 1) := by decide +kernel
theorem d_X12_weekStep_7 : decode (D_X12_weekStep).2.1 7 = .ok (.aload_n 0, 1) := by decide +kernel
theorem d_X12_weekStep_8 : decode (D_X12_weekStep).2.1 8 = .ok (.getfield 7, 3) := by decide +kernel
theorem d_X12_weekStep_11 : decode (D_X12_weekStep).2.1 11 = .ok (.sipush 2023, 3) := by decide +kernel
theorem d_X12_weekStep_14 : decode (D_X12_weekStep).2.1 14 = .ok (.iaload, 1) := by decide +kernel
theorem d_X12_weekStep_15 : decode (D_X12_weekStep).2.1 15 = .ok (.istore_n 2, 1) := by decide +kernel
theorem d_X12_weekStep_16 : decode (D_X12_weekStep).2.1 16 = .ok (.sipush 2152, 3) := by decide +kernel
theorem d_X12_weekStep_19 : decode (D_X12_weekStep).2.1 19 = .ok (.bipush 6, 2) := by decide +kernel
theorem d_X12_weekStep_21 : decode (D_X12_weekStep).2.1 21 = .ok (.iload_n 2, 1) := by decide +kernel
theorem d_X12_weekStep_22 : decode (D_X12_weekStep).2.1 22 = .ok (.imul, 1) := by decide +kernel
theorem d_X12_weekStep_23 : decode (D_X12_weekStep).2.1 23 = .ok (.iadd, 1) := by decide +kernel
theorem d_X12_weekStep_24 : decode (D_X12_weekStep).2.1 24 = .ok (.istore_n 3, 1) := by decide +kernel
theorem d_X12_weekStep_25 : decode (D_X12_weekStep).2.1 25 = .ok (.iload_n 1, 1) := by decide +kernel
theorem d_X12_weekStep_26 : decode (D_X12_weekStep).2.1 26 = .ok (.bipush 20, 2) := by decide +kernel
theorem d_X12_weekStep_28 : decode (D_X12_weekStep).2.1 28 = .ok (.if_icmp .eq 9, 3) := by decide +kernel
theorem d_X12_weekStep_31 : decode (D_X12_weekStep).2.1 31 = .ok (.iload_n 1, 1) := by decide +kernel
theorem d_X12_weekStep_32 : decode (D_X12_weekStep).2.1 32 = .ok (.bipush 21, 2) := by decide +kernel
theorem d_X12_weekStep_34 : decode (D_X12_weekStep).2.1 34 = .ok (.if_icmp .ne 7, 3) := by decide +kernel
theorem d_X12_weekStep_37 : decode (D_X12_weekStep).2.1 37 = .ok (.iconst 1, 1) := by decide +kernel
theorem d_X12_weekStep_38 : decode (D_X12_weekStep).2.1 38 = .ok (.goto 4, 3) := by decide +kernel
theorem d_X12_weekStep_41 : decode (D_X12_weekStep).2.1 41 = .ok (.iconst 0, 1) := by decide +kernel
theorem d_X12_weekStep_42 : decode (D_X12_weekStep).2.1 42 = .ok (.istore 4, 2) := by decide +kernel
theorem d_X12_weekStep_44 : decode (D_X12_weekStep).2.1 44 = .ok (.iload_n 1, 1) := by decide +kernel
theorem d_X12_weekStep_45 : decode (D_X12_weekStep).2.1 45 = .ok (.bipush 14, 2) := by decide +kernel
theorem d_X12_weekStep_47 : decode (D_X12_weekStep).2.1 47 = .ok (.if_icmp .lt 22, 3) := by decide +kernel
theorem d_X12_weekStep_50 : decode (D_X12_weekStep).2.1 50 = .ok (.iload_n 1, 1) := by decide +kernel
theorem d_X12_weekStep_51 : decode (D_X12_weekStep).2.1 51 = .ok (.bipush 23, 2) := by decide +kernel
theorem d_X12_weekStep_53 : decode (D_X12_weekStep).2.1 53 = .ok (.if_icmp .gt 16, 3) := by decide +kernel
theorem d_X12_weekStep_56 : decode (D_X12_weekStep).2.1 56 = .ok (.iload_n 1, 1) := by decide +kernel
theorem d_X12_weekStep_57 : decode (D_X12_weekStep).2.1 57 = .ok (.bipush 22, 2) := by decide +kernel
theorem d_X12_weekStep_59 : decode (D_X12_weekStep).2.1 59 = .ok (.if_icmp .ne 16, 3) := by decide +kernel
theorem d_X12_weekStep_62 : decode (D_X12_weekStep).2.1 62 = .ok (.aload_n 0, 1) := by decide +kernel
theorem d_X12_weekStep_63 : decode (D_X12_weekStep).2.1 63 = .ok (.getfield 251, 3) := by decide +kernel
theorem d_X12_weekStep_66 : decode (D_X12_weekStep).2.1 66 = .ok (.ifCond .ne 9, 3) := by decide +kernel
theorem d_X12_weekStep_69 : decode (D_X12_weekStep).2.1 69 = .ok (.aload_n 0, 1) := by decide +kernel
theorem d_X12_weekStep_70 : decode (D_X12_weekStep).2.1 70 = .ok (.iconst 2, 1) := by decide +kernel
theorem d_X12_weekStep_71 : decode (D_X12_weekStep).2.1 71 = .ok (.invokevirtual 169, 3) := by decide +kernel
theorem d_X12_weekStep_74 : decode (D_X12_weekStep).2.1 74 = .ok (.ireturn, 1) := by decide +kernel
theorem d_X12_weekStep_75 : decode (D_X12_weekStep).2.1 75 = .ok (.iload_n 1, 1) := by decide +kernel
theorem d_X12_weekStep_76 : decode (D_X12_weekStep).2.1 76 = .ok (.bipush 22, 2) := by decide +kernel
theorem d_X12_weekStep_78 : decode (D_X12_weekStep).2.1 78 = .ok (.if_icmp .eq 19, 3) := by decide +kernel
theorem d_X12_weekStep_81 : decode (D_X12_weekStep).2.1 81 = .ok (.aload_n 0, 1) := by decide +kernel
theorem d_X12_weekStep_82 : decode (D_X12_weekStep).2.1 82 = .ok (.getfield 254, 3) := by decide +kernel
theorem d_X12_weekStep_85 : decode (D_X12_weekStep).2.1 85 = .ok (.bipush 30, 2) := by decide +kernel
theorem d_X12_weekStep_87 : decode (D_X12_weekStep).2.1 87 = .ok (.if_icmp .ne 10, 3) := by decide +kernel
theorem d_X12_weekStep_90 : decode (D_X12_weekStep).2.1 90 = .ok (.aload_n 0, 1) := by decide +kernel
theorem d_X12_weekStep_91 : decode (D_X12_weekStep).2.1 91 = .ok (.bipush 6, 2) := by decide +kernel
theorem d_X12_weekStep_93 : decode (D_X12_weekStep).2.1 93 = .ok (.invokevirtual 169, 3) := by decide +kernel
theorem d_X12_weekStep_96 : decode (D_X12_weekStep).2.1 96 = .ok (.ireturn, 1) := by decide +kernel
theorem d_X12_weekStep_97 : decode (D_X12_weekStep).2.1 97 = .ok (.iload 4, 2) := by decide +kernel
theorem d_X12_weekStep_99 : decode (D_X12_weekStep).2.1 99 = .ok (.ifCond .eq 18, 3) := by decide +kernel
theorem d_X12_weekStep_102 : decode (D_X12_weekStep).2.1 102 = .ok (.aload_n 0, 1) := by decide +kernel
theorem d_X12_weekStep_103 : decode (D_X12_weekStep).2.1 103 = .ok (.getfield 251, 3) := by decide +kernel
theorem d_X12_weekStep_106 : decode (D_X12_weekStep).2.1 106 = .ok (.iconst 3, 1) := by decide +kernel
theorem d_X12_weekStep_107 : decode (D_X12_weekStep).2.1 107 = .ok (.if_icmp .ne 10, 3) := by decide +kernel
theorem d_X12_weekStep_110 : decode (D_X12_weekStep).2.1 110 = .ok (.aload_n 0, 1) := by decide +kernel
theorem d_X12_weekStep_111 : decode (D_X12_weekStep).2.1 111 = .ok (.bipush 7, 2) := by decide +kernel
theorem d_X12_weekStep_113 : decode (D_X12_weekStep).2.1 113 = .ok (.invokevirtual 169, 3) := by decide +kernel
theorem d_X12_weekStep_116 : decode (D_X12_weekStep).2.1 116 = .ok (.ireturn, 1) := by decide +kernel
theorem d_X12_weekStep_117 : decode (D_X12_weekStep).2.1 117 = .ok (.aload_n 0, 1) := by decide +kernel
theorem d_X12_weekStep_118 : decode (D_X12_weekStep).2.1 118 = .ok (.dup, 1) := by decide +kernel
theorem d_X12_weekStep_119 : decode (D_X12_weekStep).2.1 119 = .ok (.getfield 254, 3) := by decide +kernel
theorem d_X12_weekStep_122 : decode (D_X12_weekStep).2.1 122 = .ok (.iload_n 1, 1) := by decide +kernel
theorem d_X12_weekStep_123 : decode (D_X12_weekStep).2.1 123 = .ok (.bipush 22, 2) := by decide +kernel
theorem d_X12_weekStep_125 : decode (D_X12_weekStep).2.1 125 = .ok (.if_icmp .ne 7, 3) := by decide +kernel
theorem d_X12_weekStep_128 : decode (D_X12_weekStep).2.1 128 = .ok (.iconst 0, 1) := by decide +kernel
theorem d_X12_weekStep_129 : decode (D_X12_weekStep).2.1 129 = .ok (.goto 4, 3) := by decide +kernel
theorem d_X12_weekStep_132 : decode (D_X12_weekStep).2.1 132 = .ok (.iconst 1, 1) := by decide +kernel
theorem d_X12_weekStep_133 : decode (D_X12_weekStep).2.1 133 = .ok (.iadd, 1) := by decide +kernel
theorem d_X12_weekStep_134 : decode (D_X12_weekStep).2.1 134 = .ok (.putfield 254, 3) := by decide +kernel
theorem d_X12_weekStep_137 : decode (D_X12_weekStep).2.1 137 = .ok (.aload_n 0, 1) := by decide +kernel
theorem d_X12_weekStep_138 : decode (D_X12_weekStep).2.1 138 = .ok (.getfield 7, 3) := by decide +kernel
theorem d_X12_weekStep_141 : decode (D_X12_weekStep).2.1 141 = .ok (.iload_n 3, 1) := by decide +kernel
theorem d_X12_weekStep_142 : decode (D_X12_weekStep).2.1 142 = .ok (.iload_n 1, 1) := by decide +kernel
theorem d_X12_weekStep_143 : decode (D_X12_weekStep).2.1 143 = .ok (.iastore, 1) := by decide +kernel
theorem d_X12_weekStep_144 : decode (D_X12_weekStep).2.1 144 = .ok (.iconst 1, 1) := by decide +kernel
theorem d_X12_weekStep_145 : decode (D_X12_weekStep).2.1 145 = .ok (.istore 5, 2) := by decide +kernel
theorem d_X12_weekStep_147 : decode (D_X12_weekStep).2.1 147 = .ok (.iload 5, 2) := by decide +kernel
theorem d_X12_weekStep_149 : decode (D_X12_weekStep).2.1 149 = .ok (.bipush 6, 2) := by decide +kernel
theorem d_X12_weekStep_151 : decode (D_X12_weekStep).2.1 151 = .ok (.if_icmp .ge 19, 3) := by decide +kernel
theorem d_X12_weekStep_154 : decode (D_X12_weekStep).2.1 154 = .ok (.aload_n 0, 1) := by decide +kernel
theorem d_X12_weekStep_155 : decode (D_X12_weekStep).2.1 155 = .ok (.getfield 7, 3) := by decide +kernel
theorem d_X12_weekStep_158 : decode (D_X12_weekStep).2.1 158 = .ok (.iload_n 3, 1) := by decide +kernel
theorem d_X12_weekStep_159 : decode (D_X12_weekStep).2.1 159 = .ok (.iload 5, 2) := by decide +kernel
theorem d_X12_weekStep_161 : decode (D_X12_weekStep).2.1 161 = .ok (.iadd, 1) := by decide +kernel
theorem d_X12_weekStep_162 : decode (D_X12_weekStep).2.1 162 = .ok (.iconst 0, 1) := by decide +kernel
theorem d_X12_weekStep_163 : decode (D_X12_weekStep).2.1 163 = .ok (.iastore, 1) := by decide +kernel
theorem d_X12_weekStep_164 : decode (D_X12_weekStep).2.1 164 = .ok (.iinc 5 1, 3) := by decide +kernel
theorem d_X12_weekStep_167 : decode (D_X12_weekStep).2.1 167 = .ok (.goto (-20), 3) := by decide +kernel
theorem d_X12_weekStep_170 : decode (D_X12_weekStep).2.1 170 = .ok (.aload_n 0, 1) := by decide +kernel
theorem d_X12_weekStep_171 : decode (D_X12_weekStep).2.1 171 = .ok (.getfield 7, 3) := by decide +kernel
theorem d_X12_weekStep_174 : decode (D_X12_weekStep).2.1 174 = .ok (.sipush 2023, 3) := by decide +kernel
theorem d_X12_weekStep_177 : decode (D_X12_weekStep).2.1 177 = .ok (.dup2, 1) := by decide +kernel
theorem d_X12_weekStep_178 : decode (D_X12_weekStep).2.1 178 = .ok (.iaload, 1) := by decide +kernel
theorem d_X12_weekStep_179 : decode (D_X12_weekStep).2.1 179 = .ok (.iconst 1, 1) := by decide +kernel
theorem d_X12_weekStep_180 : decode (D_X12_weekStep).2.1 180 = .ok (.iadd, 1) := by decide +kernel
theorem d_X12_weekStep_181 : decode (D_X12_weekStep).2.1 181 = .ok (.iastore, 1) := by decide +kernel
theorem d_X12_weekStep_182 : decode (D_X12_weekStep).2.1 182 = .ok (.aload_n 0, 1) := by decide +kernel
theorem d_X12_weekStep_183 : decode (D_X12_weekStep).2.1 183 = .ok (.invokevirtual 163, 3) := by decide +kernel
theorem d_X12_weekStep_186 : decode (D_X12_weekStep).2.1 186 = .ok (.aload_n 0, 1) := by decide +kernel
theorem d_X12_weekStep_187 : decode (D_X12_weekStep).2.1 187 = .ok (.iload_n 1, 1) := by decide +kernel
theorem d_X12_weekStep_188 : decode (D_X12_weekStep).2.1 188 = .ok (.iload_n 3, 1) := by decide +kernel
theorem d_X12_weekStep_189 : decode (D_X12_weekStep).2.1 189 = .ok (.invokevirtual 257, 3) := by decide +kernel
theorem d_X12_weekStep_192 : decode (D_X12_weekStep).2.1 192 = .ok (.ifCond .ne 5, 3) := by decide +kernel
theorem d_X12_weekStep_195 : decode (D_X12_weekStep).2.1 195 = .ok (.iconst 0, 1) := by decide +kernel
theorem d_X12_weekStep_196 : decode (D_X12_weekStep).2.1 196 = .ok (.ireturn, 1) := by decide +kernel
theorem d_X12_weekStep_197 : decode (D_X12_weekStep).2.1 197 = .ok (.iload 4, 2) := by decide +kernel
theorem d_X12_weekStep_199 : decode (D_X12_weekStep).2.1 199 = .ok (.ifCond .eq 23, 3) := by decide +kernel
theorem d_X12_weekStep_202 : decode (D_X12_weekStep).2.1 202 = .ok (.aload_n 0, 1) := by decide +kernel
theorem d_X12_weekStep_203 : decode (D_X12_weekStep).2.1 203 = .ok (.getfield 44, 3) := by decide +kernel
theorem d_X12_weekStep_206 : decode (D_X12_weekStep).2.1 206 = .ok (.aload_n 0, 1) := by decide +kernel
theorem d_X12_weekStep_207 : decode (D_X12_weekStep).2.1 207 = .ok (.getfield 251, 3) := by decide +kernel
theorem d_X12_weekStep_210 : decode (D_X12_weekStep).2.1 210 = .ok (.iload_n 2, 1) := by decide +kernel
theorem d_X12_weekStep_211 : decode (D_X12_weekStep).2.1 211 = .ok (.iastore, 1) := by decide +kernel
theorem d_X12_weekStep_212 : decode (D_X12_weekStep).2.1 212 = .ok (.aload_n 0, 1) := by decide +kernel
theorem d_X12_weekStep_213 : decode (D_X12_weekStep).2.1 213 = .ok (.dup, 1) := by decide +kernel
theorem d_X12_weekStep_214 : decode (D_X12_weekStep).2.1 214 = .ok (.getfield 251, 3) := by decide +kernel
theorem d_X12_weekStep_217 : decode (D_X12_weekStep).2.1 217 = .ok (.iconst 1, 1) := by decide +kernel
theorem d_X12_weekStep_218 : decode (D_X12_weekStep).2.1 218 = .ok (.iadd, 1) := by decide +kernel
theorem d_X12_weekStep_219 : decode (D_X12_weekStep).2.1 219 = .ok (.putfield 251, 3) := by decide +kernel
theorem d_X12_weekStep_222 : decode (D_X12_weekStep).2.1 222 = .ok (.iload_n 1, 1) := by decide +kernel
theorem d_X12_weekStep_223 : decode (D_X12_weekStep).2.1 223 = .ok (.bipush 22, 2) := by decide +kernel
theorem d_X12_weekStep_225 : decode (D_X12_weekStep).2.1 225 = .ok (.if_icmp .ne 54, 3) := by decide +kernel
theorem d_X12_weekStep_228 : decode (D_X12_weekStep).2.1 228 = .ok (.aload_n 0, 1) := by decide +kernel
theorem d_X12_weekStep_229 : decode (D_X12_weekStep).2.1 229 = .ok (.dup, 1) := by decide +kernel
theorem d_X12_weekStep_230 : decode (D_X12_weekStep).2.1 230 = .ok (.getfield 251, 3) := by decide +kernel
theorem d_X12_weekStep_233 : decode (D_X12_weekStep).2.1 233 = .ok (.iconst 1, 1) := by decide +kernel
theorem d_X12_weekStep_234 : decode (D_X12_weekStep).2.1 234 = .ok (.isub, 1) := by decide +kernel
theorem d_X12_weekStep_235 : decode (D_X12_weekStep).2.1 235 = .ok (.putfield 251, 3) := by decide +kernel
theorem d_X12_weekStep_238 : decode (D_X12_weekStep).2.1 238 = .ok (.aload_n 0, 1) := by decide +kernel
theorem d_X12_weekStep_239 : decode (D_X12_weekStep).2.1 239 = .ok (.getfield 7, 3) := by decide +kernel
theorem d_X12_weekStep_242 : decode (D_X12_weekStep).2.1 242 = .ok (.iload_n 3, 1) := by decide +kernel
theorem d_X12_weekStep_243 : decode (D_X12_weekStep).2.1 243 = .ok (.iconst 4, 1) := by decide +kernel
theorem d_X12_weekStep_244 : decode (D_X12_weekStep).2.1 244 = .ok (.iadd, 1) := by decide +kernel
theorem d_X12_weekStep_245 : decode (D_X12_weekStep).2.1 245 = .ok (.aload_n 0, 1) := by decide +kernel
theorem d_X12_weekStep_246 : decode (D_X12_weekStep).2.1 246 = .ok (.getfield 44, 3) := by decide +kernel
theorem d_X12_weekStep_249 : decode (D_X12_weekStep).2.1 249 = .ok (.aload_n 0, 1) := by decide +kernel
theorem d_X12_weekStep_250 : decode (D_X12_weekStep).2.1 250 = .ok (.getfield 251, 3) := by decide +kernel
theorem d_X12_weekStep_253 : decode (D_X12_weekStep).2.1 253 = .ok (.iaload, 1) := by decide +kernel
theorem d_X12_weekStep_254 : decode (D_X12_weekStep).2.1 254 = .ok (.iastore, 1) := by decide +kernel
theorem d_X12_weekStep_255 : decode (D_X12_weekStep).2.1 255 = .ok (.aload_n 0, 1) := by decide +kernel
theorem d_X12_weekStep_256 : decode (D_X12_weekStep).2.1 256 = .ok (.getfield 7, 3) := by decide +kernel
theorem d_X12_weekStep_259 : decode (D_X12_weekStep).2.1 259 = .ok (.sipush 2152, 3) := by decide +kernel
theorem d_X12_weekStep_262 : decode (D_X12_weekStep).2.1 262 = .ok (.bipush 6, 2) := by decide +kernel
theorem d_X12_weekStep_264 : decode (D_X12_weekStep).2.1 264 = .ok (.aload_n 0, 1) := by decide +kernel
theorem d_X12_weekStep_265 : decode (D_X12_weekStep).2.1 265 = .ok (.getfield 44, 3) := by decide +kernel
theorem d_X12_weekStep_268 : decode (D_X12_weekStep).2.1 268 = .ok (.aload_n 0, 1) := by decide +kernel
theorem d_X12_weekStep_269 : decode (D_X12_weekStep).2.1 269 = .ok (.getfield 251, 3) := by decide +kernel
theorem d_X12_weekStep_272 : decode (D_X12_weekStep).2.1 272 = .ok (.iaload, 1) := by decide +kernel
theorem d_X12_weekStep_273 : decode (D_X12_weekStep).2.1 273 = .ok (.imul, 1) := by decide +kernel
theorem d_X12_weekStep_274 : decode (D_X12_weekStep).2.1 274 = .ok (.iadd, 1) := by decide +kernel
theorem d_X12_weekStep_275 : decode (D_X12_weekStep).2.1 275 = .ok (.iconst 4, 1) := by decide +kernel
theorem d_X12_weekStep_276 : decode (D_X12_weekStep).2.1 276 = .ok (.iadd, 1) := by decide +kernel
theorem d_X12_weekStep_277 : decode (D_X12_weekStep).2.1 277 = .ok (.iload_n 2, 1) := by decide +kernel
theorem d_X12_weekStep_278 : decode (D_X12_weekStep).2.1 278 = .ok (.iastore, 1) := by decide +kernel
theorem d_X12_weekStep_279 : decode (D_X12_weekStep).2.1 279 = .ok (.aload_n 0, 1) := by decide +kernel
theorem d_X12_weekStep_280 : decode (D_X12_weekStep).2.1 280 = .ok (.bipush 59, 2) := by decide +kernel
theorem d_X12_weekStep_282 : decode (D_X12_weekStep).2.1 282 = .ok (.invokevirtual 229, 3) := by decide +kernel
theorem d_X12_weekStep_285 : decode (D_X12_weekStep).2.1 285 = .ok (.ireturn, 1) := by decide +kernel
def f_X12_weekStep_L69 (n : Nat) (M : JMem) : Option (Int × JMem) := bnd (f_X12_fails n 2 M) fun r1 M2 => chk (jw r1 = 0 ∨ jw r1 = 1) (some (r1, M2))
set_option maxRecDepth 4000 in
theorem t_X12_weekStep_L69 {g : JG} {ad : Nat → Nat} (hs : jStr g ad) (n : Nat) (M : JMem) : jB g D_X12_weekStep ad 69 [some (.ref 167), none, none, none, none, none] [] M (f_X12_weekStep_L69 n M) := by
  unfold f_X12_weekStep_L69
  refine jo_aload 0 d_X12_weekStep_69 rfl rfl ?_
  refine jo_iconst 2 d_X12_weekStep_70 ?_
  refine jo_callV (st := []) (m_X12_fails hs n 2 M) ok_X12_fails (And.intro (Nat.le_of_ble_eq_true rfl) (Nat.le_of_ble_eq_true rfl)) lm_X12_169 in_X12_fails se_X12_fails rfl kc_167 rfl rfl (And.intro (Nat.zero_le _) (Nat.zero_le _)) rfl (Nat.le_of_ble_eq_true rfl) d_X12_weekStep_71 (fun r1 M2 => ?_)
  exact jo_zretq rfl d_X12_weekStep_74
def f_X12_weekStep_L279 (n : Nat) (M : JMem) : Option (Int × JMem) := bnd (f_X12_wantSign n 59 M) fun r1 M2 => chk (jw r1 = 0 ∨ jw r1 = 1) (some (r1, M2))
set_option maxRecDepth 4000 in
theorem t_X12_weekStep_L279 {g : JG} {ad : Nat → Nat} (hs : jStr g ad) (n : Nat) (M : JMem) : jB g D_X12_weekStep ad 279 [some (.ref 167), none, none, none, none, none] [] M (f_X12_weekStep_L279 n M) := by
  unfold f_X12_weekStep_L279
  refine jo_aload 0 d_X12_weekStep_279 rfl rfl ?_
  refine jo_bipush 59 d_X12_weekStep_280 (by decide) ?_
  refine jo_callV (st := []) (m_X12_wantSign hs n 59 M) ok_X12_wantSign (And.intro (Nat.le_of_ble_eq_true rfl) (Nat.le_of_ble_eq_true rfl)) lm_X12_229 in_X12_wantSign se_X12_wantSign rfl kc_167 rfl rfl (And.intro (Nat.zero_le _) (Nat.zero_le _)) rfl (Nat.le_of_ble_eq_true rfl) d_X12_weekStep_282 (fun r1 M2 => ?_)
  exact jo_zretq rfl d_X12_weekStep_285
def f_X12_weekStep_L222 (n : Nat) (v1 v2 v3 : Int) (M : JMem) : Option (Int × JMem) := if jw v1 = jw 22 then (letm (jup M 167 22 ((M 167 22) - 1)) fun M1 => chk (jin (M1 167 22) 3) <| chk (jin (v3 + 4) 3160) <| letm (jup M1 168 (jw (v3 + 4)).toNat (M1 175 (jw (M1 167 22)).toNat)) fun M2 => chk (jin (M2 167 22) 3) <| chk (jin ((2152 + (6 * (M2 175 (jw (M2 167 22)).toNat))) + 4) 3160) <| letm (jup M2 168 (jw ((2152 + (6 * (M2 175 (jw (M2 167 22)).toNat))) + 4)).toNat v2) fun M3 => f_X12_weekStep_L279 n M3) else (f_X12_weekStep_L279 n M)
set_option maxRecDepth 4000 in
theorem t_X12_weekStep_L222 {g : JG} {ad : Nat → Nat} (hs : jStr g ad) (n : Nat) (v1 v2 v3 : Int) (M : JMem) : jB g D_X12_weekStep ad 222 [some (.ref 167), some (ji v1), some (ji v2), some (ji v3), none, none] [] M (f_X12_weekStep_L222 n v1 v2 v3 M) := by
  unfold f_X12_weekStep_L222
  refine jo_iload 1 d_X12_weekStep_222 rfl rfl ?_
  refine jo_bipush 22 d_X12_weekStep_223 (by decide) ?_
  refine jo_icmp_ne 279 d_X12_weekStep_225 (by decide) ?_ ?_
  · skip
    exact jO.sub (t_X12_weekStep_L279 hs n M) (And.intro rfl True.intro)
  · skip
    refine jo_aload 0 d_X12_weekStep_228 rfl rfl ?_
    refine jo_dup d_X12_weekStep_229 rfl ?_
    refine jo_getI (k := 22) cl_12 (Nat.le_of_ble_eq_true rfl) lk_X12_251 (Or.inl rfl) kc_167 d_X12_weekStep_230 ?_
    refine jo_iconst 1 d_X12_weekStep_233 ?_
    refine jo_isub d_X12_weekStep_234 ?_
    refine jo_putI (k := 22) cl_12 (Nat.le_of_ble_eq_true rfl) lk_X12_251 rfl rfl kc_167 d_X12_weekStep_235 (fun M1 => ?_)
    refine jo_aload 0 d_X12_weekStep_238 rfl rfl ?_
    refine jo_getR (k := 0) cl_12 (Nat.le_of_ble_eq_true rfl) lk_X12_7 rfl kc_167 kr_167_0 d_X12_weekStep_239 ?_
    refine jo_iload 3 d_X12_weekStep_242 rfl rfl ?_
    refine jo_iconst 4 d_X12_weekStep_243 ?_
    refine jo_iadd d_X12_weekStep_244 ?_
    refine jo_aload 0 d_X12_weekStep_245 rfl rfl ?_
    refine jo_getR (k := 21) cl_12 (Nat.le_of_ble_eq_true rfl) lk_X12_44 rfl kc_167 kr_167_21 d_X12_weekStep_246 ?_
    refine jo_aload 0 d_X12_weekStep_249 rfl rfl ?_
    refine jo_getI (k := 22) cl_12 (Nat.le_of_ble_eq_true rfl) lk_X12_251 (Or.inl rfl) kc_167 d_X12_weekStep_250 ?_
    refine jo_iald (N := 3) kc_175 d_X12_weekStep_253 ?_
    refine jo_iast (N := 3160) kc_168 d_X12_weekStep_254 (fun M2 => ?_)
    refine jo_aload 0 d_X12_weekStep_255 rfl rfl ?_
    refine jo_getR (k := 0) cl_12 (Nat.le_of_ble_eq_true rfl) lk_X12_7 rfl kc_167 kr_167_0 d_X12_weekStep_256 ?_
    refine jo_sipush 2152 d_X12_weekStep_259 (by decide) ?_
    refine jo_bipush 6 d_X12_weekStep_262 (by decide) ?_
    refine jo_aload 0 d_X12_weekStep_264 rfl rfl ?_
    refine jo_getR (k := 21) cl_12 (Nat.le_of_ble_eq_true rfl) lk_X12_44 rfl kc_167 kr_167_21 d_X12_weekStep_265 ?_
    refine jo_aload 0 d_X12_weekStep_268 rfl rfl ?_
    refine jo_getI (k := 22) cl_12 (Nat.le_of_ble_eq_true rfl) lk_X12_251 (Or.inl rfl) kc_167 d_X12_weekStep_269 ?_
    refine jo_iald (N := 3) kc_175 d_X12_weekStep_272 ?_
    refine jo_imul d_X12_weekStep_273 ?_
    refine jo_iadd d_X12_weekStep_274 ?_
    refine jo_iconst 4 d_X12_weekStep_275 ?_
    refine jo_iadd d_X12_weekStep_276 ?_
    refine jo_iload 2 d_X12_weekStep_277 rfl rfl ?_
    refine jo_iast (N := 3160) kc_168 d_X12_weekStep_278 (fun M3 => ?_)
    exact jO.sub (t_X12_weekStep_L279 hs n M3) (And.intro rfl True.intro)
def f_X12_weekStep_L170 (n : Nat) (v1 v2 v3 v4 : Int) (M : JMem) : Option (Int × JMem) := chk (jin 2023 3160) <| chk (jin 2023 3160) <| letm (jup M 168 (jw 2023).toNat ((M 168 (jw 2023).toNat) + 1)) fun M1 => bnd (f_X12_ahead n M1) fun _ M3 => bnd (f_X12_weekOrder n v1 v3 M3) fun r4 M5 => if jw r4 = 0 then (some (0, M5)) else (if jw v4 = 0 then (f_X12_weekStep_L222 n v1 v2 v3 M5) else (chk (jin (M5 167 22) 3) <| letm (jup M5 175 (jw (M5 167 22)).toNat v2) fun M6 => letm (jup M6 167 22 ((M6 167 22) + 1)) fun M7 => f_X12_weekStep_L222 n v1 v2 v3 M7))
set_option maxRecDepth 4000 in
theorem t_X12_weekStep_L170 {g : JG} {ad : Nat → Nat} (hs : jStr g ad) (n : Nat) (v1 v2 v3 v4 : Int) (M : JMem) : jB g D_X12_weekStep ad 170 [some (.ref 167), some (ji v1), some (ji v2), some (ji v3), some (ji v4), none] [] M (f_X12_weekStep_L170 n v1 v2 v3 v4 M) := by
  unfold f_X12_weekStep_L170
  refine jo_aload 0 d_X12_weekStep_170 rfl rfl ?_
  refine jo_getR (k := 0) cl_12 (Nat.le_of_ble_eq_true rfl) lk_X12_7 rfl kc_167 kr_167_0 d_X12_weekStep_171 ?_
  refine jo_sipush 2023 d_X12_weekStep_174 (by decide) ?_
  refine jo_dup2 d_X12_weekStep_177 rfl rfl ?_
  refine jo_iald (N := 3160) kc_168 d_X12_weekStep_178 ?_
  refine jo_iconst 1 d_X12_weekStep_179 ?_
  refine jo_iadd d_X12_weekStep_180 ?_
  refine jo_iast (N := 3160) kc_168 d_X12_weekStep_181 (fun M1 => ?_)
  refine jo_aload 0 d_X12_weekStep_182 rfl rfl ?_
  refine jo_callV (st := []) (m_X12_ahead hs n M1) ok_X12_ahead (And.intro (Nat.le_of_ble_eq_true rfl) (Nat.le_of_ble_eq_true rfl)) lm_X12_163 in_X12_ahead se_X12_ahead rfl kc_167 rfl rfl (And.intro (Nat.zero_le _) (Nat.zero_le _)) rfl (Nat.le_of_ble_eq_true rfl) d_X12_weekStep_183 (fun _ M3 => ?_)
  refine jo_aload 0 d_X12_weekStep_186 rfl rfl ?_
  refine jo_iload 1 d_X12_weekStep_187 rfl rfl ?_
  refine jo_iload 3 d_X12_weekStep_188 rfl rfl ?_
  refine jo_callV (st := []) (m_X12_weekOrder hs n v1 v3 M3) ok_X12_weekOrder (And.intro (Nat.le_of_ble_eq_true rfl) (Nat.le_of_ble_eq_true rfl)) lm_X12_257 in_X12_weekOrder se_X12_weekOrder rfl kc_167 rfl rfl (And.intro (Nat.zero_le _) (Nat.zero_le _)) rfl (Nat.le_of_ble_eq_true rfl) d_X12_weekStep_189 (fun r4 M5 => ?_)
  refine jo_if_ne 197 d_X12_weekStep_192 (by decide) ?_ ?_
  · skip
    refine jo_iloadW 4 d_X12_weekStep_197 rfl ?_
    refine jo_if_eq 222 d_X12_weekStep_199 (by decide) ?_ ?_
    · skip
      exact jO.sub (t_X12_weekStep_L222 hs n v1 v2 v3 M5) (And.intro rfl (And.intro rfl (And.intro rfl (And.intro rfl True.intro))))
    · skip
      refine jo_aload 0 d_X12_weekStep_202 rfl rfl ?_
      refine jo_getR (k := 21) cl_12 (Nat.le_of_ble_eq_true rfl) lk_X12_44 rfl kc_167 kr_167_21 d_X12_weekStep_203 ?_
      refine jo_aload 0 d_X12_weekStep_206 rfl rfl ?_
      refine jo_getI (k := 22) cl_12 (Nat.le_of_ble_eq_true rfl) lk_X12_251 (Or.inl rfl) kc_167 d_X12_weekStep_207 ?_
      refine jo_iload 2 d_X12_weekStep_210 rfl rfl ?_
      refine jo_iast (N := 3) kc_175 d_X12_weekStep_211 (fun M6 => ?_)
      refine jo_aload 0 d_X12_weekStep_212 rfl rfl ?_
      refine jo_dup d_X12_weekStep_213 rfl ?_
      refine jo_getI (k := 22) cl_12 (Nat.le_of_ble_eq_true rfl) lk_X12_251 (Or.inl rfl) kc_167 d_X12_weekStep_214 ?_
      refine jo_iconst 1 d_X12_weekStep_217 ?_
      refine jo_iadd d_X12_weekStep_218 ?_
      refine jo_putI (k := 22) cl_12 (Nat.le_of_ble_eq_true rfl) lk_X12_251 rfl rfl kc_167 d_X12_weekStep_219 (fun M7 => ?_)
      exact jO.sub (t_X12_weekStep_L222 hs n v1 v2 v3 M7) (And.intro rfl (And.intro rfl (And.intro rfl (And.intro rfl True.intro))))
  · skip
    refine jo_iconst 0 d_X12_weekStep_195 ?_
    exact jo_zret rfl (by decide) d_X12_weekStep_196
def f_X12_weekStep_L147 (n : Nat) : Nat → Int → Int → Int → Int → Int → JMem → Option (Int × JMem)
  | 0, _, _, _, _, _, _ => none
  | k + 1, v1, v2, v3, v4, v5, M => if jw 6 ≤ jw v5 then (f_X12_weekStep_L170 n v1 v2 v3 v4 M) else (chk (jin (v3 + v5) 3160) <| letm (jup M 168 (jw (v3 + v5)).toNat 0) fun M1 => letv (v5 + 1) fun y2 => (f_X12_weekStep_L147 n k) v1 v2 v3 v4 y2 M1)
set_option maxRecDepth 4000 in
theorem t_X12_weekStep_L147 {g : JG} {ad : Nat → Nat} (hs : jStr g ad) (n : Nat) : ∀ (k : Nat) (v1 v2 v3 v4 v5 : Int) (M : JMem), jB g D_X12_weekStep ad 147 [some (.ref 167), some (ji v1), some (ji v2), some (ji v3), some (ji v4), some (ji v5)] [] M (f_X12_weekStep_L147 n k v1 v2 v3 v4 v5 M) := by
  intro k
  induction k with
  | zero => intro v1 v2 v3 v4 v5 M; exact jO.none
  | succ k ih =>
    intro v1 v2 v3 v4 v5 M
    rw [f_X12_weekStep_L147]
    refine jo_iloadW 5 d_X12_weekStep_147 rfl ?_
    refine jo_bipush 6 d_X12_weekStep_149 (by decide) ?_
    refine jo_icmp_ge 170 d_X12_weekStep_151 (by decide) ?_ ?_
    · skip
      exact jO.sub (t_X12_weekStep_L170 hs n v1 v2 v3 v4 M) (And.intro rfl (And.intro rfl (And.intro rfl (And.intro rfl (And.intro rfl True.intro)))))
    · skip
      refine jo_aload 0 d_X12_weekStep_154 rfl rfl ?_
      refine jo_getR (k := 0) cl_12 (Nat.le_of_ble_eq_true rfl) lk_X12_7 rfl kc_167 kr_167_0 d_X12_weekStep_155 ?_
      refine jo_iload 3 d_X12_weekStep_158 rfl rfl ?_
      refine jo_iloadW 5 d_X12_weekStep_159 rfl ?_
      refine jo_iadd d_X12_weekStep_161 ?_
      refine jo_iconst 0 d_X12_weekStep_162 ?_
      refine jo_iast (N := 3160) kc_168 d_X12_weekStep_163 (fun M1 => ?_)
      refine jo_iinc 5 d_X12_weekStep_164 rfl (Nat.le_of_ble_eq_true rfl) (fun y2 => ?_)
      refine jo_goto 147 d_X12_weekStep_167 (by decide) ?_
      exact jO.sub (ih v1 v2 v3 v4 y2 M1) (And.intro rfl (And.intro rfl (And.intro rfl (And.intro rfl (And.intro rfl (And.intro rfl True.intro))))))
def f_X12_weekStep_L133 (n : Nat) (v1 v2 v3 v4 w1 w2 : Int) (M : JMem) : Option (Int × JMem) := letm (jup M 167 23 (w1 + w2)) fun M1 => chk (jin v3 3160) <| letm (jup M1 168 (jw v3).toNat v1) fun M2 => letv 1 fun y3 => f_X12_weekStep_L147 n n v1 v2 v3 v4 y3 M2
set_option maxRecDepth 4000 in
theorem t_X12_weekStep_L133 {g : JG} {ad : Nat → Nat} (hs : jStr g ad) (n : Nat) (v1 v2 v3 v4 w1 w2 : Int) (M : JMem) : jB g D_X12_weekStep ad 133 [some (.ref 167), some (ji v1), some (ji v2), some (ji v3), some (ji v4), none] [ji w2, ji w1, .ref 167] M (f_X12_weekStep_L133 n v1 v2 v3 v4 w1 w2 M) := by
  unfold f_X12_weekStep_L133
  refine jo_iadd d_X12_weekStep_133 ?_
  refine jo_putI (k := 23) cl_12 (Nat.le_of_ble_eq_true rfl) lk_X12_254 rfl rfl kc_167 d_X12_weekStep_134 (fun M1 => ?_)
  refine jo_aload 0 d_X12_weekStep_137 rfl rfl ?_
  refine jo_getR (k := 0) cl_12 (Nat.le_of_ble_eq_true rfl) lk_X12_7 rfl kc_167 kr_167_0 d_X12_weekStep_138 ?_
  refine jo_iload 3 d_X12_weekStep_141 rfl rfl ?_
  refine jo_iload 1 d_X12_weekStep_142 rfl rfl ?_
  refine jo_iast (N := 3160) kc_168 d_X12_weekStep_143 (fun M2 => ?_)
  refine jo_iconst 1 d_X12_weekStep_144 ?_
  refine jo_istoreW 5 d_X12_weekStep_145 (Nat.le_of_ble_eq_true rfl) (fun y3 => ?_)
  exact jO.sub (t_X12_weekStep_L147 hs n n v1 v2 v3 v4 y3 M2) (And.intro rfl (And.intro rfl (And.intro rfl (And.intro rfl (And.intro rfl (And.intro rfl True.intro))))))
def f_X12_weekStep_L117 (n : Nat) (v1 v2 v3 v4 : Int) (M : JMem) : Option (Int × JMem) := if jw v1 = jw 22 then (f_X12_weekStep_L133 n v1 v2 v3 v4 (M 167 23) 0 M) else (f_X12_weekStep_L133 n v1 v2 v3 v4 (M 167 23) 1 M)
set_option maxRecDepth 4000 in
theorem t_X12_weekStep_L117 {g : JG} {ad : Nat → Nat} (hs : jStr g ad) (n : Nat) (v1 v2 v3 v4 : Int) (M : JMem) : jB g D_X12_weekStep ad 117 [some (.ref 167), some (ji v1), some (ji v2), some (ji v3), some (ji v4), none] [] M (f_X12_weekStep_L117 n v1 v2 v3 v4 M) := by
  unfold f_X12_weekStep_L117
  refine jo_aload 0 d_X12_weekStep_117 rfl rfl ?_
  refine jo_dup d_X12_weekStep_118 rfl ?_
  refine jo_getI (k := 23) cl_12 (Nat.le_of_ble_eq_true rfl) lk_X12_254 (Or.inl rfl) kc_167 d_X12_weekStep_119 ?_
  refine jo_iload 1 d_X12_weekStep_122 rfl rfl ?_
  refine jo_bipush 22 d_X12_weekStep_123 (by decide) ?_
  refine jo_icmp_ne 132 d_X12_weekStep_125 (by decide) ?_ ?_
  · skip
    refine jo_iconst 1 d_X12_weekStep_132 ?_
    exact jO.sub (t_X12_weekStep_L133 hs n v1 v2 v3 v4 (M 167 23) 1 M) (And.intro rfl (And.intro rfl (And.intro rfl (And.intro rfl (And.intro rfl True.intro)))))
  · skip
    refine jo_iconst 0 d_X12_weekStep_128 ?_
    refine jo_goto 133 d_X12_weekStep_129 (by decide) ?_
    exact jO.sub (t_X12_weekStep_L133 hs n v1 v2 v3 v4 (M 167 23) 0 M) (And.intro rfl (And.intro rfl (And.intro rfl (And.intro rfl (And.intro rfl True.intro)))))
def f_X12_weekStep_L97 (n : Nat) (v1 v2 v3 v4 : Int) (M : JMem) : Option (Int × JMem) := if jw v4 = 0 then (f_X12_weekStep_L117 n v1 v2 v3 v4 M) else (if jw (M 167 22) = jw 3 then (bnd (f_X12_fails n 7 M) fun r1 M2 => chk (jw r1 = 0 ∨ jw r1 = 1) (some (r1, M2))) else (f_X12_weekStep_L117 n v1 v2 v3 v4 M))
set_option maxRecDepth 4000 in
theorem t_X12_weekStep_L97 {g : JG} {ad : Nat → Nat} (hs : jStr g ad) (n : Nat) (v1 v2 v3 v4 : Int) (M : JMem) : jB g D_X12_weekStep ad 97 [some (.ref 167), some (ji v1), some (ji v2), some (ji v3), some (ji v4), none] [] M (f_X12_weekStep_L97 n v1 v2 v3 v4 M) := by
  unfold f_X12_weekStep_L97
  refine jo_iloadW 4 d_X12_weekStep_97 rfl ?_
  refine jo_if_eq 117 d_X12_weekStep_99 (by decide) ?_ ?_
  · skip
    exact jO.sub (t_X12_weekStep_L117 hs n v1 v2 v3 v4 M) (And.intro rfl (And.intro rfl (And.intro rfl (And.intro rfl (And.intro rfl True.intro)))))
  · skip
    refine jo_aload 0 d_X12_weekStep_102 rfl rfl ?_
    refine jo_getI (k := 22) cl_12 (Nat.le_of_ble_eq_true rfl) lk_X12_251 (Or.inl rfl) kc_167 d_X12_weekStep_103 ?_
    refine jo_iconst 3 d_X12_weekStep_106 ?_
    refine jo_icmp_ne 117 d_X12_weekStep_107 (by decide) ?_ ?_
    · skip
      exact jO.sub (t_X12_weekStep_L117 hs n v1 v2 v3 v4 M) (And.intro rfl (And.intro rfl (And.intro rfl (And.intro rfl (And.intro rfl True.intro)))))
    · skip
      refine jo_aload 0 d_X12_weekStep_110 rfl rfl ?_
      refine jo_bipush 7 d_X12_weekStep_111 (by decide) ?_
      refine jo_callV (st := []) (m_X12_fails hs n 7 M) ok_X12_fails (And.intro (Nat.le_of_ble_eq_true rfl) (Nat.le_of_ble_eq_true rfl)) lm_X12_169 in_X12_fails se_X12_fails rfl kc_167 rfl rfl (And.intro (Nat.zero_le _) (Nat.zero_le _)) rfl (Nat.le_of_ble_eq_true rfl) d_X12_weekStep_113 (fun r1 M2 => ?_)
      exact jo_zretq rfl d_X12_weekStep_116
def f_X12_weekStep_L75 (n : Nat) (v1 v2 v3 v4 : Int) (M : JMem) : Option (Int × JMem) := if jw v1 = jw 22 then (f_X12_weekStep_L97 n v1 v2 v3 v4 M) else (if jw (M 167 23) = jw 30 then (bnd (f_X12_fails n 6 M) fun r1 M2 => chk (jw r1 = 0 ∨ jw r1 = 1) (some (r1, M2))) else (f_X12_weekStep_L97 n v1 v2 v3 v4 M))
set_option maxRecDepth 4000 in
theorem t_X12_weekStep_L75 {g : JG} {ad : Nat → Nat} (hs : jStr g ad) (n : Nat) (v1 v2 v3 v4 : Int) (M : JMem) : jB g D_X12_weekStep ad 75 [some (.ref 167), some (ji v1), some (ji v2), some (ji v3), some (ji v4), none] [] M (f_X12_weekStep_L75 n v1 v2 v3 v4 M) := by
  unfold f_X12_weekStep_L75
  refine jo_iload 1 d_X12_weekStep_75 rfl rfl ?_
  refine jo_bipush 22 d_X12_weekStep_76 (by decide) ?_
  refine jo_icmp_eq 97 d_X12_weekStep_78 (by decide) ?_ ?_
  · skip
    exact jO.sub (t_X12_weekStep_L97 hs n v1 v2 v3 v4 M) (And.intro rfl (And.intro rfl (And.intro rfl (And.intro rfl (And.intro rfl True.intro)))))
  · skip
    refine jo_aload 0 d_X12_weekStep_81 rfl rfl ?_
    refine jo_getI (k := 23) cl_12 (Nat.le_of_ble_eq_true rfl) lk_X12_254 (Or.inl rfl) kc_167 d_X12_weekStep_82 ?_
    refine jo_bipush 30 d_X12_weekStep_85 (by decide) ?_
    refine jo_icmp_ne 97 d_X12_weekStep_87 (by decide) ?_ ?_
    · skip
      exact jO.sub (t_X12_weekStep_L97 hs n v1 v2 v3 v4 M) (And.intro rfl (And.intro rfl (And.intro rfl (And.intro rfl (And.intro rfl True.intro)))))
    · skip
      refine jo_aload 0 d_X12_weekStep_90 rfl rfl ?_
      refine jo_bipush 6 d_X12_weekStep_91 (by decide) ?_
      refine jo_callV (st := []) (m_X12_fails hs n 6 M) ok_X12_fails (And.intro (Nat.le_of_ble_eq_true rfl) (Nat.le_of_ble_eq_true rfl)) lm_X12_169 in_X12_fails se_X12_fails rfl kc_167 rfl rfl (And.intro (Nat.zero_le _) (Nat.zero_le _)) rfl (Nat.le_of_ble_eq_true rfl) d_X12_weekStep_93 (fun r1 M2 => ?_)
      exact jo_zretq rfl d_X12_weekStep_96
def f_X12_weekStep_L42 (n : Nat) (v1 v2 v3 w0 : Int) (M : JMem) : Option (Int × JMem) := letv w0 fun y1 => if jw v1 < jw 14 then (f_X12_weekStep_L69 n M) else (if jw 23 < jw v1 then (f_X12_weekStep_L69 n M) else (if jw v1 = jw 22 then (if jw (M 167 22) = 0 then (f_X12_weekStep_L69 n M) else (f_X12_weekStep_L75 n v1 v2 v3 y1 M)) else (f_X12_weekStep_L75 n v1 v2 v3 y1 M)))
set_option maxRecDepth 4000 in
theorem t_X12_weekStep_L42 {g : JG} {ad : Nat → Nat} (hs : jStr g ad) (n : Nat) (v1 v2 v3 w0 : Int) (M : JMem) : jB g D_X12_weekStep ad 42 [some (.ref 167), some (ji v1), some (ji v2), some (ji v3), none, none] [ji w0] M (f_X12_weekStep_L42 n v1 v2 v3 w0 M) := by
  unfold f_X12_weekStep_L42
  refine jo_istoreW 4 d_X12_weekStep_42 (Nat.le_of_ble_eq_true rfl) (fun y1 => ?_)
  refine jo_iload 1 d_X12_weekStep_44 rfl rfl ?_
  refine jo_bipush 14 d_X12_weekStep_45 (by decide) ?_
  refine jo_icmp_lt 69 d_X12_weekStep_47 (by decide) ?_ ?_
  · skip
    exact jO.sub (t_X12_weekStep_L69 hs n M) (And.intro rfl True.intro)
  · skip
    refine jo_iload 1 d_X12_weekStep_50 rfl rfl ?_
    refine jo_bipush 23 d_X12_weekStep_51 (by decide) ?_
    refine jo_icmp_gt 69 d_X12_weekStep_53 (by decide) ?_ ?_
    · skip
      exact jO.sub (t_X12_weekStep_L69 hs n M) (And.intro rfl True.intro)
    · skip
      refine jo_iload 1 d_X12_weekStep_56 rfl rfl ?_
      refine jo_bipush 22 d_X12_weekStep_57 (by decide) ?_
      refine jo_icmp_ne 75 d_X12_weekStep_59 (by decide) ?_ ?_
      · skip
        exact jO.sub (t_X12_weekStep_L75 hs n v1 v2 v3 y1 M) (And.intro rfl (And.intro rfl (And.intro rfl (And.intro rfl (And.intro rfl True.intro)))))
      · skip
        refine jo_aload 0 d_X12_weekStep_62 rfl rfl ?_
        refine jo_getI (k := 22) cl_12 (Nat.le_of_ble_eq_true rfl) lk_X12_251 (Or.inl rfl) kc_167 d_X12_weekStep_63 ?_
        refine jo_if_ne 75 d_X12_weekStep_66 (by decide) ?_ ?_
        · skip
          exact jO.sub (t_X12_weekStep_L75 hs n v1 v2 v3 y1 M) (And.intro rfl (And.intro rfl (And.intro rfl (And.intro rfl (And.intro rfl True.intro)))))
        · skip
          exact jO.sub (t_X12_weekStep_L69 hs n M) (And.intro rfl True.intro)
def f_X12_weekStep_L37 (n : Nat) (v1 v2 v3 : Int) (M : JMem) : Option (Int × JMem) := f_X12_weekStep_L42 n v1 v2 v3 1 M
set_option maxRecDepth 4000 in
theorem t_X12_weekStep_L37 {g : JG} {ad : Nat → Nat} (hs : jStr g ad) (n : Nat) (v1 v2 v3 : Int) (M : JMem) : jB g D_X12_weekStep ad 37 [some (.ref 167), some (ji v1), some (ji v2), some (ji v3), none, none] [] M (f_X12_weekStep_L37 n v1 v2 v3 M) := by
  unfold f_X12_weekStep_L37
  refine jo_iconst 1 d_X12_weekStep_37 ?_
  refine jo_goto 42 d_X12_weekStep_38 (by decide) ?_
  exact jO.sub (t_X12_weekStep_L42 hs n v1 v2 v3 1 M) (And.intro rfl (And.intro rfl (And.intro rfl (And.intro rfl True.intro))))
def f_X12_weekStep (n : Nat) (M : JMem) : Option (Int × JMem) := bnd (f_X12_inWords n M) fun r1 M2 => letv r1 fun y3 => chk (jin 2023 3160) <| letv (M2 168 (jw 2023).toNat) fun y4 => letv (2152 + (6 * y4)) fun y5 => if jw y3 = jw 20 then (f_X12_weekStep_L37 n y3 y4 y5 M2) else (if jw y3 = jw 21 then (f_X12_weekStep_L37 n y3 y4 y5 M2) else (f_X12_weekStep_L42 n y3 y4 y5 0 M2))
set_option maxRecDepth 4000 in
theorem t_X12_weekStep {g : JG} {ad : Nat → Nat} (hs : jStr g ad) (n : Nat) (M : JMem) : jB g D_X12_weekStep ad 0 [some (.ref 167), none, none, none, none, none] [] M (f_X12_weekStep n M) := by
  unfold f_X12_weekStep
  refine jo_aload 0 d_X12_weekStep_0 rfl rfl ?_
  refine jo_ldcS hs d_X12_weekStep_1 ?_
  refine jo_callV (st := []) (m_X12_inWords hs n M) ok_X12_inWords (And.intro (Nat.le_of_ble_eq_true rfl) (Nat.le_of_ble_eq_true rfl)) lm_X12_172 in_X12_inWords se_X12_inWords rfl kc_167 rfl rfl (And.intro (Nat.zero_le _) (Nat.zero_le _)) rfl (Nat.le_of_ble_eq_true rfl) d_X12_weekStep_3 (fun r1 M2 => ?_)
  refine jo_istore 1 d_X12_weekStep_6 rfl (Nat.le_of_ble_eq_true rfl) (fun y3 => ?_)
  refine jo_aload 0 d_X12_weekStep_7 rfl rfl ?_
  refine jo_getR (k := 0) cl_12 (Nat.le_of_ble_eq_true rfl) lk_X12_7 rfl kc_167 kr_167_0 d_X12_weekStep_8 ?_
  refine jo_sipush 2023 d_X12_weekStep_11 (by decide) ?_
  refine jo_iald (N := 3160) kc_168 d_X12_weekStep_14 ?_
  refine jo_istore 2 d_X12_weekStep_15 rfl (Nat.le_of_ble_eq_true rfl) (fun y4 => ?_)
  refine jo_sipush 2152 d_X12_weekStep_16 (by decide) ?_
  refine jo_bipush 6 d_X12_weekStep_19 (by decide) ?_
  refine jo_iload 2 d_X12_weekStep_21 rfl rfl ?_
  refine jo_imul d_X12_weekStep_22 ?_
  refine jo_iadd d_X12_weekStep_23 ?_
  refine jo_istore 3 d_X12_weekStep_24 rfl (Nat.le_of_ble_eq_true rfl) (fun y5 => ?_)
  refine jo_iload 1 d_X12_weekStep_25 rfl rfl ?_
  refine jo_bipush 20 d_X12_weekStep_26 (by decide) ?_
  refine jo_icmp_eq 37 d_X12_weekStep_28 (by decide) ?_ ?_
  · skip
    exact jO.sub (t_X12_weekStep_L37 hs n y3 y4 y5 M2) (And.intro rfl (And.intro rfl (And.intro rfl (And.intro rfl True.intro))))
  · skip
    refine jo_iload 1 d_X12_weekStep_31 rfl rfl ?_
    refine jo_bipush 21 d_X12_weekStep_32 (by decide) ?_
    refine jo_icmp_ne 41 d_X12_weekStep_34 (by decide) ?_ ?_
    · skip
      refine jo_iconst 0 d_X12_weekStep_41 ?_
      exact jO.sub (t_X12_weekStep_L42 hs n y3 y4 y5 0 M2) (And.intro rfl (And.intro rfl (And.intro rfl (And.intro rfl True.intro))))
    · skip
      exact jO.sub (t_X12_weekStep_L37 hs n y3 y4 y5 M2) (And.intro rfl (And.intro rfl (And.intro rfl (And.intro rfl True.intro))))
theorem m_X12_weekStep {g : JG} {ad : Nat → Nat} (hs : jStr g ad) (n : Nat) (M : JMem) : jMet g jNN ad jR D_X12_weekStep yX12_weekStep [.ref 167] M (f_X12_weekStep n M) :=
  jMet.of (lo0 := [some (.ref 167), none, none, none, none, none]) (by decide) rfl rfl (Nat.le_of_ble_eq_true rfl) (And.intro rfl True.intro) (t_X12_weekStep hs n M)
/-! CageLeaveModel.weeks(I)I -/
def D_X12_weeks : JD := (RX12, cX12_weeks, 4, some .int, "weeks", { frames := 13, cells := 0, slots := 0, locals := 310 })
theorem ok_X12_weeks : jOk D_X12_weeks yX12_weeks 1 := ⟨jTW_mem (k := 1667) (by decide +kernel) rfl, jTW_mem (k := 151) (by decide +kernel) rfl, ⟨by decide +kernel, by decide +kernel⟩, by decide +kernel, rfl, rfl⟩
theorem in_X12_weeks : Cond.instanceMethod yX12_weeks ∈ jTW := jTW_mem (k := 1665) (by decide +kernel) rfl
theorem se_X12_weeks : Cond.selects yX12_weeks.cls yX12_weeks yX12_weeks ∈ jTW := jTW_mem (k := 1666) (by decide +kernel) rfl
theorem lm_X12_260 : Cond.methodLink RX12 260 yX12_weekStep ∈ jTW := jTW_mem (k := 1668) (by decide +kernel) rfl
theorem d_X12_weeks_0 : decode (D_X12_weeks).2.1 0 = .ok (.aload_n 0, 1) := by decide +kernel
theorem d_X12_weeks_1 : decode (D_X12_weeks).2.1 1 = .ok (.iload_n 1, 1) := by decide +kernel
theorem d_X12_weeks_2 : decode (D_X12_weeks).2.1 2 = .ok (.sipush 300, 3) := by decide +kernel
theorem d_X12_weeks_5 : decode (D_X12_weeks).2.1 5 = .ok (.invokevirtual 232, 3) := by decide +kernel
theorem d_X12_weeks_8 : decode (D_X12_weeks).2.1 8 = .ok (.ifCond .ne 9, 3) := by decide +kernel
theorem d_X12_weeks_11 : decode (D_X12_weeks).2.1 11 = .ok (.aload_n 0, 1) := by decide +kernel
theorem d_X12_weeks_12 : decode (D_X12_weeks).2.1 12 = .ok (.iconst 1, 1) := by decide +kernel
theorem d_X12_weeks_13 : decode (D_X12_weeks).2.1 13 = .ok (.invokevirtual 87, 3) := by decide +kernel
theorem d_X12_weeks_16 : decode (D_X12_weeks).2.1 16 = .ok (.ireturn, 1) := by decide +kernel
theorem d_X12_weeks_17 : decode (D_X12_weeks).2.1 17 = .ok (.aload_n 0, 1) := by decide +kernel
theorem d_X12_weeks_18 : decode (D_X12_weeks).2.1 18 = .ok (.getfield 7, 3) := by decide +kernel
theorem d_X12_weeks_21 : decode (D_X12_weeks).2.1 21 = .ok (.sipush 2023, 3) := by decide +kernel
theorem d_X12_weeks_24 : decode (D_X12_weeks).2.1 24 = .ok (.iconst 0, 1) := by decide +kernel
theorem d_X12_weeks_25 : decode (D_X12_weeks).2.1 25 = .ok (.iastore, 1) := by decide +kernel
theorem d_X12_weeks_26 : decode (D_X12_weeks).2.1 26 = .ok (.aload_n 0, 1) := by decide +kernel
theorem d_X12_weeks_27 : decode (D_X12_weeks).2.1 27 = .ok (.iconst 0, 1) := by decide +kernel
theorem d_X12_weeks_28 : decode (D_X12_weeks).2.1 28 = .ok (.putfield 251, 3) := by decide +kernel
theorem d_X12_weeks_31 : decode (D_X12_weeks).2.1 31 = .ok (.aload_n 0, 1) := by decide +kernel
theorem d_X12_weeks_32 : decode (D_X12_weeks).2.1 32 = .ok (.iconst 0, 1) := by decide +kernel
theorem d_X12_weeks_33 : decode (D_X12_weeks).2.1 33 = .ok (.putfield 254, 3) := by decide +kernel
theorem d_X12_weeks_36 : decode (D_X12_weeks).2.1 36 = .ok (.iconst 1, 1) := by decide +kernel
theorem d_X12_weeks_37 : decode (D_X12_weeks).2.1 37 = .ok (.istore_n 2, 1) := by decide +kernel
theorem d_X12_weeks_38 : decode (D_X12_weeks).2.1 38 = .ok (.iload_n 2, 1) := by decide +kernel
theorem d_X12_weeks_39 : decode (D_X12_weeks).2.1 39 = .ok (.ifCond .eq 18, 3) := by decide +kernel
theorem d_X12_weeks_42 : decode (D_X12_weeks).2.1 42 = .ok (.aload_n 0, 1) := by decide +kernel
theorem d_X12_weeks_43 : decode (D_X12_weeks).2.1 43 = .ok (.getfield 132, 3) := by decide +kernel
theorem d_X12_weeks_46 : decode (D_X12_weeks).2.1 46 = .ok (.ifCond .eq 11, 3) := by decide +kernel
theorem d_X12_weeks_49 : decode (D_X12_weeks).2.1 49 = .ok (.aload_n 0, 1) := by decide +kernel
theorem d_X12_weeks_50 : decode (D_X12_weeks).2.1 50 = .ok (.invokevirtual 260, 3) := by decide +kernel
theorem d_X12_weeks_53 : decode (D_X12_weeks).2.1 53 = .ok (.istore_n 2, 1) := by decide +kernel
theorem d_X12_weeks_54 : decode (D_X12_weeks).2.1 54 = .ok (.goto (-16), 3) := by decide +kernel
theorem d_X12_weeks_57 : decode (D_X12_weeks).2.1 57 = .ok (.aload_n 0, 1) := by decide +kernel
theorem d_X12_weeks_58 : decode (D_X12_weeks).2.1 58 = .ok (.getfield 157, 3) := by decide +kernel
theorem d_X12_weeks_61 : decode (D_X12_weeks).2.1 61 = .ok (.ifCond .ne 16, 3) := by decide +kernel
theorem d_X12_weeks_64 : decode (D_X12_weeks).2.1 64 = .ok (.aload_n 0, 1) := by decide +kernel
theorem d_X12_weeks_65 : decode (D_X12_weeks).2.1 65 = .ok (.getfield 251, 3) := by decide +kernel
theorem d_X12_weeks_68 : decode (D_X12_weeks).2.1 68 = .ok (.ifCond .le 9, 3) := by decide +kernel
theorem d_X12_weeks_71 : decode (D_X12_weeks).2.1 71 = .ok (.aload_n 0, 1) := by decide +kernel
theorem d_X12_weeks_72 : decode (D_X12_weeks).2.1 72 = .ok (.iconst 2, 1) := by decide +kernel
theorem d_X12_weeks_73 : decode (D_X12_weeks).2.1 73 = .ok (.invokevirtual 169, 3) := by decide +kernel
theorem d_X12_weeks_76 : decode (D_X12_weeks).2.1 76 = .ok (.pop, 1) := by decide +kernel
theorem d_X12_weeks_77 : decode (D_X12_weeks).2.1 77 = .ok (.aload_n 0, 1) := by decide +kernel
theorem d_X12_weeks_78 : decode (D_X12_weeks).2.1 78 = .ok (.getfield 157, 3) := by decide +kernel
theorem d_X12_weeks_81 : decode (D_X12_weeks).2.1 81 = .ok (.ifCond .ne 51, 3) := by decide +kernel
theorem d_X12_weeks_84 : decode (D_X12_weeks).2.1 84 = .ok (.aload_n 0, 1) := by decide +kernel
theorem d_X12_weeks_85 : decode (D_X12_weeks).2.1 85 = .ok (.getfield 7, 3) := by decide +kernel
theorem d_X12_weeks_88 : decode (D_X12_weeks).2.1 88 = .ok (.bipush 7, 2) := by decide +kernel
theorem d_X12_weeks_90 : decode (D_X12_weeks).2.1 90 = .ok (.aload_n 0, 1) := by decide +kernel
theorem d_X12_weeks_91 : decode (D_X12_weeks).2.1 91 = .ok (.getfield 7, 3) := by decide +kernel
theorem d_X12_weeks_94 : decode (D_X12_weeks).2.1 94 = .ok (.sipush 2023, 3) := by decide +kernel
theorem d_X12_weeks_97 : decode (D_X12_weeks).2.1 97 = .ok (.iaload, 1) := by decide +kernel
theorem d_X12_weeks_98 : decode (D_X12_weeks).2.1 98 = .ok (.iastore, 1) := by decide +kernel
theorem d_X12_weeks_99 : decode (D_X12_weeks).2.1 99 = .ok (.sipush 136, 3) := by decide +kernel
theorem d_X12_weeks_102 : decode (D_X12_weeks).2.1 102 = .ok (.istore_n 3, 1) := by decide +kernel
theorem d_X12_weeks_103 : decode (D_X12_weeks).2.1 103 = .ok (.iload_n 3, 1) := by decide +kernel
theorem d_X12_weeks_104 : decode (D_X12_weeks).2.1 104 = .ok (.sipush 496, 3) := by decide +kernel
theorem d_X12_weeks_107 : decode (D_X12_weeks).2.1 107 = .ok (.if_icmp .ge 25, 3) := by decide +kernel
theorem d_X12_weeks_110 : decode (D_X12_weeks).2.1 110 = .ok (.aload_n 0, 1) := by decide +kernel
theorem d_X12_weeks_111 : decode (D_X12_weeks).2.1 111 = .ok (.getfield 7, 3) := by decide +kernel
theorem d_X12_weeks_114 : decode (D_X12_weeks).2.1 114 = .ok (.iload_n 3, 1) := by decide +kernel
theorem d_X12_weeks_115 : decode (D_X12_weeks).2.1 115 = .ok (.aload_n 0, 1) := by decide +kernel
theorem d_X12_weeks_116 : decode (D_X12_weeks).2.1 116 = .ok (.getfield 7, 3) := by decide +kernel
theorem d_X12_weeks_119 : decode (D_X12_weeks).2.1 119 = .ok (.sipush 2016, 3) := by decide +kernel
theorem d_X12_weeks_122 : decode (D_X12_weeks).2.1 122 = .ok (.iload_n 3, 1) := by decide +kernel
theorem d_X12_weeks_123 : decode (D_X12_weeks).2.1 123 = .ok (.iadd, 1) := by decide +kernel
theorem d_X12_weeks_124 : decode (D_X12_weeks).2.1 124 = .ok (.iaload, 1) := by decide +kernel
theorem d_X12_weeks_125 : decode (D_X12_weeks).2.1 125 = .ok (.iastore, 1) := by decide +kernel
theorem d_X12_weeks_126 : decode (D_X12_weeks).2.1 126 = .ok (.iinc 3 1, 3) := by decide +kernel
theorem d_X12_weeks_129 : decode (D_X12_weeks).2.1 129 = .ok (.goto (-26), 3) := by decide +kernel
theorem d_X12_weeks_132 : decode (D_X12_weeks).2.1 132 = .ok (.aload_n 0, 1) := by decide +kernel
theorem d_X12_weeks_133 : decode (D_X12_weeks).2.1 133 = .ok (.aload_n 0, 1) := by decide +kernel
theorem d_X12_weeks_134 : decode (D_X12_weeks).2.1 134 = .ok (.getfield 254, 3) := by decide +kernel
theorem d_X12_weeks_137 : decode (D_X12_weeks).2.1 137 = .ok (.invokevirtual 239, 3) := by decide +kernel
theorem d_X12_weeks_140 : decode (D_X12_weeks).2.1 140 = .ok (.ireturn, 1) := by decide +kernel
def f_X12_weeks_L132 (n : Nat) (M : JMem) : Option (Int × JMem) := bnd (f_X12_taken n (M 167 23) M) fun r1 M2 => some (r1, M2)
set_option maxRecDepth 4000 in
theorem t_X12_weeks_L132 {g : JG} {ad : Nat → Nat} (hs : jStr g ad) (n : Nat) (M : JMem) : jB g D_X12_weeks ad 132 [some (.ref 167), none, none, none] [] M (f_X12_weeks_L132 n M) := by
  unfold f_X12_weeks_L132
  refine jo_aload 0 d_X12_weeks_132 rfl rfl ?_
  refine jo_aload 0 d_X12_weeks_133 rfl rfl ?_
  refine jo_getI (k := 23) cl_12 (Nat.le_of_ble_eq_true rfl) lk_X12_254 (Or.inl rfl) kc_167 d_X12_weeks_134 ?_
  refine jo_callV (st := []) (m_X12_taken hs n (M 167 23) M) ok_X12_taken (And.intro (Nat.le_of_ble_eq_true rfl) (Nat.le_of_ble_eq_true rfl)) lm_X12_239 in_X12_taken se_X12_taken rfl kc_167 rfl rfl (And.intro (Nat.zero_le _) (Nat.zero_le _)) rfl (Nat.le_of_ble_eq_true rfl) d_X12_weeks_137 (fun r1 M2 => ?_)
  exact jo_iret rfl d_X12_weeks_140
def f_X12_weeks_L103 (n : Nat) : Nat → Int → JMem → Option (Int × JMem)
  | 0, _, _ => none
  | k + 1, v3, M => if jw 496 ≤ jw v3 then (f_X12_weeks_L132 n M) else (chk (jin (2016 + v3) 3160) <| chk (jin v3 3160) <| letm (jup M 168 (jw v3).toNat (M 168 (jw (2016 + v3)).toNat)) fun M1 => letv (v3 + 1) fun y2 => (f_X12_weeks_L103 n k) y2 M1)
set_option maxRecDepth 4000 in
theorem t_X12_weeks_L103 {g : JG} {ad : Nat → Nat} (hs : jStr g ad) (n : Nat) : ∀ (k : Nat) (v3 : Int) (M : JMem), jB g D_X12_weeks ad 103 [some (.ref 167), none, none, some (ji v3)] [] M (f_X12_weeks_L103 n k v3 M) := by
  intro k
  induction k with
  | zero => intro v3 M; exact jO.none
  | succ k ih =>
    intro v3 M
    rw [f_X12_weeks_L103]
    refine jo_iload 3 d_X12_weeks_103 rfl rfl ?_
    refine jo_sipush 496 d_X12_weeks_104 (by decide) ?_
    refine jo_icmp_ge 132 d_X12_weeks_107 (by decide) ?_ ?_
    · skip
      exact jO.sub (t_X12_weeks_L132 hs n M) (And.intro rfl True.intro)
    · skip
      refine jo_aload 0 d_X12_weeks_110 rfl rfl ?_
      refine jo_getR (k := 0) cl_12 (Nat.le_of_ble_eq_true rfl) lk_X12_7 rfl kc_167 kr_167_0 d_X12_weeks_111 ?_
      refine jo_iload 3 d_X12_weeks_114 rfl rfl ?_
      refine jo_aload 0 d_X12_weeks_115 rfl rfl ?_
      refine jo_getR (k := 0) cl_12 (Nat.le_of_ble_eq_true rfl) lk_X12_7 rfl kc_167 kr_167_0 d_X12_weeks_116 ?_
      refine jo_sipush 2016 d_X12_weeks_119 (by decide) ?_
      refine jo_iload 3 d_X12_weeks_122 rfl rfl ?_
      refine jo_iadd d_X12_weeks_123 ?_
      refine jo_iald (N := 3160) kc_168 d_X12_weeks_124 ?_
      refine jo_iast (N := 3160) kc_168 d_X12_weeks_125 (fun M1 => ?_)
      refine jo_iinc 3 d_X12_weeks_126 rfl (Nat.le_of_ble_eq_true rfl) (fun y2 => ?_)
      refine jo_goto 103 d_X12_weeks_129 (by decide) ?_
      exact jO.sub (ih y2 M1) (And.intro rfl (And.intro rfl True.intro))
def f_X12_weeks_L77 (n : Nat) (M : JMem) : Option (Int × JMem) := if jw (M 167 18) = 0 then (chk (jin 2023 3160) <| chk (jin 7 3160) <| letm (jup M 168 (jw 7).toNat (M 168 (jw 2023).toNat)) fun M1 => letv 136 fun y2 => f_X12_weeks_L103 n n y2 M1) else (f_X12_weeks_L132 n M)
set_option maxRecDepth 4000 in
theorem t_X12_weeks_L77 {g : JG} {ad : Nat → Nat} (hs : jStr g ad) (n : Nat) (M : JMem) : jB g D_X12_weeks ad 77 [some (.ref 167), none, none, none] [] M (f_X12_weeks_L77 n M) := by
  unfold f_X12_weeks_L77
  refine jo_aload 0 d_X12_weeks_77 rfl rfl ?_
  refine jo_getI (k := 18) cl_12 (Nat.le_of_ble_eq_true rfl) lk_X12_157 (Or.inl rfl) kc_167 d_X12_weeks_78 ?_
  refine jo_if_ne 132 d_X12_weeks_81 (by decide) ?_ ?_
  · skip
    exact jO.sub (t_X12_weeks_L132 hs n M) (And.intro rfl True.intro)
  · skip
    refine jo_aload 0 d_X12_weeks_84 rfl rfl ?_
    refine jo_getR (k := 0) cl_12 (Nat.le_of_ble_eq_true rfl) lk_X12_7 rfl kc_167 kr_167_0 d_X12_weeks_85 ?_
    refine jo_bipush 7 d_X12_weeks_88 (by decide) ?_
    refine jo_aload 0 d_X12_weeks_90 rfl rfl ?_
    refine jo_getR (k := 0) cl_12 (Nat.le_of_ble_eq_true rfl) lk_X12_7 rfl kc_167 kr_167_0 d_X12_weeks_91 ?_
    refine jo_sipush 2023 d_X12_weeks_94 (by decide) ?_
    refine jo_iald (N := 3160) kc_168 d_X12_weeks_97 ?_
    refine jo_iast (N := 3160) kc_168 d_X12_weeks_98 (fun M1 => ?_)
    refine jo_sipush 136 d_X12_weeks_99 (by decide) ?_
    refine jo_istore 3 d_X12_weeks_102 rfl (Nat.le_of_ble_eq_true rfl) (fun y2 => ?_)
    exact jO.sub (t_X12_weeks_L103 hs n n y2 M1) (And.intro rfl (And.intro rfl True.intro))
def f_X12_weeks_L57 (n : Nat) (M : JMem) : Option (Int × JMem) := if jw (M 167 18) = 0 then (if jw (M 167 22) ≤ 0 then (f_X12_weeks_L77 n M) else (bnd (f_X12_fails n 2 M) fun r1 M2 => f_X12_weeks_L77 n M2)) else (f_X12_weeks_L77 n M)
set_option maxRecDepth 4000 in
theorem t_X12_weeks_L57 {g : JG} {ad : Nat → Nat} (hs : jStr g ad) (n : Nat) (M : JMem) : jB g D_X12_weeks ad 57 [some (.ref 167), none, none, none] [] M (f_X12_weeks_L57 n M) := by
  unfold f_X12_weeks_L57
  refine jo_aload 0 d_X12_weeks_57 rfl rfl ?_
  refine jo_getI (k := 18) cl_12 (Nat.le_of_ble_eq_true rfl) lk_X12_157 (Or.inl rfl) kc_167 d_X12_weeks_58 ?_
  refine jo_if_ne 77 d_X12_weeks_61 (by decide) ?_ ?_
  · skip
    exact jO.sub (t_X12_weeks_L77 hs n M) (And.intro rfl True.intro)
  · skip
    refine jo_aload 0 d_X12_weeks_64 rfl rfl ?_
    refine jo_getI (k := 22) cl_12 (Nat.le_of_ble_eq_true rfl) lk_X12_251 (Or.inl rfl) kc_167 d_X12_weeks_65 ?_
    refine jo_if_le 77 d_X12_weeks_68 (by decide) ?_ ?_
    · skip
      exact jO.sub (t_X12_weeks_L77 hs n M) (And.intro rfl True.intro)
    · skip
      refine jo_aload 0 d_X12_weeks_71 rfl rfl ?_
      refine jo_iconst 2 d_X12_weeks_72 ?_
      refine jo_callV (st := []) (m_X12_fails hs n 2 M) ok_X12_fails (And.intro (Nat.le_of_ble_eq_true rfl) (Nat.le_of_ble_eq_true rfl)) lm_X12_169 in_X12_fails se_X12_fails rfl kc_167 rfl rfl (And.intro (Nat.zero_le _) (Nat.zero_le _)) rfl (Nat.le_of_ble_eq_true rfl) d_X12_weeks_73 (fun r1 M2 => ?_)
      refine jo_pop d_X12_weeks_76 rfl ?_
      exact jO.sub (t_X12_weeks_L77 hs n M2) (And.intro rfl True.intro)
def f_X12_weeks_L38 (n : Nat) : Nat → Int → JMem → Option (Int × JMem)
  | 0, _, _ => none
  | k + 1, v2, M => if jw v2 = 0 then (f_X12_weeks_L57 n M) else (if jw (M 167 12) = 0 then (f_X12_weeks_L57 n M) else (bnd (f_X12_weekStep n M) fun r1 M2 => letv r1 fun y3 => (f_X12_weeks_L38 n k) y3 M2))
set_option maxRecDepth 4000 in
theorem t_X12_weeks_L38 {g : JG} {ad : Nat → Nat} (hs : jStr g ad) (n : Nat) : ∀ (k : Nat) (v2 : Int) (M : JMem), jB g D_X12_weeks ad 38 [some (.ref 167), none, some (ji v2), none] [] M (f_X12_weeks_L38 n k v2 M) := by
  intro k
  induction k with
  | zero => intro v2 M; exact jO.none
  | succ k ih =>
    intro v2 M
    rw [f_X12_weeks_L38]
    refine jo_iload 2 d_X12_weeks_38 rfl rfl ?_
    refine jo_if_eq 57 d_X12_weeks_39 (by decide) ?_ ?_
    · skip
      exact jO.sub (t_X12_weeks_L57 hs n M) (And.intro rfl True.intro)
    · skip
      refine jo_aload 0 d_X12_weeks_42 rfl rfl ?_
      refine jo_getI (k := 12) cl_12 (Nat.le_of_ble_eq_true rfl) lk_X12_132 (Or.inl rfl) kc_167 d_X12_weeks_43 ?_
      refine jo_if_eq 57 d_X12_weeks_46 (by decide) ?_ ?_
      · skip
        exact jO.sub (t_X12_weeks_L57 hs n M) (And.intro rfl True.intro)
      · skip
        refine jo_aload 0 d_X12_weeks_49 rfl rfl ?_
        refine jo_callV (st := []) (m_X12_weekStep hs n M) ok_X12_weekStep (And.intro (Nat.le_of_ble_eq_true rfl) (Nat.le_of_ble_eq_true rfl)) lm_X12_260 in_X12_weekStep se_X12_weekStep rfl kc_167 rfl rfl (And.intro (Nat.zero_le _) (Nat.zero_le _)) rfl (Nat.le_of_ble_eq_true rfl) d_X12_weeks_50 (fun r1 M2 => ?_)
        refine jo_istore 2 d_X12_weeks_53 rfl (Nat.le_of_ble_eq_true rfl) (fun y3 => ?_)
        refine jo_goto 38 d_X12_weeks_54 (by decide) ?_
        exact jO.sub (ih y3 M2) (And.intro rfl (And.intro rfl True.intro))
def f_X12_weeks (n : Nat) (x1 : Int) (M : JMem) : Option (Int × JMem) := bnd (f_X12_begins n x1 300 M) fun r1 M2 => if jw r1 = 0 then (bnd (f_X12_refuse n 1 M2) fun r7 M8 => some (r7, M8)) else (chk (jin 2023 3160) <| letm (jup M2 168 (jw 2023).toNat 0) fun M3 => letm (jup M3 167 22 0) fun M4 => letm (jup M4 167 23 0) fun M5 => letv 1 fun y6 => f_X12_weeks_L38 n n y6 M5)
set_option maxRecDepth 4000 in
theorem t_X12_weeks {g : JG} {ad : Nat → Nat} (hs : jStr g ad) (n : Nat) (x1 : Int) (M : JMem) : jB g D_X12_weeks ad 0 [some (.ref 167), some (ji x1), none, none] [] M (f_X12_weeks n x1 M) := by
  unfold f_X12_weeks
  refine jo_aload 0 d_X12_weeks_0 rfl rfl ?_
  refine jo_iload 1 d_X12_weeks_1 rfl rfl ?_
  refine jo_sipush 300 d_X12_weeks_2 (by decide) ?_
  refine jo_callV (st := []) (m_X12_begins hs n x1 300 M) ok_X12_begins (And.intro (Nat.le_of_ble_eq_true rfl) (Nat.le_of_ble_eq_true rfl)) lm_X12_232 in_X12_begins se_X12_begins rfl kc_167 rfl rfl (And.intro (Nat.zero_le _) (Nat.zero_le _)) rfl (Nat.le_of_ble_eq_true rfl) d_X12_weeks_5 (fun r1 M2 => ?_)
  refine jo_if_ne 17 d_X12_weeks_8 (by decide) ?_ ?_
  · skip
    refine jo_aload 0 d_X12_weeks_17 rfl rfl ?_
    refine jo_getR (k := 0) cl_12 (Nat.le_of_ble_eq_true rfl) lk_X12_7 rfl kc_167 kr_167_0 d_X12_weeks_18 ?_
    refine jo_sipush 2023 d_X12_weeks_21 (by decide) ?_
    refine jo_iconst 0 d_X12_weeks_24 ?_
    refine jo_iast (N := 3160) kc_168 d_X12_weeks_25 (fun M3 => ?_)
    refine jo_aload 0 d_X12_weeks_26 rfl rfl ?_
    refine jo_iconst 0 d_X12_weeks_27 ?_
    refine jo_putI (k := 22) cl_12 (Nat.le_of_ble_eq_true rfl) lk_X12_251 rfl rfl kc_167 d_X12_weeks_28 (fun M4 => ?_)
    refine jo_aload 0 d_X12_weeks_31 rfl rfl ?_
    refine jo_iconst 0 d_X12_weeks_32 ?_
    refine jo_putI (k := 23) cl_12 (Nat.le_of_ble_eq_true rfl) lk_X12_254 rfl rfl kc_167 d_X12_weeks_33 (fun M5 => ?_)
    refine jo_iconst 1 d_X12_weeks_36 ?_
    refine jo_istore 2 d_X12_weeks_37 rfl (Nat.le_of_ble_eq_true rfl) (fun y6 => ?_)
    exact jO.sub (t_X12_weeks_L38 hs n n y6 M5) (And.intro rfl (And.intro rfl True.intro))
  · skip
    refine jo_aload 0 d_X12_weeks_11 rfl rfl ?_
    refine jo_iconst 1 d_X12_weeks_12 ?_
    refine jo_callV (st := []) (m_X12_refuse hs n 1 M2) ok_X12_refuse (And.intro (Nat.le_of_ble_eq_true rfl) (Nat.le_of_ble_eq_true rfl)) lm_X12_87 in_X12_refuse se_X12_refuse rfl kc_167 rfl rfl (And.intro (Nat.zero_le _) (Nat.zero_le _)) rfl (Nat.le_of_ble_eq_true rfl) d_X12_weeks_13 (fun r7 M8 => ?_)
    exact jo_iret rfl d_X12_weeks_16
theorem m_X12_weeks {g : JG} {ad : Nat → Nat} (hs : jStr g ad) (n : Nat) (x1 : Int) (M : JMem) : jMet g jNN ad jR D_X12_weeks yX12_weeks [.ref 167, ji x1] M (f_X12_weeks n x1 M) :=
  jMet.of (lo0 := [some (.ref 167), some (ji x1), none, none]) (by decide) rfl rfl (Nat.le_of_ble_eq_true rfl) (And.intro rfl (And.intro rfl True.intro)) (t_X12_weeks hs n x1 M)
/-! CageLeaveModel.where(II)I -/
def D_X12_where : JD := (RX12, cX12_where, 3, some .int, "where", { frames := 9, cells := 0, slots := 0, locals := 195 })
theorem ok_X12_where : jOk D_X12_where yX12_where 2 := ⟨jTW_mem (k := 1862) (by decide +kernel) rfl, jTW_mem (k := 151) (by decide +kernel) rfl, ⟨by decide +kernel, by decide +kernel⟩, by decide +kernel, rfl, rfl⟩
theorem in_X12_where : Cond.instanceMethod yX12_where ∈ jTW := jTW_mem (k := 1860) (by decide +kernel) rfl
theorem se_X12_where : Cond.selects yX12_where.cls yX12_where yX12_where ∈ jTW := jTW_mem (k := 1861) (by decide +kernel) rfl
theorem d_X12_where_0 : decode (D_X12_where).2.1 0 = .ok (.aload_n 0, 1) := by decide +kernel
theorem d_X12_where_1 : decode (D_X12_where).2.1 1 = .ok (.iload_n 1, 1) := by decide +kernel
theorem d_X12_where_2 : decode (D_X12_where).2.1 2 = .ok (.invokevirtual 263, 3) := by decide +kernel
theorem d_X12_where_5 : decode (D_X12_where).2.1 5 = .ok (.ifCond .eq 21, 3) := by decide +kernel
theorem d_X12_where_8 : decode (D_X12_where).2.1 8 = .ok (.iload_n 2, 1) := by decide +kernel
theorem d_X12_where_9 : decode (D_X12_where).2.1 9 = .ok (.i2l, 1) := by decide +kernel
theorem d_X12_where_10 : decode (D_X12_where).2.1 10 = .ok (.aload_n 0, 1) := by decide +kernel
theorem d_X12_where_11 : decode (D_X12_where).2.1 11 = .ok (.getfield 7, 3) := by decide +kernel
theorem d_X12_where_14 : decode (D_X12_where).2.1 14 = .ok (.iconst 5, 1) := by decide +kernel
theorem d_X12_where_15 : decode (D_X12_where).2.1 15 = .ok (.iaload, 1) := by decide +kernel
theorem d_X12_where_16 : decode (D_X12_where).2.1 16 = .ok (.i2l, 1) := by decide +kernel
theorem d_X12_where_17 : decode (D_X12_where).2.1 17 = .ok (.ldc2_w 330, 3) := by decide +kernel
theorem d_X12_where_20 : decode (D_X12_where).2.1 20 = .ok (.invokestatic 266, 3) := by decide +kernel
theorem d_X12_where_23 : decode (D_X12_where).2.1 23 = .ok (.ifCond .ne 9, 3) := by decide +kernel
theorem d_X12_where_26 : decode (D_X12_where).2.1 26 = .ok (.aload_n 0, 1) := by decide +kernel
theorem d_X12_where_27 : decode (D_X12_where).2.1 27 = .ok (.iconst 1, 1) := by decide +kernel
theorem d_X12_where_28 : decode (D_X12_where).2.1 28 = .ok (.invokevirtual 87, 3) := by decide +kernel
theorem d_X12_where_31 : decode (D_X12_where).2.1 31 = .ok (.ireturn, 1) := by decide +kernel
theorem d_X12_where_32 : decode (D_X12_where).2.1 32 = .ok (.aload_n 0, 1) := by decide +kernel
theorem d_X12_where_33 : decode (D_X12_where).2.1 33 = .ok (.invokevirtual 363, 3) := by decide +kernel
theorem d_X12_where_36 : decode (D_X12_where).2.1 36 = .ok (.aload_n 0, 1) := by decide +kernel
theorem d_X12_where_37 : decode (D_X12_where).2.1 37 = .ok (.aload_n 0, 1) := by decide +kernel
theorem d_X12_where_38 : decode (D_X12_where).2.1 38 = .ok (.getfield 47, 3) := by decide +kernel
theorem d_X12_where_41 : decode (D_X12_where).2.1 41 = .ok (.bipush 8, 2) := by decide +kernel
theorem d_X12_where_43 : decode (D_X12_where).2.1 43 = .ok (.iload_n 2, 1) := by decide +kernel
theorem d_X12_where_44 : decode (D_X12_where).2.1 44 = .ok (.imul, 1) := by decide +kernel
theorem d_X12_where_45 : decode (D_X12_where).2.1 45 = .ok (.iload_n 1, 1) := by decide +kernel
theorem d_X12_where_46 : decode (D_X12_where).2.1 46 = .ok (.iadd, 1) := by decide +kernel
theorem d_X12_where_47 : decode (D_X12_where).2.1 47 = .ok (.iaload, 1) := by decide +kernel
theorem d_X12_where_48 : decode (D_X12_where).2.1 48 = .ok (.invokevirtual 303, 3) := by decide +kernel
theorem d_X12_where_51 : decode (D_X12_where).2.1 51 = .ok (.ireturn, 1) := by decide +kernel
def f_X12_where_L26 (n : Nat) (M : JMem) : Option (Int × JMem) := bnd (f_X12_refuse n 1 M) fun r1 M2 => some (r1, M2)
set_option maxRecDepth 4000 in
theorem t_X12_where_L26 {g : JG} {ad : Nat → Nat} (hs : jStr g ad) (n : Nat) (M : JMem) : jB g D_X12_where ad 26 [some (.ref 167), none, none] [] M (f_X12_where_L26 n M) := by
  unfold f_X12_where_L26
  refine jo_aload 0 d_X12_where_26 rfl rfl ?_
  refine jo_iconst 1 d_X12_where_27 ?_
  refine jo_callV (st := []) (m_X12_refuse hs n 1 M) ok_X12_refuse (And.intro (Nat.le_of_ble_eq_true rfl) (Nat.le_of_ble_eq_true rfl)) lm_X12_87 in_X12_refuse se_X12_refuse rfl kc_167 rfl rfl (And.intro (Nat.zero_le _) (Nat.zero_le _)) rfl (Nat.le_of_ble_eq_true rfl) d_X12_where_28 (fun r1 M2 => ?_)
  exact jo_iret rfl d_X12_where_31
def f_X12_where (n : Nat) (x1 : Int) (x2 : Int) (M : JMem) : Option (Int × JMem) := bnd (f_X12_isBeast n x1 M) fun r1 M2 => if jw r1 = 0 then (f_X12_where_L26 n M2) else (chk (jin 5 3160) <| bnd (f_X12_isFrom n (jw x2) (jw (M2 168 (jw 5).toNat)) 64 M2) fun r3 M4 => if jw r3 = 0 then (f_X12_where_L26 n M4) else (bnd (f_X12_laysWeek n M4) fun _ M6 => chk (jin ((8 * x2) + x1) 520) <| bnd (f_X12_orNone n (M6 176 (jw ((8 * x2) + x1)).toNat) M6) fun r7 M8 => some (r7, M8)))
set_option maxRecDepth 4000 in
theorem t_X12_where {g : JG} {ad : Nat → Nat} (hs : jStr g ad) (n : Nat) (x1 : Int) (x2 : Int) (M : JMem) : jB g D_X12_where ad 0 [some (.ref 167), some (ji x1), some (ji x2)] [] M (f_X12_where n x1 x2 M) := by
  unfold f_X12_where
  refine jo_aload 0 d_X12_where_0 rfl rfl ?_
  refine jo_iload 1 d_X12_where_1 rfl rfl ?_
  refine jo_callV (st := []) (m_X12_isBeast hs n x1 M) ok_X12_isBeast (And.intro (Nat.le_of_ble_eq_true rfl) (Nat.le_of_ble_eq_true rfl)) lm_X12_263 in_X12_isBeast se_X12_isBeast rfl kc_167 rfl rfl (And.intro (Nat.zero_le _) (Nat.zero_le _)) rfl (Nat.le_of_ble_eq_true rfl) d_X12_where_2 (fun r1 M2 => ?_)
  refine jo_if_eq 26 d_X12_where_5 (by decide) ?_ ?_
  · skip
    exact jO.sub (t_X12_where_L26 hs n M2) (And.intro rfl True.intro)
  · skip
    refine jo_iload 2 d_X12_where_8 rfl rfl ?_
    refine jo_i2l d_X12_where_9 ?_
    refine jo_aload 0 d_X12_where_10 rfl rfl ?_
    refine jo_getR (k := 0) cl_12 (Nat.le_of_ble_eq_true rfl) lk_X12_7 rfl kc_167 kr_167_0 d_X12_where_11 ?_
    refine jo_iconst 5 d_X12_where_14 ?_
    refine jo_iald (N := 3160) kc_168 d_X12_where_15 ?_
    refine jo_i2l d_X12_where_16 ?_
    refine jo_ldc2 64 lc_X12_330 d_X12_where_17 ?_
    refine jo_callS (st := []) (m_X12_isFrom hs n (jw x2) (jw (M2 168 (jw 5).toNat)) 64 M2) ok_X12_isFrom (And.intro (Nat.le_of_ble_eq_true rfl) (Nat.le_of_ble_eq_true rfl)) lm_X12_266 st_X12_isFrom rfl (And.intro (Nat.zero_le _) (Nat.zero_le _)) rfl (Nat.le_of_ble_eq_true rfl) d_X12_where_20 (fun r3 M4 => ?_)
    refine jo_if_ne 32 d_X12_where_23 (by decide) ?_ ?_
    · skip
      refine jo_aload 0 d_X12_where_32 rfl rfl ?_
      refine jo_callV (st := []) (m_X12_laysWeek hs n M4) ok_X12_laysWeek (And.intro (Nat.le_of_ble_eq_true rfl) (Nat.le_of_ble_eq_true rfl)) lm_X12_363 in_X12_laysWeek se_X12_laysWeek rfl kc_167 rfl rfl (And.intro (Nat.zero_le _) (Nat.zero_le _)) rfl (Nat.le_of_ble_eq_true rfl) d_X12_where_33 (fun _ M6 => ?_)
      refine jo_aload 0 d_X12_where_36 rfl rfl ?_
      refine jo_aload 0 d_X12_where_37 rfl rfl ?_
      refine jo_getR (k := 24) cl_12 (Nat.le_of_ble_eq_true rfl) lk_X12_47 rfl kc_167 kr_167_24 d_X12_where_38 ?_
      refine jo_bipush 8 d_X12_where_41 (by decide) ?_
      refine jo_iload 2 d_X12_where_43 rfl rfl ?_
      refine jo_imul d_X12_where_44 ?_
      refine jo_iload 1 d_X12_where_45 rfl rfl ?_
      refine jo_iadd d_X12_where_46 ?_
      refine jo_iald (N := 520) kc_176 d_X12_where_47 ?_
      refine jo_callV (st := []) (m_X12_orNone hs n (M6 176 (jw ((8 * x2) + x1)).toNat) M6) ok_X12_orNone (And.intro (Nat.le_of_ble_eq_true rfl) (Nat.le_of_ble_eq_true rfl)) lm_X12_303 in_X12_orNone se_X12_orNone rfl kc_167 rfl rfl (And.intro (Nat.zero_le _) (Nat.zero_le _)) rfl (Nat.le_of_ble_eq_true rfl) d_X12_where_48 (fun r7 M8 => ?_)
      exact jo_iret rfl d_X12_where_51
    · skip
      exact jO.sub (t_X12_where_L26 hs n M4) (And.intro rfl True.intro)
theorem m_X12_where {g : JG} {ad : Nat → Nat} (hs : jStr g ad) (n : Nat) (x1 : Int) (x2 : Int) (M : JMem) : jMet g jNN ad jR D_X12_where yX12_where [.ref 167, ji x1, ji x2] M (f_X12_where n x1 x2 M) :=
  jMet.of (lo0 := [some (.ref 167), some (ji x1), some (ji x2)]) (by decide) rfl rfl (Nat.le_of_ble_eq_true rfl) (And.intro rfl (And.intro rfl (And.intro rfl True.intro))) (t_X12_where hs n x1 x2 M)
/-! CageLeaveModel.wildest(I)I -/
def D_X12_wildest : JD := (RX12, cX12_wildest, 4, some .int, "wildest", { frames := 2, cells := 0, slots := 0, locals := 46 })
theorem ok_X12_wildest : jOk D_X12_wildest yX12_wildest 1 := ⟨jTW_mem (k := 1988) (by decide +kernel) rfl, jTW_mem (k := 151) (by decide +kernel) rfl, ⟨by decide +kernel, by decide +kernel⟩, by decide +kernel, rfl, rfl⟩
theorem in_X12_wildest : Cond.instanceMethod yX12_wildest ∈ jTW := jTW_mem (k := 1986) (by decide +kernel) rfl
theorem se_X12_wildest : Cond.selects yX12_wildest.cls yX12_wildest yX12_wildest ∈ jTW := jTW_mem (k := 1987) (by decide +kernel) rfl
theorem d_X12_wildest_0 : decode (D_X12_wildest).2.1 0 = .ok (.aload_n 0, 1) := by decide +kernel
theorem d_X12_wildest_1 : decode (D_X12_wildest).2.1 1 = .ok (.iload_n 1, 1) := by decide +kernel
theorem d_X12_wildest_2 : decode (D_X12_wildest).2.1 2 = .ok (.invokevirtual 366, 3) := by decide +kernel
theorem d_X12_wildest_5 : decode (D_X12_wildest).2.1 5 = .ok (.ifCond .ne 9, 3) := by decide +kernel
theorem d_X12_wildest_8 : decode (D_X12_wildest).2.1 8 = .ok (.aload_n 0, 1) := by decide +kernel
theorem d_X12_wildest_9 : decode (D_X12_wildest).2.1 9 = .ok (.iconst 1, 1) := by decide +kernel
theorem d_X12_wildest_10 : decode (D_X12_wildest).2.1 10 = .ok (.invokevirtual 87, 3) := by decide +kernel
theorem d_X12_wildest_13 : decode (D_X12_wildest).2.1 13 = .ok (.ireturn, 1) := by decide +kernel
theorem d_X12_wildest_14 : decode (D_X12_wildest).2.1 14 = .ok (.iconst (-1), 1) := by decide +kernel
theorem d_X12_wildest_15 : decode (D_X12_wildest).2.1 15 = .ok (.istore_n 2, 1) := by decide +kernel
theorem d_X12_wildest_16 : decode (D_X12_wildest).2.1 16 = .ok (.iconst 0, 1) := by decide +kernel
theorem d_X12_wildest_17 : decode (D_X12_wildest).2.1 17 = .ok (.istore_n 3, 1) := by decide +kernel
theorem d_X12_wildest_18 : decode (D_X12_wildest).2.1 18 = .ok (.iload_n 3, 1) := by decide +kernel
theorem d_X12_wildest_19 : decode (D_X12_wildest).2.1 19 = .ok (.aload_n 0, 1) := by decide +kernel
theorem d_X12_wildest_20 : decode (D_X12_wildest).2.1 20 = .ok (.getfield 7, 3) := by decide +kernel
theorem d_X12_wildest_23 : decode (D_X12_wildest).2.1 23 = .ok (.iconst 2, 1) := by decide +kernel
theorem d_X12_wildest_24 : decode (D_X12_wildest).2.1 24 = .ok (.iaload, 1) := by decide +kernel
theorem d_X12_wildest_25 : decode (D_X12_wildest).2.1 25 = .ok (.if_icmp .ge 40, 3) := by decide +kernel
theorem d_X12_wildest_28 : decode (D_X12_wildest).2.1 28 = .ok (.aload_n 0, 1) := by decide +kernel
theorem d_X12_wildest_29 : decode (D_X12_wildest).2.1 29 = .ok (.iload_n 1, 1) := by decide +kernel
theorem d_X12_wildest_30 : decode (D_X12_wildest).2.1 30 = .ok (.iload_n 3, 1) := by decide +kernel
theorem d_X12_wildest_31 : decode (D_X12_wildest).2.1 31 = .ok (.invokevirtual 315, 3) := by decide +kernel
theorem d_X12_wildest_34 : decode (D_X12_wildest).2.1 34 = .ok (.ifCond .eq 25, 3) := by decide +kernel
theorem d_X12_wildest_37 : decode (D_X12_wildest).2.1 37 = .ok (.iload_n 2, 1) := by decide +kernel
theorem d_X12_wildest_38 : decode (D_X12_wildest).2.1 38 = .ok (.iconst (-1), 1) := by decide +kernel
theorem d_X12_wildest_39 : decode (D_X12_wildest).2.1 39 = .ok (.if_icmp .eq 18, 3) := by decide +kernel
theorem d_X12_wildest_42 : decode (D_X12_wildest).2.1 42 = .ok (.aload_n 0, 1) := by decide +kernel
theorem d_X12_wildest_43 : decode (D_X12_wildest).2.1 43 = .ok (.iload_n 3, 1) := by decide +kernel
theorem d_X12_wildest_44 : decode (D_X12_wildest).2.1 44 = .ok (.iconst 1, 1) := by decide +kernel
theorem d_X12_wildest_45 : decode (D_X12_wildest).2.1 45 = .ok (.invokevirtual 276, 3) := by decide +kernel
theorem d_X12_wildest_48 : decode (D_X12_wildest).2.1 48 = .ok (.aload_n 0, 1) := by decide +kernel
theorem d_X12_wildest_49 : decode (D_X12_wildest).2.1 49 = .ok (.iload_n 2, 1) := by decide +kernel
theorem d_X12_wildest_50 : decode (D_X12_wildest).2.1 50 = .ok (.iconst 1, 1) := by decide +kernel
theorem d_X12_wildest_51 : decode (D_X12_wildest).2.1 51 = .ok (.invokevirtual 276, 3) := by decide +kernel
theorem d_X12_wildest_54 : decode (D_X12_wildest).2.1 54 = .ok (.if_icmp .ge 5, 3) := by decide +kernel
theorem d_X12_wildest_57 : decode (D_X12_wildest).2.1 57 = .ok (.iload_n 3, 1) := by decide +kernel
theorem d_X12_wildest_58 : decode (D_X12_wildest).2.1 58 = .ok (.istore_n 2, 1) := by decide +kernel
theorem d_X12_wildest_59 : decode (D_X12_wildest).2.1 59 = .ok (.iinc 3 1, 3) := by decide +kernel
theorem d_X12_wildest_62 : decode (D_X12_wildest).2.1 62 = .ok (.goto (-44), 3) := by decide +kernel
theorem d_X12_wildest_65 : decode (D_X12_wildest).2.1 65 = .ok (.aload_n 0, 1) := by decide +kernel
theorem d_X12_wildest_66 : decode (D_X12_wildest).2.1 66 = .ok (.iload_n 2, 1) := by decide +kernel
theorem d_X12_wildest_67 : decode (D_X12_wildest).2.1 67 = .ok (.invokevirtual 303, 3) := by decide +kernel
theorem d_X12_wildest_70 : decode (D_X12_wildest).2.1 70 = .ok (.ireturn, 1) := by decide +kernel
def f_X12_wildest_L59 (n : Nat) (r18 : Int → Int → Int → JMem → Option (Int × JMem)) (v1 v2 v3 : Int) (M : JMem) : Option (Int × JMem) := letv (v3 + 1) fun y1 => r18 v1 v2 y1 M
set_option maxRecDepth 4000 in
theorem t_X12_wildest_L59 {g : JG} {ad : Nat → Nat} (hs : jStr g ad) (n : Nat) (r18 : Int → Int → Int → JMem → Option (Int × JMem)) (hr18 : ∀ (v1 v2 v3 : Int) (M : JMem), jB g D_X12_wildest ad 18 [some (.ref 167), some (ji v1), some (ji v2), some (ji v3)] [] M (r18 v1 v2 v3 M)) (v1 v2 v3 : Int) (M : JMem) : jB g D_X12_wildest ad 59 [some (.ref 167), some (ji v1), some (ji v2), some (ji v3)] [] M (f_X12_wildest_L59 n r18 v1 v2 v3 M) := by
  unfold f_X12_wildest_L59
  refine jo_iinc 3 d_X12_wildest_59 rfl (Nat.le_of_ble_eq_true rfl) (fun y1 => ?_)
  refine jo_goto 18 d_X12_wildest_62 (by decide) ?_
  exact jO.sub (hr18 v1 v2 y1 M) (And.intro rfl (And.intro rfl (And.intro rfl (And.intro rfl True.intro))))
def f_X12_wildest_L57 (n : Nat) (r18 : Int → Int → Int → JMem → Option (Int × JMem)) (v1 v3 : Int) (M : JMem) : Option (Int × JMem) := letv v3 fun y1 => f_X12_wildest_L59 n r18 v1 y1 v3 M
set_option maxRecDepth 4000 in
theorem t_X12_wildest_L57 {g : JG} {ad : Nat → Nat} (hs : jStr g ad) (n : Nat) (r18 : Int → Int → Int → JMem → Option (Int × JMem)) (hr18 : ∀ (v1 v2 v3 : Int) (M : JMem), jB g D_X12_wildest ad 18 [some (.ref 167), some (ji v1), some (ji v2), some (ji v3)] [] M (r18 v1 v2 v3 M)) (v1 v3 : Int) (M : JMem) : jB g D_X12_wildest ad 57 [some (.ref 167), some (ji v1), none, some (ji v3)] [] M (f_X12_wildest_L57 n r18 v1 v3 M) := by
  unfold f_X12_wildest_L57
  refine jo_iload 3 d_X12_wildest_57 rfl rfl ?_
  refine jo_istore 2 d_X12_wildest_58 rfl (Nat.le_of_ble_eq_true rfl) (fun y1 => ?_)
  exact jO.sub (t_X12_wildest_L59 hs n r18 hr18 v1 y1 v3 M) (And.intro rfl (And.intro rfl (And.intro rfl (And.intro rfl True.intro))))
def f_X12_wildest_L65 (n : Nat) (v2 : Int) (M : JMem) : Option (Int × JMem) := bnd (f_X12_orNone n v2 M) fun r1 M2 => some (r1, M2)
set_option maxRecDepth 4000 in
theorem t_X12_wildest_L65 {g : JG} {ad : Nat → Nat} (hs : jStr g ad) (n : Nat) (v2 : Int) (M : JMem) : jB g D_X12_wildest ad 65 [some (.ref 167), none, some (ji v2), none] [] M (f_X12_wildest_L65 n v2 M) := by
  unfold f_X12_wildest_L65
  refine jo_aload 0 d_X12_wildest_65 rfl rfl ?_
  refine jo_iload 2 d_X12_wildest_66 rfl rfl ?_
  refine jo_callV (st := []) (m_X12_orNone hs n v2 M) ok_X12_orNone (And.intro (Nat.le_of_ble_eq_true rfl) (Nat.le_of_ble_eq_true rfl)) lm_X12_303 in_X12_orNone se_X12_orNone rfl kc_167 rfl rfl (And.intro (Nat.zero_le _) (Nat.zero_le _)) rfl (Nat.le_of_ble_eq_true rfl) d_X12_wildest_67 (fun r1 M2 => ?_)
  exact jo_iret rfl d_X12_wildest_70
def f_X12_wildest_L18 (n : Nat) : Nat → Int → Int → Int → JMem → Option (Int × JMem)
  | 0, _, _, _, _ => none
  | k + 1, v1, v2, v3, M => chk (jin 2 3160) <| if jw (M 168 (jw 2).toNat) ≤ jw v3 then (f_X12_wildest_L65 n v2 M) else (bnd (f_X12_isIn n v1 v3 M) fun r1 M2 => if jw r1 = 0 then (f_X12_wildest_L59 n (f_X12_wildest_L18 n k) v1 v2 v3 M2) else (if jw v2 = jw (-1) then (f_X12_wildest_L57 n (f_X12_wildest_L18 n k) v1 v3 M2) else (bnd (f_X12_beastOf n v3 1 M2) fun r3 M4 => bnd (f_X12_beastOf n v2 1 M4) fun r5 M6 => if jw r5 ≤ jw r3 then (f_X12_wildest_L59 n (f_X12_wildest_L18 n k) v1 v2 v3 M6) else (f_X12_wildest_L57 n (f_X12_wildest_L18 n k) v1 v3 M6))))
set_option maxRecDepth 4000 in
theorem t_X12_wildest_L18 {g : JG} {ad : Nat → Nat} (hs : jStr g ad) (n : Nat) : ∀ (k : Nat) (v1 v2 v3 : Int) (M : JMem), jB g D_X12_wildest ad 18 [some (.ref 167), some (ji v1), some (ji v2), some (ji v3)] [] M (f_X12_wildest_L18 n k v1 v2 v3 M) := by
  intro k
  induction k with
  | zero => intro v1 v2 v3 M; exact jO.none
  | succ k ih =>
    intro v1 v2 v3 M
    rw [f_X12_wildest_L18]
    refine jo_iload 3 d_X12_wildest_18 rfl rfl ?_
    refine jo_aload 0 d_X12_wildest_19 rfl rfl ?_
    refine jo_getR (k := 0) cl_12 (Nat.le_of_ble_eq_true rfl) lk_X12_7 rfl kc_167 kr_167_0 d_X12_wildest_20 ?_
    refine jo_iconst 2 d_X12_wildest_23 ?_
    refine jo_iald (N := 3160) kc_168 d_X12_wildest_24 ?_
    refine jo_icmp_ge 65 d_X12_wildest_25 (by decide) ?_ ?_
    · skip
      exact jO.sub (t_X12_wildest_L65 hs n v2 M) (And.intro rfl (And.intro rfl True.intro))
    · skip
      refine jo_aload 0 d_X12_wildest_28 rfl rfl ?_
      refine jo_iload 1 d_X12_wildest_29 rfl rfl ?_
      refine jo_iload 3 d_X12_wildest_30 rfl rfl ?_
      refine jo_callV (st := []) (m_X12_isIn hs n v1 v3 M) ok_X12_isIn (And.intro (Nat.le_of_ble_eq_true rfl) (Nat.le_of_ble_eq_true rfl)) lm_X12_315 in_X12_isIn se_X12_isIn rfl kc_167 rfl rfl (And.intro (Nat.zero_le _) (Nat.zero_le _)) rfl (Nat.le_of_ble_eq_true rfl) d_X12_wildest_31 (fun r1 M2 => ?_)
      refine jo_if_eq 59 d_X12_wildest_34 (by decide) ?_ ?_
      · skip
        exact jO.sub (t_X12_wildest_L59 hs n (f_X12_wildest_L18 n k) ih v1 v2 v3 M2) (And.intro rfl (And.intro rfl (And.intro rfl (And.intro rfl True.intro))))
      · skip
        refine jo_iload 2 d_X12_wildest_37 rfl rfl ?_
        refine jo_iconst (-1) d_X12_wildest_38 ?_
        refine jo_icmp_eq 57 d_X12_wildest_39 (by decide) ?_ ?_
        · skip
          exact jO.sub (t_X12_wildest_L57 hs n (f_X12_wildest_L18 n k) ih v1 v3 M2) (And.intro rfl (And.intro rfl (And.intro rfl True.intro)))
        · skip
          refine jo_aload 0 d_X12_wildest_42 rfl rfl ?_
          refine jo_iload 3 d_X12_wildest_43 rfl rfl ?_
          refine jo_iconst 1 d_X12_wildest_44 ?_
          refine jo_callV (st := []) (m_X12_beastOf hs n v3 1 M2) ok_X12_beastOf (And.intro (Nat.le_of_ble_eq_true rfl) (Nat.le_of_ble_eq_true rfl)) lm_X12_276 in_X12_beastOf se_X12_beastOf rfl kc_167 rfl rfl (And.intro (Nat.zero_le _) (Nat.zero_le _)) rfl (Nat.le_of_ble_eq_true rfl) d_X12_wildest_45 (fun r3 M4 => ?_)
          refine jo_aload 0 d_X12_wildest_48 rfl rfl ?_
          refine jo_iload 2 d_X12_wildest_49 rfl rfl ?_
          refine jo_iconst 1 d_X12_wildest_50 ?_
          refine jo_callV (st := [ji r3]) (m_X12_beastOf hs n v2 1 M4) ok_X12_beastOf (And.intro (Nat.le_of_ble_eq_true rfl) (Nat.le_of_ble_eq_true rfl)) lm_X12_276 in_X12_beastOf se_X12_beastOf rfl kc_167 rfl rfl (And.intro (Nat.zero_le _) (Nat.zero_le _)) rfl (Nat.le_of_ble_eq_true rfl) d_X12_wildest_51 (fun r5 M6 => ?_)
          refine jo_icmp_ge 59 d_X12_wildest_54 (by decide) ?_ ?_
          · skip
            exact jO.sub (t_X12_wildest_L59 hs n (f_X12_wildest_L18 n k) ih v1 v2 v3 M6) (And.intro rfl (And.intro rfl (And.intro rfl (And.intro rfl True.intro))))
          · skip
            exact jO.sub (t_X12_wildest_L57 hs n (f_X12_wildest_L18 n k) ih v1 v3 M6) (And.intro rfl (And.intro rfl (And.intro rfl True.intro)))
def f_X12_wildest (n : Nat) (x1 : Int) (M : JMem) : Option (Int × JMem) := bnd (f_X12_areBeasts n x1 M) fun r1 M2 => if jw r1 = 0 then (bnd (f_X12_refuse n 1 M2) fun r5 M6 => some (r5, M6)) else (letv (-1) fun y3 => letv 0 fun y4 => f_X12_wildest_L18 n n x1 y3 y4 M2)
set_option maxRecDepth 4000 in
theorem t_X12_wildest {g : JG} {ad : Nat → Nat} (hs : jStr g ad) (n : Nat) (x1 : Int) (M : JMem) : jB g D_X12_wildest ad 0 [some (.ref 167), some (ji x1), none, none] [] M (f_X12_wildest n x1 M) := by
  unfold f_X12_wildest
  refine jo_aload 0 d_X12_wildest_0 rfl rfl ?_
  refine jo_iload 1 d_X12_wildest_1 rfl rfl ?_
  refine jo_callV (st := []) (m_X12_areBeasts hs n x1 M) ok_X12_areBeasts (And.intro (Nat.le_of_ble_eq_true rfl) (Nat.le_of_ble_eq_true rfl)) lm_X12_366 in_X12_areBeasts se_X12_areBeasts rfl kc_167 rfl rfl (And.intro (Nat.zero_le _) (Nat.zero_le _)) rfl (Nat.le_of_ble_eq_true rfl) d_X12_wildest_2 (fun r1 M2 => ?_)
  refine jo_if_ne 14 d_X12_wildest_5 (by decide) ?_ ?_
  · skip
    refine jo_iconst (-1) d_X12_wildest_14 ?_
    refine jo_istore 2 d_X12_wildest_15 rfl (Nat.le_of_ble_eq_true rfl) (fun y3 => ?_)
    refine jo_iconst 0 d_X12_wildest_16 ?_
    refine jo_istore 3 d_X12_wildest_17 rfl (Nat.le_of_ble_eq_true rfl) (fun y4 => ?_)
    exact jO.sub (t_X12_wildest_L18 hs n n x1 y3 y4 M2) (And.intro rfl (And.intro rfl (And.intro rfl (And.intro rfl True.intro))))
  · skip
    refine jo_aload 0 d_X12_wildest_8 rfl rfl ?_
    refine jo_iconst 1 d_X12_wildest_9 ?_
    refine jo_callV (st := []) (m_X12_refuse hs n 1 M2) ok_X12_refuse (And.intro (Nat.le_of_ble_eq_true rfl) (Nat.le_of_ble_eq_true rfl)) lm_X12_87 in_X12_refuse se_X12_refuse rfl kc_167 rfl rfl (And.intro (Nat.zero_le _) (Nat.zero_le _)) rfl (Nat.le_of_ble_eq_true rfl) d_X12_wildest_10 (fun r5 M6 => ?_)
    exact jo_iret rfl d_X12_wildest_13
theorem m_X12_wildest {g : JG} {ad : Nat → Nat} (hs : jStr g ad) (n : Nat) (x1 : Int) (M : JMem) : jMet g jNN ad jR D_X12_wildest yX12_wildest [.ref 167, ji x1] M (f_X12_wildest n x1 M) :=
  jMet.of (lo0 := [some (.ref 167), some (ji x1), none, none]) (by decide) rfl rfl (Nat.le_of_ble_eq_true rfl) (And.intro rfl (And.intro rfl True.intro)) (t_X12_wildest hs n x1 M)
/-! CageLeaveModel.write(IIJ)Z -/
def D_X12_write : JD := (RX12, cX12_write, 6, some .boolean, "write", { frames := 2, cells := 0, slots := 0, locals := 42 })
theorem ok_X12_write : jOk D_X12_write yX12_write 3 := ⟨jTW_mem (k := 1520) (by decide +kernel) rfl, jTW_mem (k := 151) (by decide +kernel) rfl, ⟨by decide +kernel, by decide +kernel⟩, by decide +kernel, rfl, rfl⟩
theorem in_X12_write : Cond.instanceMethod yX12_write ∈ jTW := jTW_mem (k := 1518) (by decide +kernel) rfl
theorem se_X12_write : Cond.selects yX12_write.cls yX12_write yX12_write ∈ jTW := jTW_mem (k := 1519) (by decide +kernel) rfl
theorem d_X12_write_0 : decode (D_X12_write).2.1 0 = .ok (.aload_n 0, 1) := by decide +kernel
theorem d_X12_write_1 : decode (D_X12_write).2.1 1 = .ok (.iload_n 1, 1) := by decide +kernel
theorem d_X12_write_2 : decode (D_X12_write).2.1 2 = .ok (.iload_n 2, 1) := by decide +kernel
theorem d_X12_write_3 : decode (D_X12_write).2.1 3 = .ok (.invokevirtual 101, 3) := by decide +kernel
theorem d_X12_write_6 : decode (D_X12_write).2.1 6 = .ok (.istore 5, 2) := by decide +kernel
theorem d_X12_write_8 : decode (D_X12_write).2.1 8 = .ok (.iload 5, 2) := by decide +kernel
theorem d_X12_write_10 : decode (D_X12_write).2.1 10 = .ok (.ifCond .ne 24, 3) := by decide +kernel
theorem d_X12_write_13 : decode (D_X12_write).2.1 13 = .ok (.aload_n 0, 1) := by decide +kernel
theorem d_X12_write_14 : decode (D_X12_write).2.1 14 = .ok (.getfield 27, 3) := by decide +kernel
theorem d_X12_write_17 : decode (D_X12_write).2.1 17 = .ok (.bipush 60, 2) := by decide +kernel
theorem d_X12_write_19 : decode (D_X12_write).2.1 19 = .ok (.iload_n 1, 1) := by decide +kernel
theorem d_X12_write_20 : decode (D_X12_write).2.1 20 = .ok (.imul, 1) := by decide +kernel
theorem d_X12_write_21 : decode (D_X12_write).2.1 21 = .ok (.iload_n 2, 1) := by decide +kernel
theorem d_X12_write_22 : decode (D_X12_write).2.1 22 = .ok (.iadd, 1) := by decide +kernel
theorem d_X12_write_23 : decode (D_X12_write).2.1 23 = .ok (.lload_n 3, 1) := by decide +kernel
theorem d_X12_write_24 : decode (D_X12_write).2.1 24 = .ok (.aload_n 0, 1) := by decide +kernel
theorem d_X12_write_25 : decode (D_X12_write).2.1 25 = .ok (.getfield 21, 3) := by decide +kernel
theorem d_X12_write_28 : decode (D_X12_write).2.1 28 = .ok (.iload_n 1, 1) := by decide +kernel
theorem d_X12_write_29 : decode (D_X12_write).2.1 29 = .ok (.iaload, 1) := by decide +kernel
theorem d_X12_write_30 : decode (D_X12_write).2.1 30 = .ok (.invokestatic 105, 3) := by decide +kernel
theorem d_X12_write_33 : decode (D_X12_write).2.1 33 = .ok (.lastore, 1) := by decide +kernel
theorem d_X12_write_34 : decode (D_X12_write).2.1 34 = .ok (.aload_n 0, 1) := by decide +kernel
theorem d_X12_write_35 : decode (D_X12_write).2.1 35 = .ok (.iload 5, 2) := by decide +kernel
theorem d_X12_write_37 : decode (D_X12_write).2.1 37 = .ok (.invokevirtual 94, 3) := by decide +kernel
theorem d_X12_write_40 : decode (D_X12_write).2.1 40 = .ok (.ireturn, 1) := by decide +kernel
def f_X12_write_L34 (n : Nat) (v5 : Int) (M : JMem) : Option (Int × JMem) := bnd (f_X12_is n v5 M) fun r1 M2 => chk (jw r1 = 0 ∨ jw r1 = 1) (some (r1, M2))
set_option maxRecDepth 4000 in
theorem t_X12_write_L34 {g : JG} {ad : Nat → Nat} (hs : jStr g ad) (n : Nat) (v5 : Int) (M : JMem) : jB g D_X12_write ad 34 [some (.ref 167), none, none, none, none, some (ji v5)] [] M (f_X12_write_L34 n v5 M) := by
  unfold f_X12_write_L34
  refine jo_aload 0 d_X12_write_34 rfl rfl ?_
  refine jo_iloadW 5 d_X12_write_35 rfl ?_
  refine jo_callV (st := []) (m_X12_is hs n v5 M) ok_X12_is (And.intro (Nat.le_of_ble_eq_true rfl) (Nat.le_of_ble_eq_true rfl)) lm_X12_94 in_X12_is se_X12_is rfl kc_167 rfl rfl (And.intro (Nat.zero_le _) (Nat.zero_le _)) rfl (Nat.le_of_ble_eq_true rfl) d_X12_write_37 (fun r1 M2 => ?_)
  exact jo_zretq rfl d_X12_write_40
def f_X12_write (n : Nat) (x1 : Int) (x2 : Int) (x3 : Int) (M : JMem) : Option (Int × JMem) := bnd (f_X12_wrongPlace n x1 x2 M) fun r1 M2 => letv r1 fun y3 => if jw y3 = 0 then (chk (jin x1 4) <| bnd (f_X12_shrunk n x3 (M2 170 (jw x1).toNat) M2) fun r4 M5 => chk (jin ((60 * x1) + x2) 240) <| letm (jup M5 172 (jw ((60 * x1) + x2)).toNat r4) fun M6 => f_X12_write_L34 n y3 M6) else (f_X12_write_L34 n y3 M2)
set_option maxRecDepth 4000 in
theorem t_X12_write {g : JG} {ad : Nat → Nat} (hs : jStr g ad) (n : Nat) (x1 : Int) (x2 : Int) (x3 : Int) (M : JMem) : jB g D_X12_write ad 0 [some (.ref 167), some (ji x1), some (ji x2), some (jl x3), none, none] [] M (f_X12_write n x1 x2 x3 M) := by
  unfold f_X12_write
  refine jo_aload 0 d_X12_write_0 rfl rfl ?_
  refine jo_iload 1 d_X12_write_1 rfl rfl ?_
  refine jo_iload 2 d_X12_write_2 rfl rfl ?_
  refine jo_callV (st := []) (m_X12_wrongPlace hs n x1 x2 M) ok_X12_wrongPlace (And.intro (Nat.le_of_ble_eq_true rfl) (Nat.le_of_ble_eq_true rfl)) lm_X12_101 in_X12_wrongPlace se_X12_wrongPlace rfl kc_167 rfl rfl (And.intro (Nat.zero_le _) (Nat.zero_le _)) rfl (Nat.le_of_ble_eq_true rfl) d_X12_write_3 (fun r1 M2 => ?_)
  refine jo_istoreW 5 d_X12_write_6 (Nat.le_of_ble_eq_true rfl) (fun y3 => ?_)
  refine jo_iloadW 5 d_X12_write_8 rfl ?_
  refine jo_if_ne 34 d_X12_write_10 (by decide) ?_ ?_
  · skip
    exact jO.sub (t_X12_write_L34 hs n y3 M2) (And.intro rfl (And.intro rfl True.intro))
  · skip
    refine jo_aload 0 d_X12_write_13 rfl rfl ?_
    refine jo_getR (k := 7) cl_12 (Nat.le_of_ble_eq_true rfl) lk_X12_27 rfl kc_167 kr_167_7 d_X12_write_14 ?_
    refine jo_bipush 60 d_X12_write_17 (by decide) ?_
    refine jo_iload 1 d_X12_write_19 rfl rfl ?_
    refine jo_imul d_X12_write_20 ?_
    refine jo_iload 2 d_X12_write_21 rfl rfl ?_
    refine jo_iadd d_X12_write_22 ?_
    refine jo_lload 3 d_X12_write_23 rfl rfl ?_
    refine jo_aload 0 d_X12_write_24 rfl rfl ?_
    refine jo_getR (k := 5) cl_12 (Nat.le_of_ble_eq_true rfl) lk_X12_21 rfl kc_167 kr_167_5 d_X12_write_25 ?_
    refine jo_iload 1 d_X12_write_28 rfl rfl ?_
    refine jo_iald (N := 4) kc_170 d_X12_write_29 ?_
    refine jo_callS (st := [ji ((60 * x1) + x2), .ref 172]) (m_X12_shrunk hs n x3 (M2 170 (jw x1).toNat) M2) ok_X12_shrunk (And.intro (Nat.le_of_ble_eq_true rfl) (Nat.le_of_ble_eq_true rfl)) lm_X12_105 st_X12_shrunk rfl (And.intro (Nat.zero_le _) (Nat.zero_le _)) rfl (Nat.le_of_ble_eq_true rfl) d_X12_write_30 (fun r4 M5 => ?_)
    refine jo_last (N := 240) kc_172 d_X12_write_33 (fun M6 => ?_)
    exact jO.sub (t_X12_write_L34 hs n y3 M6) (And.intro rfl (And.intro rfl True.intro))
theorem m_X12_write {g : JG} {ad : Nat → Nat} (hs : jStr g ad) (n : Nat) (x1 : Int) (x2 : Int) (x3 : Int) (M : JMem) : jMet g jNN ad jR D_X12_write yX12_write [.ref 167, ji x1, ji x2, jl x3] M (f_X12_write n x1 x2 x3 M) :=
  jMet.of (lo0 := [some (.ref 167), some (ji x1), some (ji x2), some (jl x3), none, none]) (by decide) rfl rfl (Nat.le_of_ble_eq_true rfl) (And.intro rfl (And.intro rfl (And.intro rfl (And.intro rfl True.intro)))) (t_X12_write hs n x1 x2 x3 M)
end

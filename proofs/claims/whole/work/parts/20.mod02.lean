section
/-! CageLeaveModel.copyPlaces(I)I -/
def D_X12_copyPlaces : JD := (RX12, cX12_copyPlaces, 3, some .int, "copyPlaces", { frames := 4, cells := 0, slots := 0, locals := 84 })
theorem ok_X12_copyPlaces : jOk D_X12_copyPlaces yX12_copyPlaces 1 := ⟨jTW_mem (k := 2030) (by decide +kernel) rfl, jTW_mem (k := 151) (by decide +kernel) rfl, ⟨by decide +kernel, by decide +kernel⟩, by decide +kernel, rfl, rfl⟩
theorem in_X12_copyPlaces : Cond.instanceMethod yX12_copyPlaces ∈ jTW := jTW_mem (k := 2028) (by decide +kernel) rfl
theorem se_X12_copyPlaces : Cond.selects yX12_copyPlaces.cls yX12_copyPlaces yX12_copyPlaces ∈ jTW := jTW_mem (k := 2029) (by decide +kernel) rfl
theorem lk_X12_27 : Cond.fieldLink RX12 27 (TX12 7).1 (TX12 7).2.1 (TX12 7).2.2.1 ∈ jTW := jTW_mem (k := 1383) (by decide +kernel) rfl
theorem lk_X12_21 : Cond.fieldLink RX12 21 (TX12 5).1 (TX12 5).2.1 (TX12 5).2.2.1 ∈ jTW := jTW_mem (k := 1381) (by decide +kernel) rfl
theorem lm_X12_105 : Cond.methodLink RX12 105 yX12_shrunk ∈ jTW := jTW_mem (k := 1525) (by decide +kernel) rfl
theorem lm_X12_98 : Cond.methodLink RX12 98 yX12_isTray ∈ jTW := jTW_mem (k := 1510) (by decide +kernel) rfl
theorem lk_X12_24 : Cond.fieldLink RX12 24 (TX12 6).1 (TX12 6).2.1 (TX12 6).2.2.1 ∈ jTW := jTW_mem (k := 1382) (by decide +kernel) rfl
theorem d_X12_copyPlaces_0 : decode (D_X12_copyPlaces).2.1 0 = .ok (.iload_n 1, 1) := by decide +kernel
theorem d_X12_copyPlaces_1 : decode (D_X12_copyPlaces).2.1 1 = .ok (.invokestatic 98, 3) := by decide +kernel
theorem d_X12_copyPlaces_4 : decode (D_X12_copyPlaces).2.1 4 = .ok (.ifCond .ne 9, 3) := by decide +kernel
theorem d_X12_copyPlaces_7 : decode (D_X12_copyPlaces).2.1 7 = .ok (.aload_n 0, 1) := by decide +kernel
theorem d_X12_copyPlaces_8 : decode (D_X12_copyPlaces).2.1 8 = .ok (.iconst 1, 1) := by decide +kernel
theorem d_X12_copyPlaces_9 : decode (D_X12_copyPlaces).2.1 9 = .ok (.invokevirtual 87, 3) := by decide +kernel
theorem d_X12_copyPlaces_12 : decode (D_X12_copyPlaces).2.1 12 = .ok (.ireturn, 1) := by decide +kernel
theorem d_X12_copyPlaces_13 : decode (D_X12_copyPlaces).2.1 13 = .ok (.aload_n 0, 1) := by decide +kernel
theorem d_X12_copyPlaces_14 : decode (D_X12_copyPlaces).2.1 14 = .ok (.getfield 24, 3) := by decide +kernel
theorem d_X12_copyPlaces_17 : decode (D_X12_copyPlaces).2.1 17 = .ok (.iload_n 1, 1) := by decide +kernel
theorem d_X12_copyPlaces_18 : decode (D_X12_copyPlaces).2.1 18 = .ok (.iaload, 1) := by decide +kernel
theorem d_X12_copyPlaces_19 : decode (D_X12_copyPlaces).2.1 19 = .ok (.iconst (-1), 1) := by decide +kernel
theorem d_X12_copyPlaces_20 : decode (D_X12_copyPlaces).2.1 20 = .ok (.if_icmp .ne 9, 3) := by decide +kernel
theorem d_X12_copyPlaces_23 : decode (D_X12_copyPlaces).2.1 23 = .ok (.aload_n 0, 1) := by decide +kernel
theorem d_X12_copyPlaces_24 : decode (D_X12_copyPlaces).2.1 24 = .ok (.iconst 2, 1) := by decide +kernel
theorem d_X12_copyPlaces_25 : decode (D_X12_copyPlaces).2.1 25 = .ok (.invokevirtual 87, 3) := by decide +kernel
theorem d_X12_copyPlaces_28 : decode (D_X12_copyPlaces).2.1 28 = .ok (.ireturn, 1) := by decide +kernel
theorem d_X12_copyPlaces_29 : decode (D_X12_copyPlaces).2.1 29 = .ok (.aload_n 0, 1) := by decide +kernel
theorem d_X12_copyPlaces_30 : decode (D_X12_copyPlaces).2.1 30 = .ok (.getfield 24, 3) := by decide +kernel
theorem d_X12_copyPlaces_33 : decode (D_X12_copyPlaces).2.1 33 = .ok (.iload_n 1, 1) := by decide +kernel
theorem d_X12_copyPlaces_34 : decode (D_X12_copyPlaces).2.1 34 = .ok (.iaload, 1) := by decide +kernel
theorem d_X12_copyPlaces_35 : decode (D_X12_copyPlaces).2.1 35 = .ok (.aload_n 0, 1) := by decide +kernel
theorem d_X12_copyPlaces_36 : decode (D_X12_copyPlaces).2.1 36 = .ok (.getfield 7, 3) := by decide +kernel
theorem d_X12_copyPlaces_39 : decode (D_X12_copyPlaces).2.1 39 = .ok (.iconst 2, 1) := by decide +kernel
theorem d_X12_copyPlaces_40 : decode (D_X12_copyPlaces).2.1 40 = .ok (.iaload, 1) := by decide +kernel
theorem d_X12_copyPlaces_41 : decode (D_X12_copyPlaces).2.1 41 = .ok (.if_icmp .ge 9, 3) := by decide +kernel
theorem d_X12_copyPlaces_44 : decode (D_X12_copyPlaces).2.1 44 = .ok (.aload_n 0, 1) := by decide +kernel
theorem d_X12_copyPlaces_45 : decode (D_X12_copyPlaces).2.1 45 = .ok (.iconst 3, 1) := by decide +kernel
theorem d_X12_copyPlaces_46 : decode (D_X12_copyPlaces).2.1 46 = .ok (.invokevirtual 87, 3) := by decide +kernel
theorem d_X12_copyPlaces_49 : decode (D_X12_copyPlaces).2.1 49 = .ok (.ireturn, 1) := by decide +kernel
theorem d_X12_copyPlaces_50 : decode (D_X12_copyPlaces).2.1 50 = .ok (.iconst 0, 1) := by decide +kernel
theorem d_X12_copyPlaces_51 : decode (D_X12_copyPlaces).2.1 51 = .ok (.istore_n 2, 1) := by decide +kernel
theorem d_X12_copyPlaces_52 : decode (D_X12_copyPlaces).2.1 52 = .ok (.iload_n 2, 1) := by decide +kernel
theorem d_X12_copyPlaces_53 : decode (D_X12_copyPlaces).2.1 53 = .ok (.aload_n 0, 1) := by decide +kernel
theorem d_X12_copyPlaces_54 : decode (D_X12_copyPlaces).2.1 54 = .ok (.getfield 7, 3) := by decide +kernel
theorem d_X12_copyPlaces_57 : decode (D_X12_copyPlaces).2.1 57 = .ok (.iconst 2, 1) := by decide +kernel
theorem d_X12_copyPlaces_58 : decode (D_X12_copyPlaces).2.1 58 = .ok (.iaload, 1) := by decide +kernel
theorem d_X12_copyPlaces_59 : decode (D_X12_copyPlaces).2.1 59 = .ok (.if_icmp .ge 35, 3) := by decide +kernel
theorem d_X12_copyPlaces_62 : decode (D_X12_copyPlaces).2.1 62 = .ok (.aload_n 0, 1) := by decide +kernel
theorem d_X12_copyPlaces_63 : decode (D_X12_copyPlaces).2.1 63 = .ok (.getfield 27, 3) := by decide +kernel
theorem d_X12_copyPlaces_66 : decode (D_X12_copyPlaces).2.1 66 = .ok (.bipush 60, 2) := by decide +kernel
theorem d_X12_copyPlaces_68 : decode (D_X12_copyPlaces).2.1 68 = .ok (.iload_n 1, 1) := by decide +kernel
theorem d_X12_copyPlaces_69 : decode (D_X12_copyPlaces).2.1 69 = .ok (.imul, 1) := by decide +kernel
theorem d_X12_copyPlaces_70 : decode (D_X12_copyPlaces).2.1 70 = .ok (.iload_n 2, 1) := by decide +kernel
theorem d_X12_copyPlaces_71 : decode (D_X12_copyPlaces).2.1 71 = .ok (.iadd, 1) := by decide +kernel
theorem d_X12_copyPlaces_72 : decode (D_X12_copyPlaces).2.1 72 = .ok (.aload_n 0, 1) := by decide +kernel
theorem d_X12_copyPlaces_73 : decode (D_X12_copyPlaces).2.1 73 = .ok (.iload_n 2, 1) := by decide +kernel
theorem d_X12_copyPlaces_74 : decode (D_X12_copyPlaces).2.1 74 = .ok (.invokevirtual 282, 3) := by decide +kernel
theorem d_X12_copyPlaces_77 : decode (D_X12_copyPlaces).2.1 77 = .ok (.i2l, 1) := by decide +kernel
theorem d_X12_copyPlaces_78 : decode (D_X12_copyPlaces).2.1 78 = .ok (.aload_n 0, 1) := by decide +kernel
theorem d_X12_copyPlaces_79 : decode (D_X12_copyPlaces).2.1 79 = .ok (.getfield 21, 3) := by decide +kernel
theorem d_X12_copyPlaces_82 : decode (D_X12_copyPlaces).2.1 82 = .ok (.iload_n 1, 1) := by decide +kernel
theorem d_X12_copyPlaces_83 : decode (D_X12_copyPlaces).2.1 83 = .ok (.iaload, 1) := by decide +kernel
theorem d_X12_copyPlaces_84 : decode (D_X12_copyPlaces).2.1 84 = .ok (.invokestatic 105, 3) := by decide +kernel
theorem d_X12_copyPlaces_87 : decode (D_X12_copyPlaces).2.1 87 = .ok (.lastore, 1) := by decide +kernel
theorem d_X12_copyPlaces_88 : decode (D_X12_copyPlaces).2.1 88 = .ok (.iinc 2 1, 3) := by decide +kernel
theorem d_X12_copyPlaces_91 : decode (D_X12_copyPlaces).2.1 91 = .ok (.goto (-39), 3) := by decide +kernel
theorem d_X12_copyPlaces_94 : decode (D_X12_copyPlaces).2.1 94 = .ok (.aload_n 0, 1) := by decide +kernel
theorem d_X12_copyPlaces_95 : decode (D_X12_copyPlaces).2.1 95 = .ok (.aload_n 0, 1) := by decide +kernel
theorem d_X12_copyPlaces_96 : decode (D_X12_copyPlaces).2.1 96 = .ok (.getfield 7, 3) := by decide +kernel
theorem d_X12_copyPlaces_99 : decode (D_X12_copyPlaces).2.1 99 = .ok (.iconst 2, 1) := by decide +kernel
theorem d_X12_copyPlaces_100 : decode (D_X12_copyPlaces).2.1 100 = .ok (.iaload, 1) := by decide +kernel
theorem d_X12_copyPlaces_101 : decode (D_X12_copyPlaces).2.1 101 = .ok (.invokevirtual 91, 3) := by decide +kernel
theorem d_X12_copyPlaces_104 : decode (D_X12_copyPlaces).2.1 104 = .ok (.ireturn, 1) := by decide +kernel
def f_X12_copyPlaces_L94 (n : Nat) (M : JMem) : Option (Int × JMem) := chk (jin 2 3160) <| bnd (f_X12_gives n (M 168 (jw 2).toNat) M) fun r1 M2 => some (r1, M2)
set_option maxRecDepth 4000 in
theorem t_X12_copyPlaces_L94 {g : JG} {ad : Nat → Nat} (hs : jStr g ad) (n : Nat) (M : JMem) : jB g D_X12_copyPlaces ad 94 [some (.ref 167), none, none] [] M (f_X12_copyPlaces_L94 n M) := by
  unfold f_X12_copyPlaces_L94
  refine jo_aload 0 d_X12_copyPlaces_94 rfl rfl ?_
  refine jo_aload 0 d_X12_copyPlaces_95 rfl rfl ?_
  refine jo_getR (k := 0) cl_12 (Nat.le_of_ble_eq_true rfl) lk_X12_7 rfl kc_167 kr_167_0 d_X12_copyPlaces_96 ?_
  refine jo_iconst 2 d_X12_copyPlaces_99 ?_
  refine jo_iald (N := 3160) kc_168 d_X12_copyPlaces_100 ?_
  refine jo_callV (st := []) (m_X12_gives hs n (M 168 (jw 2).toNat) M) ok_X12_gives (And.intro (Nat.le_of_ble_eq_true rfl) (Nat.le_of_ble_eq_true rfl)) lm_X12_91 in_X12_gives se_X12_gives rfl kc_167 rfl rfl (And.intro (Nat.zero_le _) (Nat.zero_le _)) rfl (Nat.le_of_ble_eq_true rfl) d_X12_copyPlaces_101 (fun r1 M2 => ?_)
  exact jo_iret rfl d_X12_copyPlaces_104
def f_X12_copyPlaces_L52 (n : Nat) : Nat → Int → Int → JMem → Option (Int × JMem)
  | 0, _, _, _ => none
  | k + 1, v1, v2, M => chk (jin 2 3160) <| if jw (M 168 (jw 2).toNat) ≤ jw v2 then (f_X12_copyPlaces_L94 n M) else (bnd (f_X12_whereOf n v2 M) fun r1 M2 => chk (jin v1 4) <| bnd (f_X12_shrunk n (jw r1) (M2 170 (jw v1).toNat) M2) fun r3 M4 => chk (jin ((60 * v1) + v2) 240) <| letm (jup M4 172 (jw ((60 * v1) + v2)).toNat r3) fun M5 => letv (v2 + 1) fun y6 => (f_X12_copyPlaces_L52 n k) v1 y6 M5)
set_option maxRecDepth 4000 in
theorem t_X12_copyPlaces_L52 {g : JG} {ad : Nat → Nat} (hs : jStr g ad) (n : Nat) : ∀ (k : Nat) (v1 v2 : Int) (M : JMem), jB g D_X12_copyPlaces ad 52 [some (.ref 167), some (ji v1), some (ji v2)] [] M (f_X12_copyPlaces_L52 n k v1 v2 M) := by
  intro k
  induction k with
  | zero => intro v1 v2 M; exact jO.none
  | succ k ih =>
    intro v1 v2 M
    rw [f_X12_copyPlaces_L52]
    refine jo_iload 2 d_X12_copyPlaces_52 rfl rfl ?_
    refine jo_aload 0 d_X12_copyPlaces_53 rfl rfl ?_
    refine jo_getR (k := 0) cl_12 (Nat.le_of_ble_eq_true rfl) lk_X12_7 rfl kc_167 kr_167_0 d_X12_copyPlaces_54 ?_
    refine jo_iconst 2 d_X12_copyPlaces_57 ?_
    refine jo_iald (N := 3160) kc_168 d_X12_copyPlaces_58 ?_
    refine jo_icmp_ge 94 d_X12_copyPlaces_59 (by decide) ?_ ?_
    · skip
      exact jO.sub (t_X12_copyPlaces_L94 hs n M) (And.intro rfl True.intro)
    · skip
      refine jo_aload 0 d_X12_copyPlaces_62 rfl rfl ?_
      refine jo_getR (k := 7) cl_12 (Nat.le_of_ble_eq_true rfl) lk_X12_27 rfl kc_167 kr_167_7 d_X12_copyPlaces_63 ?_
      refine jo_bipush 60 d_X12_copyPlaces_66 (by decide) ?_
      refine jo_iload 1 d_X12_copyPlaces_68 rfl rfl ?_
      refine jo_imul d_X12_copyPlaces_69 ?_
      refine jo_iload 2 d_X12_copyPlaces_70 rfl rfl ?_
      refine jo_iadd d_X12_copyPlaces_71 ?_
      refine jo_aload 0 d_X12_copyPlaces_72 rfl rfl ?_
      refine jo_iload 2 d_X12_copyPlaces_73 rfl rfl ?_
      refine jo_callV (st := [ji ((60 * v1) + v2), .ref 172]) (m_X12_whereOf hs n v2 M) ok_X12_whereOf (And.intro (Nat.le_of_ble_eq_true rfl) (Nat.le_of_ble_eq_true rfl)) lm_X12_282 in_X12_whereOf se_X12_whereOf rfl kc_167 rfl rfl (And.intro (Nat.zero_le _) (Nat.zero_le _)) rfl (Nat.le_of_ble_eq_true rfl) d_X12_copyPlaces_74 (fun r1 M2 => ?_)
      refine jo_i2l d_X12_copyPlaces_77 ?_
      refine jo_aload 0 d_X12_copyPlaces_78 rfl rfl ?_
      refine jo_getR (k := 5) cl_12 (Nat.le_of_ble_eq_true rfl) lk_X12_21 rfl kc_167 kr_167_5 d_X12_copyPlaces_79 ?_
      refine jo_iload 1 d_X12_copyPlaces_82 rfl rfl ?_
      refine jo_iald (N := 4) kc_170 d_X12_copyPlaces_83 ?_
      refine jo_callS (st := [ji ((60 * v1) + v2), .ref 172]) (m_X12_shrunk hs n (jw r1) (M2 170 (jw v1).toNat) M2) ok_X12_shrunk (And.intro (Nat.le_of_ble_eq_true rfl) (Nat.le_of_ble_eq_true rfl)) lm_X12_105 st_X12_shrunk rfl (And.intro (Nat.zero_le _) (Nat.zero_le _)) rfl (Nat.le_of_ble_eq_true rfl) d_X12_copyPlaces_84 (fun r3 M4 => ?_)
      refine jo_last (N := 240) kc_172 d_X12_copyPlaces_87 (fun M5 => ?_)
      refine jo_iinc 2 d_X12_copyPlaces_88 rfl (Nat.le_of_ble_eq_true rfl) (fun y6 => ?_)
      refine jo_goto 52 d_X12_copyPlaces_91 (by decide) ?_
      exact jO.sub (ih v1 y6 M5) (And.intro rfl (And.intro rfl (And.intro rfl True.intro)))
def f_X12_copyPlaces (n : Nat) (x1 : Int) (M : JMem) : Option (Int × JMem) := bnd (f_X12_isTray n x1 M) fun r1 M2 => if jw r1 = 0 then (bnd (f_X12_refuse n 1 M2) fun r8 M9 => some (r8, M9)) else (chk (jin x1 4) <| if jw (M2 171 (jw x1).toNat) = jw (-1) then (bnd (f_X12_refuse n 2 M2) fun r6 M7 => some (r6, M7)) else (chk (jin x1 4) <| chk (jin 2 3160) <| if jw (M2 168 (jw 2).toNat) ≤ jw (M2 171 (jw x1).toNat) then (letv 0 fun y3 => f_X12_copyPlaces_L52 n n x1 y3 M2) else (bnd (f_X12_refuse n 3 M2) fun r4 M5 => some (r4, M5))))
set_option maxRecDepth 4000 in
theorem t_X12_copyPlaces {g : JG} {ad : Nat → Nat} (hs : jStr g ad) (n : Nat) (x1 : Int) (M : JMem) : jB g D_X12_copyPlaces ad 0 [some (.ref 167), some (ji x1), none] [] M (f_X12_copyPlaces n x1 M) := by
  unfold f_X12_copyPlaces
  refine jo_iload 1 d_X12_copyPlaces_0 rfl rfl ?_
  refine jo_callS (st := []) (m_X12_isTray hs n x1 M) ok_X12_isTray (And.intro (Nat.le_of_ble_eq_true rfl) (Nat.le_of_ble_eq_true rfl)) lm_X12_98 st_X12_isTray rfl (And.intro (Nat.zero_le _) (Nat.zero_le _)) rfl (Nat.le_of_ble_eq_true rfl) d_X12_copyPlaces_1 (fun r1 M2 => ?_)
  refine jo_if_ne 13 d_X12_copyPlaces_4 (by decide) ?_ ?_
  · skip
    refine jo_aload 0 d_X12_copyPlaces_13 rfl rfl ?_
    refine jo_getR (k := 6) cl_12 (Nat.le_of_ble_eq_true rfl) lk_X12_24 rfl kc_167 kr_167_6 d_X12_copyPlaces_14 ?_
    refine jo_iload 1 d_X12_copyPlaces_17 rfl rfl ?_
    refine jo_iald (N := 4) kc_171 d_X12_copyPlaces_18 ?_
    refine jo_iconst (-1) d_X12_copyPlaces_19 ?_
    refine jo_icmp_ne 29 d_X12_copyPlaces_20 (by decide) ?_ ?_
    · skip
      refine jo_aload 0 d_X12_copyPlaces_29 rfl rfl ?_
      refine jo_getR (k := 6) cl_12 (Nat.le_of_ble_eq_true rfl) lk_X12_24 rfl kc_167 kr_167_6 d_X12_copyPlaces_30 ?_
      refine jo_iload 1 d_X12_copyPlaces_33 rfl rfl ?_
      refine jo_iald (N := 4) kc_171 d_X12_copyPlaces_34 ?_
      refine jo_aload 0 d_X12_copyPlaces_35 rfl rfl ?_
      refine jo_getR (k := 0) cl_12 (Nat.le_of_ble_eq_true rfl) lk_X12_7 rfl kc_167 kr_167_0 d_X12_copyPlaces_36 ?_
      refine jo_iconst 2 d_X12_copyPlaces_39 ?_
      refine jo_iald (N := 3160) kc_168 d_X12_copyPlaces_40 ?_
      refine jo_icmp_ge 50 d_X12_copyPlaces_41 (by decide) ?_ ?_
      · skip
        refine jo_iconst 0 d_X12_copyPlaces_50 ?_
        refine jo_istore 2 d_X12_copyPlaces_51 rfl (Nat.le_of_ble_eq_true rfl) (fun y3 => ?_)
        exact jO.sub (t_X12_copyPlaces_L52 hs n n x1 y3 M2) (And.intro rfl (And.intro rfl (And.intro rfl True.intro)))
      · skip
        refine jo_aload 0 d_X12_copyPlaces_44 rfl rfl ?_
        refine jo_iconst 3 d_X12_copyPlaces_45 ?_
        refine jo_callV (st := []) (m_X12_refuse hs n 3 M2) ok_X12_refuse (And.intro (Nat.le_of_ble_eq_true rfl) (Nat.le_of_ble_eq_true rfl)) lm_X12_87 in_X12_refuse se_X12_refuse rfl kc_167 rfl rfl (And.intro (Nat.zero_le _) (Nat.zero_le _)) rfl (Nat.le_of_ble_eq_true rfl) d_X12_copyPlaces_46 (fun r4 M5 => ?_)
        exact jo_iret rfl d_X12_copyPlaces_49
    · skip
      refine jo_aload 0 d_X12_copyPlaces_23 rfl rfl ?_
      refine jo_iconst 2 d_X12_copyPlaces_24 ?_
      refine jo_callV (st := []) (m_X12_refuse hs n 2 M2) ok_X12_refuse (And.intro (Nat.le_of_ble_eq_true rfl) (Nat.le_of_ble_eq_true rfl)) lm_X12_87 in_X12_refuse se_X12_refuse rfl kc_167 rfl rfl (And.intro (Nat.zero_le _) (Nat.zero_le _)) rfl (Nat.le_of_ble_eq_true rfl) d_X12_copyPlaces_25 (fun r6 M7 => ?_)
      exact jo_iret rfl d_X12_copyPlaces_28
  · skip
    refine jo_aload 0 d_X12_copyPlaces_7 rfl rfl ?_
    refine jo_iconst 1 d_X12_copyPlaces_8 ?_
    refine jo_callV (st := []) (m_X12_refuse hs n 1 M2) ok_X12_refuse (And.intro (Nat.le_of_ble_eq_true rfl) (Nat.le_of_ble_eq_true rfl)) lm_X12_87 in_X12_refuse se_X12_refuse rfl kc_167 rfl rfl (And.intro (Nat.zero_le _) (Nat.zero_le _)) rfl (Nat.le_of_ble_eq_true rfl) d_X12_copyPlaces_9 (fun r8 M9 => ?_)
    exact jo_iret rfl d_X12_copyPlaces_12
theorem m_X12_copyPlaces {g : JG} {ad : Nat → Nat} (hs : jStr g ad) (n : Nat) (x1 : Int) (M : JMem) : jMet g jNN ad jR D_X12_copyPlaces yX12_copyPlaces [.ref 167, ji x1] M (f_X12_copyPlaces n x1 M) :=
  jMet.of (lo0 := [some (.ref 167), some (ji x1), none]) (by decide) rfl rfl (Nat.le_of_ble_eq_true rfl) (And.intro rfl (And.intro rfl True.intro)) (t_X12_copyPlaces hs n x1 M)
/-! CageLeaveModel.isPlace(I)Z -/
def D_X12_isPlace : JD := (RX12, cX12_isPlace, 2, some .boolean, "isPlace", { frames := 0, cells := 0, slots := 0, locals := 0 })
theorem ok_X12_isPlace : jOk D_X12_isPlace yX12_isPlace 1 := ⟨jTW_mem (k := 1761) (by decide +kernel) rfl, jTW_mem (k := 151) (by decide +kernel) rfl, ⟨by decide +kernel, by decide +kernel⟩, by decide +kernel, rfl, rfl⟩
theorem in_X12_isPlace : Cond.instanceMethod yX12_isPlace ∈ jTW := jTW_mem (k := 1760) (by decide +kernel) rfl
theorem se_X12_isPlace : Cond.selects yX12_isPlace.cls yX12_isPlace yX12_isPlace ∈ jTW := jTW_mem (k := 93) (by decide +kernel) rfl
theorem d_X12_isPlace_0 : decode (D_X12_isPlace).2.1 0 = .ok (.iload_n 1, 1) := by decide +kernel
theorem d_X12_isPlace_1 : decode (D_X12_isPlace).2.1 1 = .ok (.ifCond .lt 17, 3) := by decide +kernel
theorem d_X12_isPlace_4 : decode (D_X12_isPlace).2.1 4 = .ok (.iload_n 1, 1) := by decide +kernel
theorem d_X12_isPlace_5 : decode (D_X12_isPlace).2.1 5 = .ok (.aload_n 0, 1) := by decide +kernel
theorem d_X12_isPlace_6 : decode (D_X12_isPlace).2.1 6 = .ok (.getfield 7, 3) := by decide +kernel
theorem d_X12_isPlace_9 : decode (D_X12_isPlace).2.1 9 = .ok (.iconst 0, 1) := by decide +kernel
theorem d_X12_isPlace_10 : decode (D_X12_isPlace).2.1 10 = .ok (.iaload, 1) := by decide +kernel
theorem d_X12_isPlace_11 : decode (D_X12_isPlace).2.1 11 = .ok (.if_icmp .ge 7, 3) := by decide +kernel
theorem d_X12_isPlace_14 : decode (D_X12_isPlace).2.1 14 = .ok (.iconst 1, 1) := by decide +kernel
theorem d_X12_isPlace_15 : decode (D_X12_isPlace).2.1 15 = .ok (.goto 4, 3) := by decide +kernel
theorem d_X12_isPlace_18 : decode (D_X12_isPlace).2.1 18 = .ok (.iconst 0, 1) := by decide +kernel
theorem d_X12_isPlace_19 : decode (D_X12_isPlace).2.1 19 = .ok (.ireturn, 1) := by decide +kernel
def f_X12_isPlace (n : Nat) (x1 : Int) (M : JMem) : Option (Int × JMem) := if jw x1 < 0 then (some (0, M)) else (chk (jin 0 3160) <| if jw (M 168 (jw 0).toNat) ≤ jw x1 then (some (0, M)) else (some (1, M)))
set_option maxRecDepth 4000 in
theorem t_X12_isPlace {g : JG} {ad : Nat → Nat} (hs : jStr g ad) (n : Nat) (x1 : Int) (M : JMem) : jB g D_X12_isPlace ad 0 [some (.ref 167), some (ji x1)] [] M (f_X12_isPlace n x1 M) := by
  unfold f_X12_isPlace
  refine jo_iload 1 d_X12_isPlace_0 rfl rfl ?_
  refine jo_if_lt 18 d_X12_isPlace_1 (by decide) ?_ ?_
  · skip
    refine jo_iconst 0 d_X12_isPlace_18 ?_
    exact jo_zret rfl (by decide) d_X12_isPlace_19
  · skip
    refine jo_iload 1 d_X12_isPlace_4 rfl rfl ?_
    refine jo_aload 0 d_X12_isPlace_5 rfl rfl ?_
    refine jo_getR (k := 0) cl_12 (Nat.le_of_ble_eq_true rfl) lk_X12_7 rfl kc_167 kr_167_0 d_X12_isPlace_6 ?_
    refine jo_iconst 0 d_X12_isPlace_9 ?_
    refine jo_iald (N := 3160) kc_168 d_X12_isPlace_10 ?_
    refine jo_icmp_ge 18 d_X12_isPlace_11 (by decide) ?_ ?_
    · skip
      refine jo_iconst 0 d_X12_isPlace_18 ?_
      exact jo_zret rfl (by decide) d_X12_isPlace_19
    · skip
      refine jo_iconst 1 d_X12_isPlace_14 ?_
      refine jo_goto 19 d_X12_isPlace_15 (by decide) ?_
      exact jo_zret rfl (by decide) d_X12_isPlace_19
theorem m_X12_isPlace {g : JG} {ad : Nat → Nat} (hs : jStr g ad) (n : Nat) (x1 : Int) (M : JMem) : jMet g jNN ad jR D_X12_isPlace yX12_isPlace [.ref 167, ji x1] M (f_X12_isPlace n x1 M) :=
  jMet.of (lo0 := [some (.ref 167), some (ji x1)]) (by decide) rfl rfl (Nat.le_of_ble_eq_true rfl) (And.intro rfl (And.intro rfl True.intro)) (t_X12_isPlace hs n x1 M)
/-! CageLeaveModel.trainRow(I)I -/
def D_X12_trainRow : JD := (RX12, cX12_trainRow, 1, some .int, "trainRow", { frames := 0, cells := 0, slots := 0, locals := 0 })
theorem ok_X12_trainRow : jOk D_X12_trainRow yX12_trainRow 1 := ⟨jTW_mem (k := 1729) (by decide +kernel) rfl, jTW_mem (k := 151) (by decide +kernel) rfl, ⟨by decide +kernel, by decide +kernel⟩, by decide +kernel, rfl, rfl⟩
theorem st_X12_trainRow : Cond.static yX12_trainRow ∈ jTW := jTW_mem (k := 1728) (by decide +kernel) rfl
theorem d_X12_trainRow_0 : decode (D_X12_trainRow).2.1 0 = .ok (.bipush 8, 2) := by decide +kernel
theorem d_X12_trainRow_2 : decode (D_X12_trainRow).2.1 2 = .ok (.bipush 6, 2) := by decide +kernel
theorem d_X12_trainRow_4 : decode (D_X12_trainRow).2.1 4 = .ok (.iload_n 0, 1) := by decide +kernel
theorem d_X12_trainRow_5 : decode (D_X12_trainRow).2.1 5 = .ok (.imul, 1) := by decide +kernel
theorem d_X12_trainRow_6 : decode (D_X12_trainRow).2.1 6 = .ok (.iadd, 1) := by decide +kernel
theorem d_X12_trainRow_7 : decode (D_X12_trainRow).2.1 7 = .ok (.ireturn, 1) := by decide +kernel
def f_X12_trainRow (n : Nat) (x0 : Int) (M : JMem) : Option (Int × JMem) := some ((8 + (6 * x0)), M)
set_option maxRecDepth 4000 in
theorem t_X12_trainRow {g : JG} {ad : Nat → Nat} (hs : jStr g ad) (n : Nat) (x0 : Int) (M : JMem) : jB g D_X12_trainRow ad 0 [some (ji x0)] [] M (f_X12_trainRow n x0 M) := by
  unfold f_X12_trainRow
  refine jo_bipush 8 d_X12_trainRow_0 (by decide) ?_
  refine jo_bipush 6 d_X12_trainRow_2 (by decide) ?_
  refine jo_iload 0 d_X12_trainRow_4 rfl rfl ?_
  refine jo_imul d_X12_trainRow_5 ?_
  refine jo_iadd d_X12_trainRow_6 ?_
  exact jo_iret rfl d_X12_trainRow_7
theorem m_X12_trainRow {g : JG} {ad : Nat → Nat} (hs : jStr g ad) (n : Nat) (x0 : Int) (M : JMem) : jMet g jNN ad jR D_X12_trainRow yX12_trainRow [ji x0] M (f_X12_trainRow n x0 M) :=
  jMet.of (lo0 := [some (ji x0)]) (by decide) rfl rfl (Nat.le_of_ble_eq_true rfl) (And.intro rfl True.intro) (t_X12_trainRow hs n x0 M)
/-! CageLeaveModel.trainOf(II)I -/
def D_X12_trainOf : JD := (RX12, cX12_trainOf, 3, some .int, "trainOf", { frames := 1, cells := 0, slots := 0, locals := 20 })
theorem ok_X12_trainOf : jOk D_X12_trainOf yX12_trainOf 2 := ⟨jTW_mem (k := 1726) (by decide +kernel) rfl, jTW_mem (k := 151) (by decide +kernel) rfl, ⟨by decide +kernel, by decide +kernel⟩, by decide +kernel, rfl, rfl⟩
theorem in_X12_trainOf : Cond.instanceMethod yX12_trainOf ∈ jTW := jTW_mem (k := 1725) (by decide +kernel) rfl
theorem se_X12_trainOf : Cond.selects yX12_trainOf.cls yX12_trainOf yX12_trainOf ∈ jTW := jTW_mem (k := 89) (by decide +kernel) rfl
theorem lm_X12_273 : Cond.methodLink RX12 273 yX12_trainRow ∈ jTW := jTW_mem (k := 1727) (by decide +kernel) rfl
theorem d_X12_trainOf_0 : decode (D_X12_trainOf).2.1 0 = .ok (.aload_n 0, 1) := by decide +kernel
theorem d_X12_trainOf_1 : decode (D_X12_trainOf).2.1 1 = .ok (.getfield 7, 3) := by decide +kernel
theorem d_X12_trainOf_4 : decode (D_X12_trainOf).2.1 4 = .ok (.iload_n 1, 1) := by decide +kernel
theorem d_X12_trainOf_5 : decode (D_X12_trainOf).2.1 5 = .ok (.invokestatic 273, 3) := by decide +kernel
theorem d_X12_trainOf_8 : decode (D_X12_trainOf).2.1 8 = .ok (.iload_n 2, 1) := by decide +kernel
theorem d_X12_trainOf_9 : decode (D_X12_trainOf).2.1 9 = .ok (.iadd, 1) := by decide +kernel
theorem d_X12_trainOf_10 : decode (D_X12_trainOf).2.1 10 = .ok (.iaload, 1) := by decide +kernel
theorem d_X12_trainOf_11 : decode (D_X12_trainOf).2.1 11 = .ok (.ireturn, 1) := by decide +kernel
def f_X12_trainOf (n : Nat) (x1 : Int) (x2 : Int) (M : JMem) : Option (Int × JMem) := bnd (f_X12_trainRow n x1 M) fun r1 M2 => chk (jin (r1 + x2) 3160) <| some ((M2 168 (jw (r1 + x2)).toNat), M2)
set_option maxRecDepth 4000 in
theorem t_X12_trainOf {g : JG} {ad : Nat → Nat} (hs : jStr g ad) (n : Nat) (x1 : Int) (x2 : Int) (M : JMem) : jB g D_X12_trainOf ad 0 [some (.ref 167), some (ji x1), some (ji x2)] [] M (f_X12_trainOf n x1 x2 M) := by
  unfold f_X12_trainOf
  refine jo_aload 0 d_X12_trainOf_0 rfl rfl ?_
  refine jo_getR (k := 0) cl_12 (Nat.le_of_ble_eq_true rfl) lk_X12_7 rfl kc_167 kr_167_0 d_X12_trainOf_1 ?_
  refine jo_iload 1 d_X12_trainOf_4 rfl rfl ?_
  refine jo_callS (st := [.ref 168]) (m_X12_trainRow hs n x1 M) ok_X12_trainRow (And.intro (Nat.le_of_ble_eq_true rfl) (Nat.le_of_ble_eq_true rfl)) lm_X12_273 st_X12_trainRow rfl (And.intro (Nat.zero_le _) (Nat.zero_le _)) rfl (Nat.le_of_ble_eq_true rfl) d_X12_trainOf_5 (fun r1 M2 => ?_)
  refine jo_iload 2 d_X12_trainOf_8 rfl rfl ?_
  refine jo_iadd d_X12_trainOf_9 ?_
  refine jo_iald (N := 3160) kc_168 d_X12_trainOf_10 ?_
  exact jo_iret rfl d_X12_trainOf_11
theorem m_X12_trainOf {g : JG} {ad : Nat → Nat} (hs : jStr g ad) (n : Nat) (x1 : Int) (x2 : Int) (M : JMem) : jMet g jNN ad jR D_X12_trainOf yX12_trainOf [.ref 167, ji x1, ji x2] M (f_X12_trainOf n x1 x2 M) :=
  jMet.of (lo0 := [some (.ref 167), some (ji x1), some (ji x2)]) (by decide) rfl rfl (Nat.le_of_ble_eq_true rfl) (And.intro rfl (And.intro rfl (And.intro rfl True.intro))) (t_X12_trainOf hs n x1 x2 M)
/-! CageLeaveModel.halted()I -/
def D_X12_halted : JD := (RX12, cX12_halted, 3, some .int, "halted", { frames := 2, cells := 0, slots := 0, locals := 42 })
theorem ok_X12_halted : jOk D_X12_halted yX12_halted 0 := ⟨jTW_mem (k := 1722) (by decide +kernel) rfl, jTW_mem (k := 151) (by decide +kernel) rfl, ⟨by decide +kernel, by decide +kernel⟩, by decide +kernel, rfl, rfl⟩
theorem in_X12_halted : Cond.instanceMethod yX12_halted ∈ jTW := jTW_mem (k := 1721) (by decide +kernel) rfl
theorem se_X12_halted : Cond.selects yX12_halted.cls yX12_halted yX12_halted ∈ jTW := jTW_mem (k := 88) (by decide +kernel) rfl
theorem lm_X12_288 : Cond.methodLink RX12 288 yX12_trainOf ∈ jTW := jTW_mem (k := 1723) (by decide +kernel) rfl
theorem d_X12_halted_0 : decode (D_X12_halted).2.1 0 = .ok (.iconst 0, 1) := by decide +kernel
theorem d_X12_halted_1 : decode (D_X12_halted).2.1 1 = .ok (.istore_n 1, 1) := by decide +kernel
theorem d_X12_halted_2 : decode (D_X12_halted).2.1 2 = .ok (.iconst 0, 1) := by decide +kernel
theorem d_X12_halted_3 : decode (D_X12_halted).2.1 3 = .ok (.istore_n 2, 1) := by decide +kernel
theorem d_X12_halted_4 : decode (D_X12_halted).2.1 4 = .ok (.iload_n 2, 1) := by decide +kernel
theorem d_X12_halted_5 : decode (D_X12_halted).2.1 5 = .ok (.aload_n 0, 1) := by decide +kernel
theorem d_X12_halted_6 : decode (D_X12_halted).2.1 6 = .ok (.getfield 7, 3) := by decide +kernel
theorem d_X12_halted_9 : decode (D_X12_halted).2.1 9 = .ok (.iconst 1, 1) := by decide +kernel
theorem d_X12_halted_10 : decode (D_X12_halted).2.1 10 = .ok (.iaload, 1) := by decide +kernel
theorem d_X12_halted_11 : decode (D_X12_halted).2.1 11 = .ok (.if_icmp .ge 29, 3) := by decide +kernel
theorem d_X12_halted_14 : decode (D_X12_halted).2.1 14 = .ok (.iload_n 1, 1) := by decide +kernel
theorem d_X12_halted_15 : decode (D_X12_halted).2.1 15 = .ok (.aload_n 0, 1) := by decide +kernel
theorem d_X12_halted_16 : decode (D_X12_halted).2.1 16 = .ok (.iload_n 2, 1) := by decide +kernel
theorem d_X12_halted_17 : decode (D_X12_halted).2.1 17 = .ok (.iconst 5, 1) := by decide +kernel
theorem d_X12_halted_18 : decode (D_X12_halted).2.1 18 = .ok (.invokevirtual 288, 3) := by decide +kernel
theorem d_X12_halted_21 : decode (D_X12_halted).2.1 21 = .ok (.iconst 1, 1) := by decide +kernel
theorem d_X12_halted_22 : decode (D_X12_halted).2.1 22 = .ok (.if_icmp .ne 9, 3) := by decide +kernel
theorem d_X12_halted_25 : decode (D_X12_halted).2.1 25 = .ok (.iconst 1, 1) := by decide +kernel
theorem d_X12_halted_26 : decode (D_X12_halted).2.1 26 = .ok (.iload_n 2, 1) := by decide +kernel
theorem d_X12_halted_27 : decode (D_X12_halted).2.1 27 = .ok (.ishl, 1) := by decide +kernel
theorem d_X12_halted_28 : decode (D_X12_halted).2.1 28 = .ok (.goto 4, 3) := by decide +kernel
theorem d_X12_halted_31 : decode (D_X12_halted).2.1 31 = .ok (.iconst 0, 1) := by decide +kernel
theorem d_X12_halted_32 : decode (D_X12_halted).2.1 32 = .ok (.ior, 1) := by decide +kernel
theorem d_X12_halted_33 : decode (D_X12_halted).2.1 33 = .ok (.istore_n 1, 1) := by decide +kernel
theorem d_X12_halted_34 : decode (D_X12_halted).2.1 34 = .ok (.iinc 2 1, 3) := by decide +kernel
theorem d_X12_halted_37 : decode (D_X12_halted).2.1 37 = .ok (.goto (-33), 3) := by decide +kernel
theorem d_X12_halted_40 : decode (D_X12_halted).2.1 40 = .ok (.iload_n 1, 1) := by decide +kernel
theorem d_X12_halted_41 : decode (D_X12_halted).2.1 41 = .ok (.ireturn, 1) := by decide +kernel
def f_X12_halted_L32 (n : Nat) (r4 : Int → Int → JMem → Option (Int × JMem)) (v2 w0 w1 : Int) (M : JMem) : Option (Int × JMem) := letv (jor w0 w1) fun y1 => letv (v2 + 1) fun y2 => r4 y1 y2 M
set_option maxRecDepth 4000 in
theorem t_X12_halted_L32 {g : JG} {ad : Nat → Nat} (hs : jStr g ad) (n : Nat) (r4 : Int → Int → JMem → Option (Int × JMem)) (hr4 : ∀ (v1 v2 : Int) (M : JMem), jB g D_X12_halted ad 4 [some (.ref 167), some (ji v1), some (ji v2)] [] M (r4 v1 v2 M)) (v2 w0 w1 : Int) (M : JMem) : jB g D_X12_halted ad 32 [some (.ref 167), none, some (ji v2)] [ji w1, ji w0] M (f_X12_halted_L32 n r4 v2 w0 w1 M) := by
  unfold f_X12_halted_L32
  refine jo_ior d_X12_halted_32 ?_
  refine jo_istore 1 d_X12_halted_33 rfl (Nat.le_of_ble_eq_true rfl) (fun y1 => ?_)
  refine jo_iinc 2 d_X12_halted_34 rfl (Nat.le_of_ble_eq_true rfl) (fun y2 => ?_)
  refine jo_goto 4 d_X12_halted_37 (by decide) ?_
  exact jO.sub (hr4 y1 y2 M) (And.intro rfl (And.intro rfl (And.intro rfl True.intro)))
def f_X12_halted_L4 (n : Nat) : Nat → Int → Int → JMem → Option (Int × JMem)
  | 0, _, _, _ => none
  | k + 1, v1, v2, M => chk (jin 1 3160) <| if jw (M 168 (jw 1).toNat) ≤ jw v2 then (some (v1, M)) else (bnd (f_X12_trainOf n v2 5 M) fun r1 M2 => if jw r1 = jw 1 then (f_X12_halted_L32 n (f_X12_halted_L4 n k) v2 v1 (jshl 1 v2) M2) else (f_X12_halted_L32 n (f_X12_halted_L4 n k) v2 v1 0 M2))
set_option maxRecDepth 4000 in
theorem t_X12_halted_L4 {g : JG} {ad : Nat → Nat} (hs : jStr g ad) (n : Nat) : ∀ (k : Nat) (v1 v2 : Int) (M : JMem), jB g D_X12_halted ad 4 [some (.ref 167), some (ji v1), some (ji v2)] [] M (f_X12_halted_L4 n k v1 v2 M) := by
  intro k
  induction k with
  | zero => intro v1 v2 M; exact jO.none
  | succ k ih =>
    intro v1 v2 M
    rw [f_X12_halted_L4]
    refine jo_iload 2 d_X12_halted_4 rfl rfl ?_
    refine jo_aload 0 d_X12_halted_5 rfl rfl ?_
    refine jo_getR (k := 0) cl_12 (Nat.le_of_ble_eq_true rfl) lk_X12_7 rfl kc_167 kr_167_0 d_X12_halted_6 ?_
    refine jo_iconst 1 d_X12_halted_9 ?_
    refine jo_iald (N := 3160) kc_168 d_X12_halted_10 ?_
    refine jo_icmp_ge 40 d_X12_halted_11 (by decide) ?_ ?_
    · skip
      refine jo_iload 1 d_X12_halted_40 rfl rfl ?_
      exact jo_iret rfl d_X12_halted_41
    · skip
      refine jo_iload 1 d_X12_halted_14 rfl rfl ?_
      refine jo_aload 0 d_X12_halted_15 rfl rfl ?_
      refine jo_iload 2 d_X12_halted_16 rfl rfl ?_
      refine jo_iconst 5 d_X12_halted_17 ?_
      refine jo_callV (st := [ji v1]) (m_X12_trainOf hs n v2 5 M) ok_X12_trainOf (And.intro (Nat.le_of_ble_eq_true rfl) (Nat.le_of_ble_eq_true rfl)) lm_X12_288 in_X12_trainOf se_X12_trainOf rfl kc_167 rfl rfl (And.intro (Nat.zero_le _) (Nat.zero_le _)) rfl (Nat.le_of_ble_eq_true rfl) d_X12_halted_18 (fun r1 M2 => ?_)
      refine jo_iconst 1 d_X12_halted_21 ?_
      refine jo_icmp_ne 31 d_X12_halted_22 (by decide) ?_ ?_
      · skip
        refine jo_iconst 0 d_X12_halted_31 ?_
        exact jO.sub (t_X12_halted_L32 hs n (f_X12_halted_L4 n k) ih v2 v1 0 M2) (And.intro rfl (And.intro rfl True.intro))
      · skip
        refine jo_iconst 1 d_X12_halted_25 ?_
        refine jo_iload 2 d_X12_halted_26 rfl rfl ?_
        refine jo_ishl d_X12_halted_27 ?_
        refine jo_goto 32 d_X12_halted_28 (by decide) ?_
        exact jO.sub (t_X12_halted_L32 hs n (f_X12_halted_L4 n k) ih v2 v1 (jshl 1 v2) M2) (And.intro rfl (And.intro rfl True.intro))
def f_X12_halted (n : Nat) (M : JMem) : Option (Int × JMem) := letv 0 fun y1 => letv 0 fun y2 => f_X12_halted_L4 n n y1 y2 M
set_option maxRecDepth 4000 in
theorem t_X12_halted {g : JG} {ad : Nat → Nat} (hs : jStr g ad) (n : Nat) (M : JMem) : jB g D_X12_halted ad 0 [some (.ref 167), none, none] [] M (f_X12_halted n M) := by
  unfold f_X12_halted
  refine jo_iconst 0 d_X12_halted_0 ?_
  refine jo_istore 1 d_X12_halted_1 rfl (Nat.le_of_ble_eq_true rfl) (fun y1 => ?_)
  refine jo_iconst 0 d_X12_halted_2 ?_
  refine jo_istore 2 d_X12_halted_3 rfl (Nat.le_of_ble_eq_true rfl) (fun y2 => ?_)
  exact jO.sub (t_X12_halted_L4 hs n n y1 y2 M) (And.intro rfl (And.intro rfl (And.intro rfl True.intro)))
theorem m_X12_halted {g : JG} {ad : Nat → Nat} (hs : jStr g ad) (n : Nat) (M : JMem) : jMet g jNN ad jR D_X12_halted yX12_halted [.ref 167] M (f_X12_halted n M) :=
  jMet.of (lo0 := [some (.ref 167), none, none]) (by decide) rfl rfl (Nat.le_of_ble_eq_true rfl) (And.intro rfl True.intro) (t_X12_halted hs n M)
/-! CageLeaveModel.going()I -/
def D_X12_going : JD := (RX12, cX12_going, 1, some .int, "going", { frames := 3, cells := 0, slots := 0, locals := 64 })
theorem ok_X12_going : jOk D_X12_going yX12_going 0 := ⟨jTW_mem (k := 1930) (by decide +kernel) rfl, jTW_mem (k := 151) (by decide +kernel) rfl, ⟨by decide +kernel, by decide +kernel⟩, by decide +kernel, rfl, rfl⟩
theorem in_X12_going : Cond.instanceMethod yX12_going ∈ jTW := jTW_mem (k := 1929) (by decide +kernel) rfl
theorem se_X12_going : Cond.selects yX12_going.cls yX12_going yX12_going ∈ jTW := jTW_mem (k := 113) (by decide +kernel) rfl
theorem lm_X12_297 : Cond.methodLink RX12 297 yX12_halted ∈ jTW := jTW_mem (k := 1719) (by decide +kernel) rfl
theorem d_X12_going_0 : decode (D_X12_going).2.1 0 = .ok (.iconst 1, 1) := by decide +kernel
theorem d_X12_going_1 : decode (D_X12_going).2.1 1 = .ok (.aload_n 0, 1) := by decide +kernel
theorem d_X12_going_2 : decode (D_X12_going).2.1 2 = .ok (.getfield 7, 3) := by decide +kernel
theorem d_X12_going_5 : decode (D_X12_going).2.1 5 = .ok (.iconst 1, 1) := by decide +kernel
theorem d_X12_going_6 : decode (D_X12_going).2.1 6 = .ok (.iaload, 1) := by decide +kernel
theorem d_X12_going_7 : decode (D_X12_going).2.1 7 = .ok (.ishl, 1) := by decide +kernel
theorem d_X12_going_8 : decode (D_X12_going).2.1 8 = .ok (.iconst 1, 1) := by decide +kernel
theorem d_X12_going_9 : decode (D_X12_going).2.1 9 = .ok (.isub, 1) := by decide +kernel
theorem d_X12_going_10 : decode (D_X12_going).2.1 10 = .ok (.aload_n 0, 1) := by decide +kernel
theorem d_X12_going_11 : decode (D_X12_going).2.1 11 = .ok (.invokevirtual 297, 3) := by decide +kernel
theorem d_X12_going_14 : decode (D_X12_going).2.1 14 = .ok (.iconst (-1), 1) := by decide +kernel
theorem d_X12_going_15 : decode (D_X12_going).2.1 15 = .ok (.ixor, 1) := by decide +kernel
theorem d_X12_going_16 : decode (D_X12_going).2.1 16 = .ok (.iand, 1) := by decide +kernel
theorem d_X12_going_17 : decode (D_X12_going).2.1 17 = .ok (.ireturn, 1) := by decide +kernel
def f_X12_going (n : Nat) (M : JMem) : Option (Int × JMem) := chk (jin 1 3160) <| bnd (f_X12_halted n M) fun r1 M2 => some ((jand ((jshl 1 (M 168 (jw 1).toNat)) - 1) (jxor r1 (-1))), M2)
set_option maxRecDepth 4000 in
theorem t_X12_going {g : JG} {ad : Nat → Nat} (hs : jStr g ad) (n : Nat) (M : JMem) : jB g D_X12_going ad 0 [some (.ref 167)] [] M (f_X12_going n M) := by
  unfold f_X12_going
  refine jo_iconst 1 d_X12_going_0 ?_
  refine jo_aload 0 d_X12_going_1 rfl rfl ?_
  refine jo_getR (k := 0) cl_12 (Nat.le_of_ble_eq_true rfl) lk_X12_7 rfl kc_167 kr_167_0 d_X12_going_2 ?_
  refine jo_iconst 1 d_X12_going_5 ?_
  refine jo_iald (N := 3160) kc_168 d_X12_going_6 ?_
  refine jo_ishl d_X12_going_7 ?_
  refine jo_iconst 1 d_X12_going_8 ?_
  refine jo_isub d_X12_going_9 ?_
  refine jo_aload 0 d_X12_going_10 rfl rfl ?_
  refine jo_callV (st := [ji ((jshl 1 (M 168 (jw 1).toNat)) - 1)]) (m_X12_halted hs n M) ok_X12_halted (And.intro (Nat.le_of_ble_eq_true rfl) (Nat.le_of_ble_eq_true rfl)) lm_X12_297 in_X12_halted se_X12_halted rfl kc_167 rfl rfl (And.intro (Nat.zero_le _) (Nat.zero_le _)) rfl (Nat.le_of_ble_eq_true rfl) d_X12_going_11 (fun r1 M2 => ?_)
  refine jo_iconst (-1) d_X12_going_14 ?_
  refine jo_ixor d_X12_going_15 ?_
  refine jo_iand d_X12_going_16 ?_
  exact jo_iret rfl d_X12_going_17
theorem m_X12_going {g : JG} {ad : Nat → Nat} (hs : jStr g ad) (n : Nat) (M : JMem) : jMet g jNN ad jR D_X12_going yX12_going [.ref 167] M (f_X12_going n M) :=
  jMet.of (lo0 := [some (.ref 167)]) (by decide) rfl rfl (Nat.le_of_ble_eq_true rfl) (And.intro rfl True.intro) (t_X12_going hs n M)
/-! CageLeaveModel.laysSoon(III)V -/
def D_X12_laysSoon : JD := (RX12, cX12_laysSoon, 7, none, "laysSoon", { frames := 2, cells := 0, slots := 0, locals := 42 })
theorem ok_X12_laysSoon : jOk D_X12_laysSoon yX12_laysSoon 3 := ⟨jTW_mem (k := 1934) (by decide +kernel) rfl, jTW_mem (k := 151) (by decide +kernel) rfl, ⟨by decide +kernel, by decide +kernel⟩, by decide +kernel, rfl, rfl⟩
theorem in_X12_laysSoon : Cond.instanceMethod yX12_laysSoon ∈ jTW := jTW_mem (k := 1933) (by decide +kernel) rfl
theorem se_X12_laysSoon : Cond.selects yX12_laysSoon.cls yX12_laysSoon yX12_laysSoon ∈ jTW := jTW_mem (k := 114) (by decide +kernel) rfl
theorem lk_X12_56 : Cond.fieldLink RX12 56 (TX12 28).1 (TX12 28).2.1 (TX12 28).2.2.1 ∈ jTW := jTW_mem (k := 1404) (by decide +kernel) rfl
theorem lc_X12_375 : Cond.constant RX12 375 (Int32.ofInt 1000000) ∈ jTW := jTW_mem (k := 1935) (by decide +kernel) rfl
theorem d_X12_laysSoon_0 : decode (D_X12_laysSoon).2.1 0 = .ok (.iconst 0, 1) := by decide +kernel
theorem d_X12_laysSoon_1 : decode (D_X12_laysSoon).2.1 1 = .ok (.istore 4, 2) := by decide +kernel
theorem d_X12_laysSoon_3 : decode (D_X12_laysSoon).2.1 3 = .ok (.iload 4, 2) := by decide +kernel
theorem d_X12_laysSoon_5 : decode (D_X12_laysSoon).2.1 5 = .ok (.bipush 6, 2) := by decide +kernel
theorem d_X12_laysSoon_7 : decode (D_X12_laysSoon).2.1 7 = .ok (.if_icmp .ge 29, 3) := by decide +kernel
theorem d_X12_laysSoon_10 : decode (D_X12_laysSoon).2.1 10 = .ok (.aload_n 0, 1) := by decide +kernel
theorem d_X12_laysSoon_11 : decode (D_X12_laysSoon).2.1 11 = .ok (.getfield 56, 3) := by decide +kernel
theorem d_X12_laysSoon_14 : decode (D_X12_laysSoon).2.1 14 = .ok (.iload 4, 2) := by decide +kernel
theorem d_X12_laysSoon_16 : decode (D_X12_laysSoon).2.1 16 = .ok (.iload 4, 2) := by decide +kernel
theorem d_X12_laysSoon_18 : decode (D_X12_laysSoon).2.1 18 = .ok (.iload_n 1, 1) := by decide +kernel
theorem d_X12_laysSoon_19 : decode (D_X12_laysSoon).2.1 19 = .ok (.if_icmp .ne 7, 3) := by decide +kernel
theorem d_X12_laysSoon_22 : decode (D_X12_laysSoon).2.1 22 = .ok (.iload_n 2, 1) := by decide +kernel
theorem d_X12_laysSoon_23 : decode (D_X12_laysSoon).2.1 23 = .ok (.goto 6, 3) := by decide +kernel
theorem d_X12_laysSoon_26 : decode (D_X12_laysSoon).2.1 26 = .ok (.ldc_w 375, 3) := by decide +kernel
theorem d_X12_laysSoon_29 : decode (D_X12_laysSoon).2.1 29 = .ok (.iastore, 1) := by decide +kernel
theorem d_X12_laysSoon_30 : decode (D_X12_laysSoon).2.1 30 = .ok (.iinc 4 1, 3) := by decide +kernel
theorem d_X12_laysSoon_33 : decode (D_X12_laysSoon).2.1 33 = .ok (.goto (-30), 3) := by decide +kernel
theorem d_X12_laysSoon_36 : decode (D_X12_laysSoon).2.1 36 = .ok (.iconst 0, 1) := by decide +kernel
theorem d_X12_laysSoon_37 : decode (D_X12_laysSoon).2.1 37 = .ok (.istore 4, 2) := by decide +kernel
theorem d_X12_laysSoon_39 : decode (D_X12_laysSoon).2.1 39 = .ok (.iload 4, 2) := by decide +kernel
theorem d_X12_laysSoon_41 : decode (D_X12_laysSoon).2.1 41 = .ok (.bipush 6, 2) := by decide +kernel
theorem d_X12_laysSoon_43 : decode (D_X12_laysSoon).2.1 43 = .ok (.if_icmp .ge 117, 3) := by decide +kernel
theorem d_X12_laysSoon_46 : decode (D_X12_laysSoon).2.1 46 = .ok (.iconst 0, 1) := by decide +kernel
theorem d_X12_laysSoon_47 : decode (D_X12_laysSoon).2.1 47 = .ok (.istore 5, 2) := by decide +kernel
theorem d_X12_laysSoon_49 : decode (D_X12_laysSoon).2.1 49 = .ok (.iload 5, 2) := by decide +kernel
theorem d_X12_laysSoon_51 : decode (D_X12_laysSoon).2.1 51 = .ok (.aload_n 0, 1) := by decide +kernel
theorem d_X12_laysSoon_52 : decode (D_X12_laysSoon).2.1 52 = .ok (.getfield 7, 3) := by decide +kernel
theorem d_X12_laysSoon_55 : decode (D_X12_laysSoon).2.1 55 = .ok (.iconst 1, 1) := by decide +kernel
theorem d_X12_laysSoon_56 : decode (D_X12_laysSoon).2.1 56 = .ok (.iaload, 1) := by decide +kernel
theorem d_X12_laysSoon_57 : decode (D_X12_laysSoon).2.1 57 = .ok (.if_icmp .ge 97, 3) := by decide +kernel
theorem d_X12_laysSoon_60 : decode (D_X12_laysSoon).2.1 60 = .ok (.aload_n 0, 1) := by decide +kernel
theorem d_X12_laysSoon_61 : decode (D_X12_laysSoon).2.1 61 = .ok (.iload 5, 2) := by decide +kernel
theorem d_X12_laysSoon_63 : decode (D_X12_laysSoon).2.1 63 = .ok (.iconst 2, 1) := by decide +kernel
theorem d_X12_laysSoon_64 : decode (D_X12_laysSoon).2.1 64 = .ok (.invokevirtual 288, 3) := by decide +kernel
theorem d_X12_laysSoon_67 : decode (D_X12_laysSoon).2.1 67 = .ok (.aload_n 0, 1) := by decide +kernel
theorem d_X12_laysSoon_68 : decode (D_X12_laysSoon).2.1 68 = .ok (.iload 5, 2) := by decide +kernel
theorem d_X12_laysSoon_70 : decode (D_X12_laysSoon).2.1 70 = .ok (.iconst 3, 1) := by decide +kernel
theorem d_X12_laysSoon_71 : decode (D_X12_laysSoon).2.1 71 = .ok (.invokevirtual 288, 3) := by decide +kernel
theorem d_X12_laysSoon_74 : decode (D_X12_laysSoon).2.1 74 = .ok (.iadd, 1) := by decide +kernel
theorem d_X12_laysSoon_75 : decode (D_X12_laysSoon).2.1 75 = .ok (.istore 6, 2) := by decide +kernel
theorem d_X12_laysSoon_77 : decode (D_X12_laysSoon).2.1 77 = .ok (.aload_n 0, 1) := by decide +kernel
theorem d_X12_laysSoon_78 : decode (D_X12_laysSoon).2.1 78 = .ok (.iload_n 3, 1) := by decide +kernel
theorem d_X12_laysSoon_79 : decode (D_X12_laysSoon).2.1 79 = .ok (.iload 5, 2) := by decide +kernel
theorem d_X12_laysSoon_81 : decode (D_X12_laysSoon).2.1 81 = .ok (.invokevirtual 315, 3) := by decide +kernel
theorem d_X12_laysSoon_84 : decode (D_X12_laysSoon).2.1 84 = .ok (.ifCond .eq 64, 3) := by decide +kernel
theorem d_X12_laysSoon_87 : decode (D_X12_laysSoon).2.1 87 = .ok (.aload_n 0, 1) := by decide +kernel
theorem d_X12_laysSoon_88 : decode (D_X12_laysSoon).2.1 88 = .ok (.getfield 56, 3) := by decide +kernel
theorem d_X12_laysSoon_91 : decode (D_X12_laysSoon).2.1 91 = .ok (.aload_n 0, 1) := by decide +kernel
theorem d_X12_laysSoon_92 : decode (D_X12_laysSoon).2.1 92 = .ok (.iload 5, 2) := by decide +kernel
theorem d_X12_laysSoon_94 : decode (D_X12_laysSoon).2.1 94 = .ok (.iconst 0, 1) := by decide +kernel
theorem d_X12_laysSoon_95 : decode (D_X12_laysSoon).2.1 95 = .ok (.invokevirtual 288, 3) := by decide +kernel
theorem d_X12_laysSoon_98 : decode (D_X12_laysSoon).2.1 98 = .ok (.iaload, 1) := by decide +kernel
theorem d_X12_laysSoon_99 : decode (D_X12_laysSoon).2.1 99 = .ok (.aload_n 0, 1) := by decide +kernel
theorem d_X12_laysSoon_100 : decode (D_X12_laysSoon).2.1 100 = .ok (.iload 5, 2) := by decide +kernel
theorem d_X12_laysSoon_102 : decode (D_X12_laysSoon).2.1 102 = .ok (.iconst 2, 1) := by decide +kernel
theorem d_X12_laysSoon_103 : decode (D_X12_laysSoon).2.1 103 = .ok (.invokevirtual 288, 3) := by decide +kernel
theorem d_X12_laysSoon_106 : decode (D_X12_laysSoon).2.1 106 = .ok (.if_icmp .gt 42, 3) := by decide +kernel
theorem d_X12_laysSoon_109 : decode (D_X12_laysSoon).2.1 109 = .ok (.iload 6, 2) := by decide +kernel
theorem d_X12_laysSoon_111 : decode (D_X12_laysSoon).2.1 111 = .ok (.bipush 64, 2) := by decide +kernel
theorem d_X12_laysSoon_113 : decode (D_X12_laysSoon).2.1 113 = .ok (.if_icmp .le 6, 3) := by decide +kernel
theorem d_X12_laysSoon_116 : decode (D_X12_laysSoon).2.1 116 = .ok (.goto 32, 3) := by decide +kernel
theorem d_X12_laysSoon_119 : decode (D_X12_laysSoon).2.1 119 = .ok (.aload_n 0, 1) := by decide +kernel
theorem d_X12_laysSoon_120 : decode (D_X12_laysSoon).2.1 120 = .ok (.getfield 56, 3) := by decide +kernel
theorem d_X12_laysSoon_123 : decode (D_X12_laysSoon).2.1 123 = .ok (.aload_n 0, 1) := by decide +kernel
theorem d_X12_laysSoon_124 : decode (D_X12_laysSoon).2.1 124 = .ok (.iload 5, 2) := by decide +kernel
theorem d_X12_laysSoon_126 : decode (D_X12_laysSoon).2.1 126 = .ok (.iconst 1, 1) := by decide +kernel
theorem d_X12_laysSoon_127 : decode (D_X12_laysSoon).2.1 127 = .ok (.invokevirtual 288, 3) := by decide +kernel
theorem d_X12_laysSoon_130 : decode (D_X12_laysSoon).2.1 130 = .ok (.aload_n 0, 1) := by decide +kernel
theorem d_X12_laysSoon_131 : decode (D_X12_laysSoon).2.1 131 = .ok (.getfield 56, 3) := by decide +kernel
theorem d_X12_laysSoon_134 : decode (D_X12_laysSoon).2.1 134 = .ok (.aload_n 0, 1) := by decide +kernel
theorem d_X12_laysSoon_135 : decode (D_X12_laysSoon).2.1 135 = .ok (.iload 5, 2) := by decide +kernel
theorem d_X12_laysSoon_137 : decode (D_X12_laysSoon).2.1 137 = .ok (.iconst 1, 1) := by decide +kernel
theorem d_X12_laysSoon_138 : decode (D_X12_laysSoon).2.1 138 = .ok (.invokevirtual 288, 3) := by decide +kernel
theorem d_X12_laysSoon_141 : decode (D_X12_laysSoon).2.1 141 = .ok (.iaload, 1) := by decide +kernel
theorem d_X12_laysSoon_142 : decode (D_X12_laysSoon).2.1 142 = .ok (.iload 6, 2) := by decide +kernel
theorem d_X12_laysSoon_144 : decode (D_X12_laysSoon).2.1 144 = .ok (.invokestatic 142, 3) := by decide +kernel
theorem d_X12_laysSoon_147 : decode (D_X12_laysSoon).2.1 147 = .ok (.iastore, 1) := by decide +kernel
theorem d_X12_laysSoon_148 : decode (D_X12_laysSoon).2.1 148 = .ok (.iinc 5 1, 3) := by decide +kernel
theorem d_X12_laysSoon_151 : decode (D_X12_laysSoon).2.1 151 = .ok (.goto (-102), 3) := by decide +kernel
theorem d_X12_laysSoon_154 : decode (D_X12_laysSoon).2.1 154 = .ok (.iinc 4 1, 3) := by decide +kernel
theorem d_X12_laysSoon_157 : decode (D_X12_laysSoon).2.1 157 = .ok (.goto (-118), 3) := by decide +kernel
theorem d_X12_laysSoon_160 : decode (D_X12_laysSoon).2.1 160 = .ok (.return_, 1) := by decide +kernel
def f_X12_laysSoon_L29 (n : Nat) (r3 : Int → Int → Int → Int → JMem → Option (Int × JMem)) (v1 v2 v3 v4 w1 w2 : Int) (M : JMem) : Option (Int × JMem) := chk (jin w1 6) <| letm (jup M 179 (jw w1).toNat w2) fun M1 => letv (v4 + 1) fun y2 => r3 v1 v2 v3 y2 M1
set_option maxRecDepth 4000 in
theorem t_X12_laysSoon_L29 {g : JG} {ad : Nat → Nat} (hs : jStr g ad) (n : Nat) (r3 : Int → Int → Int → Int → JMem → Option (Int × JMem)) (hr3 : ∀ (v1 v2 v3 v4 : Int) (M : JMem), jB g D_X12_laysSoon ad 3 [some (.ref 167), some (ji v1), some (ji v2), some (ji v3), some (ji v4), none, none] [] M (r3 v1 v2 v3 v4 M)) (v1 v2 v3 v4 w1 w2 : Int) (M : JMem) : jB g D_X12_laysSoon ad 29 [some (.ref 167), some (ji v1), some (ji v2), some (ji v3), some (ji v4), none, none] [ji w2, ji w1, .ref 179] M (f_X12_laysSoon_L29 n r3 v1 v2 v3 v4 w1 w2 M) := by
  unfold f_X12_laysSoon_L29
  refine jo_iast (N := 6) kc_179 d_X12_laysSoon_29 (fun M1 => ?_)
  refine jo_iinc 4 d_X12_laysSoon_30 rfl (Nat.le_of_ble_eq_true rfl) (fun y2 => ?_)
  refine jo_goto 3 d_X12_laysSoon_33 (by decide) ?_
  exact jO.sub (hr3 v1 v2 v3 y2 M1) (And.intro rfl (And.intro rfl (And.intro rfl (And.intro rfl (And.intro rfl True.intro)))))
def f_X12_laysSoon_L148 (n : Nat) (r39 : Int → Int → JMem → Option (Int × JMem)) (r49 : Int → Int → Int → JMem → Option (Int × JMem)) (v3 v4 v5 : Int) (M : JMem) : Option (Int × JMem) := letv (v5 + 1) fun y1 => r49 v3 v4 y1 M
set_option maxRecDepth 4000 in
theorem t_X12_laysSoon_L148 {g : JG} {ad : Nat → Nat} (hs : jStr g ad) (n : Nat) (r39 : Int → Int → JMem → Option (Int × JMem)) (r49 : Int → Int → Int → JMem → Option (Int × JMem)) (hr39 : ∀ (v3 v4 : Int) (M : JMem), jB g D_X12_laysSoon ad 39 [some (.ref 167), none, none, some (ji v3), some (ji v4), none, none] [] M (r39 v3 v4 M)) (hr49 : ∀ (v3 v4 v5 : Int) (M : JMem), jB g D_X12_laysSoon ad 49 [some (.ref 167), none, none, some (ji v3), some (ji v4), some (ji v5), none] [] M (r49 v3 v4 v5 M)) (v3 v4 v5 : Int) (M : JMem) : jB g D_X12_laysSoon ad 148 [some (.ref 167), none, none, some (ji v3), some (ji v4), some (ji v5), none] [] M (f_X12_laysSoon_L148 n r39 r49 v3 v4 v5 M) := by
  unfold f_X12_laysSoon_L148
  refine jo_iinc 5 d_X12_laysSoon_148 rfl (Nat.le_of_ble_eq_true rfl) (fun y1 => ?_)
  refine jo_goto 49 d_X12_laysSoon_151 (by decide) ?_
  exact jO.sub (hr49 v3 v4 y1 M) (And.intro rfl (And.intro rfl (And.intro rfl (And.intro rfl True.intro))))
def f_X12_laysSoon_L154 (n : Nat) (r39 : Int → Int → JMem → Option (Int × JMem)) (v3 v4 : Int) (M : JMem) : Option (Int × JMem) := letv (v4 + 1) fun y1 => r39 v3 y1 M
set_option maxRecDepth 4000 in
theorem t_X12_laysSoon_L154 {g : JG} {ad : Nat → Nat} (hs : jStr g ad) (n : Nat) (r39 : Int → Int → JMem → Option (Int × JMem)) (hr39 : ∀ (v3 v4 : Int) (M : JMem), jB g D_X12_laysSoon ad 39 [some (.ref 167), none, none, some (ji v3), some (ji v4), none, none] [] M (r39 v3 v4 M)) (v3 v4 : Int) (M : JMem) : jB g D_X12_laysSoon ad 154 [some (.ref 167), none, none, some (ji v3), some (ji v4), none, none] [] M (f_X12_laysSoon_L154 n r39 v3 v4 M) := by
  unfold f_X12_laysSoon_L154
  refine jo_iinc 4 d_X12_laysSoon_154 rfl (Nat.le_of_ble_eq_true rfl) (fun y1 => ?_)
  refine jo_goto 39 d_X12_laysSoon_157 (by decide) ?_
  exact jO.sub (hr39 v3 y1 M) (And.intro rfl (And.intro rfl (And.intro rfl True.intro)))
def f_X12_laysSoon_L49 (n : Nat) (r39 : Int → Int → JMem → Option (Int × JMem)) : Nat → Int → Int → Int → JMem → Option (Int × JMem)
  | 0, _, _, _, _ => none
  | k + 1, v3, v4, v5, M => chk (jin 1 3160) <| if jw (M 168 (jw 1).toNat) ≤ jw v5 then (f_X12_laysSoon_L154 n r39 v3 v4 M) else (bnd (f_X12_trainOf n v5 2 M) fun r1 M2 => bnd (f_X12_trainOf n v5 3 M2) fun r3 M4 => letv (r1 + r3) fun y5 => bnd (f_X12_isIn n v3 v5 M4) fun r6 M7 => if jw r6 = 0 then (f_X12_laysSoon_L148 n r39 (f_X12_laysSoon_L49 n r39 k) v3 v4 v5 M7) else (bnd (f_X12_trainOf n v5 0 M7) fun r8 M9 => chk (jin r8 6) <| bnd (f_X12_trainOf n v5 2 M9) fun r10 M11 => if jw r10 < jw (M9 179 (jw r8).toNat) then (f_X12_laysSoon_L148 n r39 (f_X12_laysSoon_L49 n r39 k) v3 v4 v5 M11) else (if jw y5 ≤ jw 64 then (bnd (f_X12_trainOf n v5 1 M11) fun r12 M13 => bnd (f_X12_trainOf n v5 1 M13) fun r14 M15 => chk (jin r14 6) <| chk (jin r12 6) <| letm (jup M15 179 (jw r12).toNat (jmin (M15 179 (jw r14).toNat) y5)) fun M16 => f_X12_laysSoon_L148 n r39 (f_X12_laysSoon_L49 n r39 k) v3 v4 v5 M16) else (f_X12_laysSoon_L148 n r39 (f_X12_laysSoon_L49 n r39 k) v3 v4 v5 M11))))
set_option maxRecDepth 4000 in
theorem t_X12_laysSoon_L49 {g : JG} {ad : Nat → Nat} (hs : jStr g ad) (n : Nat) (r39 : Int → Int → JMem → Option (Int × JMem)) (hr39 : ∀ (v3 v4 : Int) (M : JMem), jB g D_X12_laysSoon ad 39 [some (.ref 167), none, none, some (ji v3), some (ji v4), none, none] [] M (r39 v3 v4 M)) : ∀ (k : Nat) (v3 v4 v5 : Int) (M : JMem), jB g D_X12_laysSoon ad 49 [some (.ref 167), none, none, some (ji v3), some (ji v4), some (ji v5), none] [] M (f_X12_laysSoon_L49 n r39 k v3 v4 v5 M) := by
  intro k
  induction k with
  | zero => intro v3 v4 v5 M; exact jO.none
  | succ k ih =>
    intro v3 v4 v5 M
    rw [f_X12_laysSoon_L49]
    refine jo_iloadW 5 d_X12_laysSoon_49 rfl ?_
    refine jo_aload 0 d_X12_laysSoon_51 rfl rfl ?_
    refine jo_getR (k := 0) cl_12 (Nat.le_of_ble_eq_true rfl) lk_X12_7 rfl kc_167 kr_167_0 d_X12_laysSoon_52 ?_
    refine jo_iconst 1 d_X12_laysSoon_55 ?_
    refine jo_iald (N := 3160) kc_168 d_X12_laysSoon_56 ?_
    refine jo_icmp_ge 154 d_X12_laysSoon_57 (by decide) ?_ ?_
    · skip
      exact jO.sub (t_X12_laysSoon_L154 hs n r39 hr39 v3 v4 M) (And.intro rfl (And.intro rfl (And.intro rfl True.intro)))
    · skip
      refine jo_aload 0 d_X12_laysSoon_60 rfl rfl ?_
      refine jo_iloadW 5 d_X12_laysSoon_61 rfl ?_
      refine jo_iconst 2 d_X12_laysSoon_63 ?_
      refine jo_callV (st := []) (m_X12_trainOf hs n v5 2 M) ok_X12_trainOf (And.intro (Nat.le_of_ble_eq_true rfl) (Nat.le_of_ble_eq_true rfl)) lm_X12_288 in_X12_trainOf se_X12_trainOf rfl kc_167 rfl rfl (And.intro (Nat.zero_le _) (Nat.zero_le _)) rfl (Nat.le_of_ble_eq_true rfl) d_X12_laysSoon_64 (fun r1 M2 => ?_)
      refine jo_aload 0 d_X12_laysSoon_67 rfl rfl ?_
      refine jo_iloadW 5 d_X12_laysSoon_68 rfl ?_
      refine jo_iconst 3 d_X12_laysSoon_70 ?_
      refine jo_callV (st := [ji r1]) (m_X12_trainOf hs n v5 3 M2) ok_X12_trainOf (And.intro (Nat.le_of_ble_eq_true rfl) (Nat.le_of_ble_eq_true rfl)) lm_X12_288 in_X12_trainOf se_X12_trainOf rfl kc_167 rfl rfl (And.intro (Nat.zero_le _) (Nat.zero_le _)) rfl (Nat.le_of_ble_eq_true rfl) d_X12_laysSoon_71 (fun r3 M4 => ?_)
      refine jo_iadd d_X12_laysSoon_74 ?_
      refine jo_istoreW 6 d_X12_laysSoon_75 (Nat.le_of_ble_eq_true rfl) (fun y5 => ?_)
      refine jo_aload 0 d_X12_laysSoon_77 rfl rfl ?_
      refine jo_iload 3 d_X12_laysSoon_78 rfl rfl ?_
      refine jo_iloadW 5 d_X12_laysSoon_79 rfl ?_
      refine jo_callV (st := []) (m_X12_isIn hs n v3 v5 M4) ok_X12_isIn (And.intro (Nat.le_of_ble_eq_true rfl) (Nat.le_of_ble_eq_true rfl)) lm_X12_315 in_X12_isIn se_X12_isIn rfl kc_167 rfl rfl (And.intro (Nat.zero_le _) (Nat.zero_le _)) rfl (Nat.le_of_ble_eq_true rfl) d_X12_laysSoon_81 (fun r6 M7 => ?_)
      refine jo_if_eq 148 d_X12_laysSoon_84 (by decide) ?_ ?_
      · skip
        exact jO.sub (t_X12_laysSoon_L148 hs n r39 (f_X12_laysSoon_L49 n r39 k) hr39 ih v3 v4 v5 M7) (And.intro rfl (And.intro rfl (And.intro rfl (And.intro rfl True.intro))))
      · skip
        refine jo_aload 0 d_X12_laysSoon_87 rfl rfl ?_
        refine jo_getR (k := 28) cl_12 (Nat.le_of_ble_eq_true rfl) lk_X12_56 rfl kc_167 kr_167_28 d_X12_laysSoon_88 ?_
        refine jo_aload 0 d_X12_laysSoon_91 rfl rfl ?_
        refine jo_iloadW 5 d_X12_laysSoon_92 rfl ?_
        refine jo_iconst 0 d_X12_laysSoon_94 ?_
        refine jo_callV (st := [.ref 179]) (m_X12_trainOf hs n v5 0 M7) ok_X12_trainOf (And.intro (Nat.le_of_ble_eq_true rfl) (Nat.le_of_ble_eq_true rfl)) lm_X12_288 in_X12_trainOf se_X12_trainOf rfl kc_167 rfl rfl (And.intro (Nat.zero_le _) (Nat.zero_le _)) rfl (Nat.le_of_ble_eq_true rfl) d_X12_laysSoon_95 (fun r8 M9 => ?_)
        refine jo_iald (N := 6) kc_179 d_X12_laysSoon_98 ?_
        refine jo_aload 0 d_X12_laysSoon_99 rfl rfl ?_
        refine jo_iloadW 5 d_X12_laysSoon_100 rfl ?_
        refine jo_iconst 2 d_X12_laysSoon_102 ?_
        refine jo_callV (st := [ji (M9 179 (jw r8).toNat)]) (m_X12_trainOf hs n v5 2 M9) ok_X12_trainOf (And.intro (Nat.le_of_ble_eq_true rfl) (Nat.le_of_ble_eq_true rfl)) lm_X12_288 in_X12_trainOf se_X12_trainOf rfl kc_167 rfl rfl (And.intro (Nat.zero_le _) (Nat.zero_le _)) rfl (Nat.le_of_ble_eq_true rfl) d_X12_laysSoon_103 (fun r10 M11 => ?_)
        refine jo_icmp_gt 148 d_X12_laysSoon_106 (by decide) ?_ ?_
        · skip
          exact jO.sub (t_X12_laysSoon_L148 hs n r39 (f_X12_laysSoon_L49 n r39 k) hr39 ih v3 v4 v5 M11) (And.intro rfl (And.intro rfl (And.intro rfl (And.intro rfl True.intro))))
        · skip
          refine jo_iloadW 6 d_X12_laysSoon_109 rfl ?_
          refine jo_bipush 64 d_X12_laysSoon_111 (by decide) ?_
          refine jo_icmp_le 119 d_X12_laysSoon_113 (by decide) ?_ ?_
          · skip
            refine jo_aload 0 d_X12_laysSoon_119 rfl rfl ?_
            refine jo_getR (k := 28) cl_12 (Nat.le_of_ble_eq_true rfl) lk_X12_56 rfl kc_167 kr_167_28 d_X12_laysSoon_120 ?_
            refine jo_aload 0 d_X12_laysSoon_123 rfl rfl ?_
            refine jo_iloadW 5 d_X12_laysSoon_124 rfl ?_
            refine jo_iconst 1 d_X12_laysSoon_126 ?_
            refine jo_callV (st := [.ref 179]) (m_X12_trainOf hs n v5 1 M11) ok_X12_trainOf (And.intro (Nat.le_of_ble_eq_true rfl) (Nat.le_of_ble_eq_true rfl)) lm_X12_288 in_X12_trainOf se_X12_trainOf rfl kc_167 rfl rfl (And.intro (Nat.zero_le _) (Nat.zero_le _)) rfl (Nat.le_of_ble_eq_true rfl) d_X12_laysSoon_127 (fun r12 M13 => ?_)
            refine jo_aload 0 d_X12_laysSoon_130 rfl rfl ?_
            refine jo_getR (k := 28) cl_12 (Nat.le_of_ble_eq_true rfl) lk_X12_56 rfl kc_167 kr_167_28 d_X12_laysSoon_131 ?_
            refine jo_aload 0 d_X12_laysSoon_134 rfl rfl ?_
            refine jo_iloadW 5 d_X12_laysSoon_135 rfl ?_
            refine jo_iconst 1 d_X12_laysSoon_137 ?_
            refine jo_callV (st := [.ref 179, ji r12, .ref 179]) (m_X12_trainOf hs n v5 1 M13) ok_X12_trainOf (And.intro (Nat.le_of_ble_eq_true rfl) (Nat.le_of_ble_eq_true rfl)) lm_X12_288 in_X12_trainOf se_X12_trainOf rfl kc_167 rfl rfl (And.intro (Nat.zero_le _) (Nat.zero_le _)) rfl (Nat.le_of_ble_eq_true rfl) d_X12_laysSoon_138 (fun r14 M15 => ?_)
            refine jo_iald (N := 6) kc_179 d_X12_laysSoon_141 ?_
            refine jo_iloadW 6 d_X12_laysSoon_142 rfl ?_
            refine jo_mmin lm_X12_142 (Nat.le_of_ble_eq_true rfl) (Nat.le_of_ble_eq_true rfl) (And.intro (Nat.zero_le _) (Nat.zero_le _)) d_X12_laysSoon_144 ?_
            refine jo_iast (N := 6) kc_179 d_X12_laysSoon_147 (fun M16 => ?_)
            exact jO.sub (t_X12_laysSoon_L148 hs n r39 (f_X12_laysSoon_L49 n r39 k) hr39 ih v3 v4 v5 M16) (And.intro rfl (And.intro rfl (And.intro rfl (And.intro rfl True.intro))))
          · skip
            refine jo_goto 148 d_X12_laysSoon_116 (by decide) ?_
            exact jO.sub (t_X12_laysSoon_L148 hs n r39 (f_X12_laysSoon_L49 n r39 k) hr39 ih v3 v4 v5 M11) (And.intro rfl (And.intro rfl (And.intro rfl (And.intro rfl True.intro))))
def f_X12_laysSoon_L39 (n : Nat) : Nat → Int → Int → JMem → Option (Int × JMem)
  | 0, _, _, _ => none
  | k + 1, v3, v4, M => if jw 6 ≤ jw v4 then (some (0, M)) else (letv 0 fun y1 => f_X12_laysSoon_L49 n (f_X12_laysSoon_L39 n k) n v3 v4 y1 M)
set_option maxRecDepth 4000 in
theorem t_X12_laysSoon_L39 {g : JG} {ad : Nat → Nat} (hs : jStr g ad) (n : Nat) : ∀ (k : Nat) (v3 v4 : Int) (M : JMem), jB g D_X12_laysSoon ad 39 [some (.ref 167), none, none, some (ji v3), some (ji v4), none, none] [] M (f_X12_laysSoon_L39 n k v3 v4 M) := by
  intro k
  induction k with
  | zero => intro v3 v4 M; exact jO.none
  | succ k ih =>
    intro v3 v4 M
    rw [f_X12_laysSoon_L39]
    refine jo_iloadW 4 d_X12_laysSoon_39 rfl ?_
    refine jo_bipush 6 d_X12_laysSoon_41 (by decide) ?_
    refine jo_icmp_ge 160 d_X12_laysSoon_43 (by decide) ?_ ?_
    · skip
      exact jo_vret rfl d_X12_laysSoon_160
    · skip
      refine jo_iconst 0 d_X12_laysSoon_46 ?_
      refine jo_istoreW 5 d_X12_laysSoon_47 (Nat.le_of_ble_eq_true rfl) (fun y1 => ?_)
      exact jO.sub (t_X12_laysSoon_L49 hs n (f_X12_laysSoon_L39 n k) ih n v3 v4 y1 M) (And.intro rfl (And.intro rfl (And.intro rfl (And.intro rfl True.intro))))
def f_X12_laysSoon_L36 (n : Nat) (v3 : Int) (M : JMem) : Option (Int × JMem) := letv 0 fun y1 => f_X12_laysSoon_L39 n n v3 y1 M
set_option maxRecDepth 4000 in
theorem t_X12_laysSoon_L36 {g : JG} {ad : Nat → Nat} (hs : jStr g ad) (n : Nat) (v3 : Int) (M : JMem) : jB g D_X12_laysSoon ad 36 [some (.ref 167), none, none, some (ji v3), none, none, none] [] M (f_X12_laysSoon_L36 n v3 M) := by
  unfold f_X12_laysSoon_L36
  refine jo_iconst 0 d_X12_laysSoon_36 ?_
  refine jo_istoreW 4 d_X12_laysSoon_37 (Nat.le_of_ble_eq_true rfl) (fun y1 => ?_)
  exact jO.sub (t_X12_laysSoon_L39 hs n n v3 y1 M) (And.intro rfl (And.intro rfl (And.intro rfl True.intro)))
def f_X12_laysSoon_L3 (n : Nat) : Nat → Int → Int → Int → Int → JMem → Option (Int × JMem)
  | 0, _, _, _, _, _ => none
  | k + 1, v1, v2, v3, v4, M => if jw 6 ≤ jw v4 then (f_X12_laysSoon_L36 n v3 M) else (if jw v4 = jw v1 then (f_X12_laysSoon_L29 n (f_X12_laysSoon_L3 n k) v1 v2 v3 v4 v4 v2 M) else (f_X12_laysSoon_L29 n (f_X12_laysSoon_L3 n k) v1 v2 v3 v4 v4 1000000 M))
set_option maxRecDepth 4000 in
theorem t_X12_laysSoon_L3 {g : JG} {ad : Nat → Nat} (hs : jStr g ad) (n : Nat) : ∀ (k : Nat) (v1 v2 v3 v4 : Int) (M : JMem), jB g D_X12_laysSoon ad 3 [some (.ref 167), some (ji v1), some (ji v2), some (ji v3), some (ji v4), none, none] [] M (f_X12_laysSoon_L3 n k v1 v2 v3 v4 M) := by
  intro k
  induction k with
  | zero => intro v1 v2 v3 v4 M; exact jO.none
  | succ k ih =>
    intro v1 v2 v3 v4 M
    rw [f_X12_laysSoon_L3]
    refine jo_iloadW 4 d_X12_laysSoon_3 rfl ?_
    refine jo_bipush 6 d_X12_laysSoon_5 (by decide) ?_
    refine jo_icmp_ge 36 d_X12_laysSoon_7 (by decide) ?_ ?_
    · skip
      exact jO.sub (t_X12_laysSoon_L36 hs n v3 M) (And.intro rfl (And.intro rfl True.intro))
    · skip
      refine jo_aload 0 d_X12_laysSoon_10 rfl rfl ?_
      refine jo_getR (k := 28) cl_12 (Nat.le_of_ble_eq_true rfl) lk_X12_56 rfl kc_167 kr_167_28 d_X12_laysSoon_11 ?_
      refine jo_iloadW 4 d_X12_laysSoon_14 rfl ?_
      refine jo_iloadW 4 d_X12_laysSoon_16 rfl ?_
      refine jo_iload 1 d_X12_laysSoon_18 rfl rfl ?_
      refine jo_icmp_ne 26 d_X12_laysSoon_19 (by decide) ?_ ?_
      · skip
        refine jo_ldcw 1000000 lc_X12_375 d_X12_laysSoon_26 ?_
        exact jO.sub (t_X12_laysSoon_L29 hs n (f_X12_laysSoon_L3 n k) ih v1 v2 v3 v4 v4 1000000 M) (And.intro rfl (And.intro rfl (And.intro rfl (And.intro rfl (And.intro rfl True.intro)))))
      · skip
        refine jo_iload 2 d_X12_laysSoon_22 rfl rfl ?_
        refine jo_goto 29 d_X12_laysSoon_23 (by decide) ?_
        exact jO.sub (t_X12_laysSoon_L29 hs n (f_X12_laysSoon_L3 n k) ih v1 v2 v3 v4 v4 v2 M) (And.intro rfl (And.intro rfl (And.intro rfl (And.intro rfl (And.intro rfl True.intro)))))
def f_X12_laysSoon (n : Nat) (x1 : Int) (x2 : Int) (x3 : Int) (M : JMem) : Option (Int × JMem) := letv 0 fun y1 => f_X12_laysSoon_L3 n n x1 x2 x3 y1 M
set_option maxRecDepth 4000 in
theorem t_X12_laysSoon {g : JG} {ad : Nat → Nat} (hs : jStr g ad) (n : Nat) (x1 : Int) (x2 : Int) (x3 : Int) (M : JMem) : jB g D_X12_laysSoon ad 0 [some (.ref 167), some (ji x1), some (ji x2), some (ji x3), none, none, none] [] M (f_X12_laysSoon n x1 x2 x3 M) := by
  unfold f_X12_laysSoon
  refine jo_iconst 0 d_X12_laysSoon_0 ?_
  refine jo_istoreW 4 d_X12_laysSoon_1 (Nat.le_of_ble_eq_true rfl) (fun y1 => ?_)
  exact jO.sub (t_X12_laysSoon_L3 hs n n x1 x2 x3 y1 M) (And.intro rfl (And.intro rfl (And.intro rfl (And.intro rfl (And.intro rfl True.intro)))))
theorem m_X12_laysSoon {g : JG} {ad : Nat → Nat} (hs : jStr g ad) (n : Nat) (x1 : Int) (x2 : Int) (x3 : Int) (M : JMem) : jMet g jNN ad jR D_X12_laysSoon yX12_laysSoon [.ref 167, ji x1, ji x2, ji x3] M (f_X12_laysSoon n x1 x2 x3 M) :=
  jMet.of (lo0 := [some (.ref 167), some (ji x1), some (ji x2), some (ji x3), none, none, none]) (by decide) rfl rfl (Nat.le_of_ble_eq_true rfl) (And.intro rfl (And.intro rfl (And.intro rfl (And.intro rfl True.intro)))) (t_X12_laysSoon hs n x1 x2 x3 M)
/-! CageLeaveModel.reachBy(I)I -/
def D_X12_reachBy : JD := (RX12, cX12_reachBy, 4, some .int, "reachBy", { frames := 3, cells := 0, slots := 0, locals := 68 })
theorem ok_X12_reachBy : jOk D_X12_reachBy yX12_reachBy 1 := ⟨jTW_mem (k := 1959) (by decide +kernel) rfl, jTW_mem (k := 151) (by decide +kernel) rfl, ⟨by decide +kernel, by decide +kernel⟩, by decide +kernel, rfl, rfl⟩
theorem in_X12_reachBy : Cond.instanceMethod yX12_reachBy ∈ jTW := jTW_mem (k := 1958) (by decide +kernel) rfl
theorem se_X12_reachBy : Cond.selects yX12_reachBy.cls yX12_reachBy yX12_reachBy ∈ jTW := jTW_mem (k := 116) (by decide +kernel) rfl
theorem lm_X12_382 : Cond.methodLink RX12 382 yX12_laysSoon ∈ jTW := jTW_mem (k := 1931) (by decide +kernel) rfl
theorem d_X12_reachBy_0 : decode (D_X12_reachBy).2.1 0 = .ok (.aload_n 0, 1) := by decide +kernel
theorem d_X12_reachBy_1 : decode (D_X12_reachBy).2.1 1 = .ok (.iconst 0, 1) := by decide +kernel
theorem d_X12_reachBy_2 : decode (D_X12_reachBy).2.1 2 = .ok (.iconst 0, 1) := by decide +kernel
theorem d_X12_reachBy_3 : decode (D_X12_reachBy).2.1 3 = .ok (.iload_n 1, 1) := by decide +kernel
theorem d_X12_reachBy_4 : decode (D_X12_reachBy).2.1 4 = .ok (.invokevirtual 382, 3) := by decide +kernel
theorem d_X12_reachBy_7 : decode (D_X12_reachBy).2.1 7 = .ok (.iconst 0, 1) := by decide +kernel
theorem d_X12_reachBy_8 : decode (D_X12_reachBy).2.1 8 = .ok (.istore_n 2, 1) := by decide +kernel
theorem d_X12_reachBy_9 : decode (D_X12_reachBy).2.1 9 = .ok (.iconst 0, 1) := by decide +kernel
theorem d_X12_reachBy_10 : decode (D_X12_reachBy).2.1 10 = .ok (.istore_n 3, 1) := by decide +kernel
theorem d_X12_reachBy_11 : decode (D_X12_reachBy).2.1 11 = .ok (.iload_n 3, 1) := by decide +kernel
theorem d_X12_reachBy_12 : decode (D_X12_reachBy).2.1 12 = .ok (.aload_n 0, 1) := by decide +kernel
theorem d_X12_reachBy_13 : decode (D_X12_reachBy).2.1 13 = .ok (.getfield 7, 3) := by decide +kernel
theorem d_X12_reachBy_16 : decode (D_X12_reachBy).2.1 16 = .ok (.iconst 0, 1) := by decide +kernel
theorem d_X12_reachBy_17 : decode (D_X12_reachBy).2.1 17 = .ok (.iaload, 1) := by decide +kernel
theorem d_X12_reachBy_18 : decode (D_X12_reachBy).2.1 18 = .ok (.if_icmp .ge 31, 3) := by decide +kernel
theorem d_X12_reachBy_21 : decode (D_X12_reachBy).2.1 21 = .ok (.iload_n 2, 1) := by decide +kernel
theorem d_X12_reachBy_22 : decode (D_X12_reachBy).2.1 22 = .ok (.aload_n 0, 1) := by decide +kernel
theorem d_X12_reachBy_23 : decode (D_X12_reachBy).2.1 23 = .ok (.getfield 56, 3) := by decide +kernel
theorem d_X12_reachBy_26 : decode (D_X12_reachBy).2.1 26 = .ok (.iload_n 3, 1) := by decide +kernel
theorem d_X12_reachBy_27 : decode (D_X12_reachBy).2.1 27 = .ok (.iaload, 1) := by decide +kernel
theorem d_X12_reachBy_28 : decode (D_X12_reachBy).2.1 28 = .ok (.ldc_w 375, 3) := by decide +kernel
theorem d_X12_reachBy_31 : decode (D_X12_reachBy).2.1 31 = .ok (.if_icmp .ne 7, 3) := by decide +kernel
theorem d_X12_reachBy_34 : decode (D_X12_reachBy).2.1 34 = .ok (.iconst 0, 1) := by decide +kernel
theorem d_X12_reachBy_35 : decode (D_X12_reachBy).2.1 35 = .ok (.goto 6, 3) := by decide +kernel
theorem d_X12_reachBy_38 : decode (D_X12_reachBy).2.1 38 = .ok (.iconst 1, 1) := by decide +kernel
theorem d_X12_reachBy_39 : decode (D_X12_reachBy).2.1 39 = .ok (.iload_n 3, 1) := by decide +kernel
theorem d_X12_reachBy_40 : decode (D_X12_reachBy).2.1 40 = .ok (.ishl, 1) := by decide +kernel
theorem d_X12_reachBy_41 : decode (D_X12_reachBy).2.1 41 = .ok (.ior, 1) := by decide +kernel
theorem d_X12_reachBy_42 : decode (D_X12_reachBy).2.1 42 = .ok (.istore_n 2, 1) := by decide +kernel
theorem d_X12_reachBy_43 : decode (D_X12_reachBy).2.1 43 = .ok (.iinc 3 1, 3) := by decide +kernel
theorem d_X12_reachBy_46 : decode (D_X12_reachBy).2.1 46 = .ok (.goto (-35), 3) := by decide +kernel
theorem d_X12_reachBy_49 : decode (D_X12_reachBy).2.1 49 = .ok (.iload_n 2, 1) := by decide +kernel
theorem d_X12_reachBy_50 : decode (D_X12_reachBy).2.1 50 = .ok (.ireturn, 1) := by decide +kernel
def f_X12_reachBy_L41 (n : Nat) (r11 : Int → Int → JMem → Option (Int × JMem)) (v3 w0 w1 : Int) (M : JMem) : Option (Int × JMem) := letv (jor w0 w1) fun y1 => letv (v3 + 1) fun y2 => r11 y1 y2 M
set_option maxRecDepth 4000 in
theorem t_X12_reachBy_L41 {g : JG} {ad : Nat → Nat} (hs : jStr g ad) (n : Nat) (r11 : Int → Int → JMem → Option (Int × JMem)) (hr11 : ∀ (v2 v3 : Int) (M : JMem), jB g D_X12_reachBy ad 11 [some (.ref 167), none, some (ji v2), some (ji v3)] [] M (r11 v2 v3 M)) (v3 w0 w1 : Int) (M : JMem) : jB g D_X12_reachBy ad 41 [some (.ref 167), none, none, some (ji v3)] [ji w1, ji w0] M (f_X12_reachBy_L41 n r11 v3 w0 w1 M) := by
  unfold f_X12_reachBy_L41
  refine jo_ior d_X12_reachBy_41 ?_
  refine jo_istore 2 d_X12_reachBy_42 rfl (Nat.le_of_ble_eq_true rfl) (fun y1 => ?_)
  refine jo_iinc 3 d_X12_reachBy_43 rfl (Nat.le_of_ble_eq_true rfl) (fun y2 => ?_)
  refine jo_goto 11 d_X12_reachBy_46 (by decide) ?_
  exact jO.sub (hr11 y1 y2 M) (And.intro rfl (And.intro rfl (And.intro rfl True.intro)))
def f_X12_reachBy_L11 (n : Nat) : Nat → Int → Int → JMem → Option (Int × JMem)
  | 0, _, _, _ => none
  | k + 1, v2, v3, M => chk (jin 0 3160) <| if jw (M 168 (jw 0).toNat) ≤ jw v3 then (some (v2, M)) else (chk (jin v3 6) <| if jw (M 179 (jw v3).toNat) = jw 1000000 then (f_X12_reachBy_L41 n (f_X12_reachBy_L11 n k) v3 v2 0 M) else (f_X12_reachBy_L41 n (f_X12_reachBy_L11 n k) v3 v2 (jshl 1 v3) M))
set_option maxRecDepth 4000 in
theorem t_X12_reachBy_L11 {g : JG} {ad : Nat → Nat} (hs : jStr g ad) (n : Nat) : ∀ (k : Nat) (v2 v3 : Int) (M : JMem), jB g D_X12_reachBy ad 11 [some (.ref 167), none, some (ji v2), some (ji v3)] [] M (f_X12_reachBy_L11 n k v2 v3 M) := by
  intro k
  induction k with
  | zero => intro v2 v3 M; exact jO.none
  | succ k ih =>
    intro v2 v3 M
    rw [f_X12_reachBy_L11]
    refine jo_iload 3 d_X12_reachBy_11 rfl rfl ?_
    refine jo_aload 0 d_X12_reachBy_12 rfl rfl ?_
    refine jo_getR (k := 0) cl_12 (Nat.le_of_ble_eq_true rfl) lk_X12_7 rfl kc_167 kr_167_0 d_X12_reachBy_13 ?_
    refine jo_iconst 0 d_X12_reachBy_16 ?_
    refine jo_iald (N := 3160) kc_168 d_X12_reachBy_17 ?_
    refine jo_icmp_ge 49 d_X12_reachBy_18 (by decide) ?_ ?_
    · skip
      refine jo_iload 2 d_X12_reachBy_49 rfl rfl ?_
      exact jo_iret rfl d_X12_reachBy_50
    · skip
      refine jo_iload 2 d_X12_reachBy_21 rfl rfl ?_
      refine jo_aload 0 d_X12_reachBy_22 rfl rfl ?_
      refine jo_getR (k := 28) cl_12 (Nat.le_of_ble_eq_true rfl) lk_X12_56 rfl kc_167 kr_167_28 d_X12_reachBy_23 ?_
      refine jo_iload 3 d_X12_reachBy_26 rfl rfl ?_
      refine jo_iald (N := 6) kc_179 d_X12_reachBy_27 ?_
      refine jo_ldcw 1000000 lc_X12_375 d_X12_reachBy_28 ?_
      refine jo_icmp_ne 38 d_X12_reachBy_31 (by decide) ?_ ?_
      · skip
        refine jo_iconst 1 d_X12_reachBy_38 ?_
        refine jo_iload 3 d_X12_reachBy_39 rfl rfl ?_
        refine jo_ishl d_X12_reachBy_40 ?_
        exact jO.sub (t_X12_reachBy_L41 hs n (f_X12_reachBy_L11 n k) ih v3 v2 (jshl 1 v3) M) (And.intro rfl (And.intro rfl True.intro))
      · skip
        refine jo_iconst 0 d_X12_reachBy_34 ?_
        refine jo_goto 41 d_X12_reachBy_35 (by decide) ?_
        exact jO.sub (t_X12_reachBy_L41 hs n (f_X12_reachBy_L11 n k) ih v3 v2 0 M) (And.intro rfl (And.intro rfl True.intro))
def f_X12_reachBy (n : Nat) (x1 : Int) (M : JMem) : Option (Int × JMem) := bnd (f_X12_laysSoon n 0 0 x1 M) fun _ M2 => letv 0 fun y3 => letv 0 fun y4 => f_X12_reachBy_L11 n n y3 y4 M2
set_option maxRecDepth 4000 in
theorem t_X12_reachBy {g : JG} {ad : Nat → Nat} (hs : jStr g ad) (n : Nat) (x1 : Int) (M : JMem) : jB g D_X12_reachBy ad 0 [some (.ref 167), some (ji x1), none, none] [] M (f_X12_reachBy n x1 M) := by
  unfold f_X12_reachBy
  refine jo_aload 0 d_X12_reachBy_0 rfl rfl ?_
  refine jo_iconst 0 d_X12_reachBy_1 ?_
  refine jo_iconst 0 d_X12_reachBy_2 ?_
  refine jo_iload 1 d_X12_reachBy_3 rfl rfl ?_
  refine jo_callV (st := []) (m_X12_laysSoon hs n 0 0 x1 M) ok_X12_laysSoon (And.intro (Nat.le_of_ble_eq_true rfl) (Nat.le_of_ble_eq_true rfl)) lm_X12_382 in_X12_laysSoon se_X12_laysSoon rfl kc_167 rfl rfl (And.intro (Nat.zero_le _) (Nat.zero_le _)) rfl (Nat.le_of_ble_eq_true rfl) d_X12_reachBy_4 (fun _ M2 => ?_)
  refine jo_iconst 0 d_X12_reachBy_7 ?_
  refine jo_istore 2 d_X12_reachBy_8 rfl (Nat.le_of_ble_eq_true rfl) (fun y3 => ?_)
  refine jo_iconst 0 d_X12_reachBy_9 ?_
  refine jo_istore 3 d_X12_reachBy_10 rfl (Nat.le_of_ble_eq_true rfl) (fun y4 => ?_)
  exact jO.sub (t_X12_reachBy_L11 hs n n y3 y4 M2) (And.intro rfl (And.intro rfl (And.intro rfl True.intro)))
theorem m_X12_reachBy {g : JG} {ad : Nat → Nat} (hs : jStr g ad) (n : Nat) (x1 : Int) (M : JMem) : jMet g jNN ad jR D_X12_reachBy yX12_reachBy [.ref 167, ji x1] M (f_X12_reachBy n x1 M) :=
  jMet.of (lo0 := [some (.ref 167), some (ji x1), none, none]) (by decide) rfl rfl (Nat.le_of_ble_eq_true rfl) (And.intro rfl (And.intro rfl True.intro)) (t_X12_reachBy hs n x1 M)
/-! CageLeaveModel.cutting(I)I -/
def D_X12_cutting : JD := (RX12, cX12_cutting, 4, some .int, "cutting", { frames := 4, cells := 0, slots := 0, locals := 91 })
theorem ok_X12_cutting : jOk D_X12_cutting yX12_cutting 1 := ⟨jTW_mem (k := 1967) (by decide +kernel) rfl, jTW_mem (k := 151) (by decide +kernel) rfl, ⟨by decide +kernel, by decide +kernel⟩, by decide +kernel, rfl, rfl⟩
theorem in_X12_cutting : Cond.instanceMethod yX12_cutting ∈ jTW := jTW_mem (k := 1966) (by decide +kernel) rfl
theorem se_X12_cutting : Cond.selects yX12_cutting.cls yX12_cutting yX12_cutting ∈ jTW := jTW_mem (k := 117) (by decide +kernel) rfl
theorem lm_X12_379 : Cond.methodLink RX12 379 yX12_going ∈ jTW := jTW_mem (k := 1927) (by decide +kernel) rfl
theorem lm_X12_338 : Cond.methodLink RX12 338 yX12_bits ∈ jTW := jTW_mem (k := 1822) (by decide +kernel) rfl
theorem lm_X12_390 : Cond.methodLink RX12 390 yX12_reachBy ∈ jTW := jTW_mem (k := 1956) (by decide +kernel) rfl
theorem d_X12_cutting_0 : decode (D_X12_cutting).2.1 0 = .ok (.iconst (-1), 1) := by decide +kernel
theorem d_X12_cutting_1 : decode (D_X12_cutting).2.1 1 = .ok (.istore_n 2, 1) := by decide +kernel
theorem d_X12_cutting_2 : decode (D_X12_cutting).2.1 2 = .ok (.iconst 0, 1) := by decide +kernel
theorem d_X12_cutting_3 : decode (D_X12_cutting).2.1 3 = .ok (.istore_n 3, 1) := by decide +kernel
theorem d_X12_cutting_4 : decode (D_X12_cutting).2.1 4 = .ok (.iload_n 3, 1) := by decide +kernel
theorem d_X12_cutting_5 : decode (D_X12_cutting).2.1 5 = .ok (.iconst 1, 1) := by decide +kernel
theorem d_X12_cutting_6 : decode (D_X12_cutting).2.1 6 = .ok (.aload_n 0, 1) := by decide +kernel
theorem d_X12_cutting_7 : decode (D_X12_cutting).2.1 7 = .ok (.getfield 7, 3) := by decide +kernel
theorem d_X12_cutting_10 : decode (D_X12_cutting).2.1 10 = .ok (.iconst 1, 1) := by decide +kernel
theorem d_X12_cutting_11 : decode (D_X12_cutting).2.1 11 = .ok (.iaload, 1) := by decide +kernel
theorem d_X12_cutting_12 : decode (D_X12_cutting).2.1 12 = .ok (.ishl, 1) := by decide +kernel
theorem d_X12_cutting_13 : decode (D_X12_cutting).2.1 13 = .ok (.if_icmp .ge 61, 3) := by decide +kernel
theorem d_X12_cutting_16 : decode (D_X12_cutting).2.1 16 = .ok (.iload_n 3, 1) := by decide +kernel
theorem d_X12_cutting_17 : decode (D_X12_cutting).2.1 17 = .ok (.aload_n 0, 1) := by decide +kernel
theorem d_X12_cutting_18 : decode (D_X12_cutting).2.1 18 = .ok (.invokevirtual 379, 3) := by decide +kernel
theorem d_X12_cutting_21 : decode (D_X12_cutting).2.1 21 = .ok (.iconst (-1), 1) := by decide +kernel
theorem d_X12_cutting_22 : decode (D_X12_cutting).2.1 22 = .ok (.ixor, 1) := by decide +kernel
theorem d_X12_cutting_23 : decode (D_X12_cutting).2.1 23 = .ok (.iand, 1) := by decide +kernel
theorem d_X12_cutting_24 : decode (D_X12_cutting).2.1 24 = .ok (.ifCond .ne 44, 3) := by decide +kernel
theorem d_X12_cutting_27 : decode (D_X12_cutting).2.1 27 = .ok (.iload_n 2, 1) := by decide +kernel
theorem d_X12_cutting_28 : decode (D_X12_cutting).2.1 28 = .ok (.iconst (-1), 1) := by decide +kernel
theorem d_X12_cutting_29 : decode (D_X12_cutting).2.1 29 = .ok (.if_icmp .eq 17, 3) := by decide +kernel
theorem d_X12_cutting_32 : decode (D_X12_cutting).2.1 32 = .ok (.iload_n 3, 1) := by decide +kernel
theorem d_X12_cutting_33 : decode (D_X12_cutting).2.1 33 = .ok (.invokestatic 338, 3) := by decide +kernel
theorem d_X12_cutting_36 : decode (D_X12_cutting).2.1 36 = .ok (.iload_n 2, 1) := by decide +kernel
theorem d_X12_cutting_37 : decode (D_X12_cutting).2.1 37 = .ok (.invokestatic 338, 3) := by decide +kernel
theorem d_X12_cutting_40 : decode (D_X12_cutting).2.1 40 = .ok (.if_icmp .lt 6, 3) := by decide +kernel
theorem d_X12_cutting_43 : decode (D_X12_cutting).2.1 43 = .ok (.goto 25, 3) := by decide +kernel
theorem d_X12_cutting_46 : decode (D_X12_cutting).2.1 46 = .ok (.aload_n 0, 1) := by decide +kernel
theorem d_X12_cutting_47 : decode (D_X12_cutting).2.1 47 = .ok (.aload_n 0, 1) := by decide +kernel
theorem d_X12_cutting_48 : decode (D_X12_cutting).2.1 48 = .ok (.aload_n 0, 1) := by decide +kernel
theorem d_X12_cutting_49 : decode (D_X12_cutting).2.1 49 = .ok (.invokevirtual 379, 3) := by decide +kernel
theorem d_X12_cutting_52 : decode (D_X12_cutting).2.1 52 = .ok (.iload_n 3, 1) := by decide +kernel
theorem d_X12_cutting_53 : decode (D_X12_cutting).2.1 53 = .ok (.iconst (-1), 1) := by decide +kernel
theorem d_X12_cutting_54 : decode (D_X12_cutting).2.1 54 = .ok (.ixor, 1) := by decide +kernel
theorem d_X12_cutting_55 : decode (D_X12_cutting).2.1 55 = .ok (.iand, 1) := by decide +kernel
theorem d_X12_cutting_56 : decode (D_X12_cutting).2.1 56 = .ok (.invokevirtual 390, 3) := by decide +kernel
theorem d_X12_cutting_59 : decode (D_X12_cutting).2.1 59 = .ok (.iload_n 1, 1) := by decide +kernel
theorem d_X12_cutting_60 : decode (D_X12_cutting).2.1 60 = .ok (.invokevirtual 315, 3) := by decide +kernel
theorem d_X12_cutting_63 : decode (D_X12_cutting).2.1 63 = .ok (.ifCond .ne 5, 3) := by decide +kernel
theorem d_X12_cutting_66 : decode (D_X12_cutting).2.1 66 = .ok (.iload_n 3, 1) := by decide +kernel
theorem d_X12_cutting_67 : decode (D_X12_cutting).2.1 67 = .ok (.istore_n 2, 1) := by decide +kernel
theorem d_X12_cutting_68 : decode (D_X12_cutting).2.1 68 = .ok (.iinc 3 1, 3) := by decide +kernel
theorem d_X12_cutting_71 : decode (D_X12_cutting).2.1 71 = .ok (.goto (-67), 3) := by decide +kernel
theorem d_X12_cutting_74 : decode (D_X12_cutting).2.1 74 = .ok (.iload_n 2, 1) := by decide +kernel
theorem d_X12_cutting_75 : decode (D_X12_cutting).2.1 75 = .ok (.ireturn, 1) := by decide +kernel
def f_X12_cutting_L68 (n : Nat) (r4 : Int → Int → Int → JMem → Option (Int × JMem)) (v1 v2 v3 : Int) (M : JMem) : Option (Int × JMem) := letv (v3 + 1) fun y1 => r4 v1 v2 y1 M
set_option maxRecDepth 4000 in
theorem t_X12_cutting_L68 {g : JG} {ad : Nat → Nat} (hs : jStr g ad) (n : Nat) (r4 : Int → Int → Int → JMem → Option (Int × JMem)) (hr4 : ∀ (v1 v2 v3 : Int) (M : JMem), jB g D_X12_cutting ad 4 [some (.ref 167), some (ji v1), some (ji v2), some (ji v3)] [] M (r4 v1 v2 v3 M)) (v1 v2 v3 : Int) (M : JMem) : jB g D_X12_cutting ad 68 [some (.ref 167), some (ji v1), some (ji v2), some (ji v3)] [] M (f_X12_cutting_L68 n r4 v1 v2 v3 M) := by
  unfold f_X12_cutting_L68
  refine jo_iinc 3 d_X12_cutting_68 rfl (Nat.le_of_ble_eq_true rfl) (fun y1 => ?_)
  refine jo_goto 4 d_X12_cutting_71 (by decide) ?_
  exact jO.sub (hr4 v1 v2 y1 M) (And.intro rfl (And.intro rfl (And.intro rfl (And.intro rfl True.intro))))
def f_X12_cutting_L46 (n : Nat) (r4 : Int → Int → Int → JMem → Option (Int × JMem)) (v1 v2 v3 : Int) (M : JMem) : Option (Int × JMem) := bnd (f_X12_going n M) fun r1 M2 => bnd (f_X12_reachBy n (jand r1 (jxor v3 (-1))) M2) fun r3 M4 => bnd (f_X12_isIn n r3 v1 M4) fun r5 M6 => if jw r5 = 0 then (letv v3 fun y7 => f_X12_cutting_L68 n r4 v1 y7 v3 M6) else (f_X12_cutting_L68 n r4 v1 v2 v3 M6)
set_option maxRecDepth 4000 in
theorem t_X12_cutting_L46 {g : JG} {ad : Nat → Nat} (hs : jStr g ad) (n : Nat) (r4 : Int → Int → Int → JMem → Option (Int × JMem)) (hr4 : ∀ (v1 v2 v3 : Int) (M : JMem), jB g D_X12_cutting ad 4 [some (.ref 167), some (ji v1), some (ji v2), some (ji v3)] [] M (r4 v1 v2 v3 M)) (v1 v2 v3 : Int) (M : JMem) : jB g D_X12_cutting ad 46 [some (.ref 167), some (ji v1), some (ji v2), some (ji v3)] [] M (f_X12_cutting_L46 n r4 v1 v2 v3 M) := by
  unfold f_X12_cutting_L46
  refine jo_aload 0 d_X12_cutting_46 rfl rfl ?_
  refine jo_aload 0 d_X12_cutting_47 rfl rfl ?_
  refine jo_aload 0 d_X12_cutting_48 rfl rfl ?_
  refine jo_callV (st := [.ref 167, .ref 167]) (m_X12_going hs n M) ok_X12_going (And.intro (Nat.le_of_ble_eq_true rfl) (Nat.le_of_ble_eq_true rfl)) lm_X12_379 in_X12_going se_X12_going rfl kc_167 rfl rfl (And.intro (Nat.zero_le _) (Nat.zero_le _)) rfl (Nat.le_of_ble_eq_true rfl) d_X12_cutting_49 (fun r1 M2 => ?_)
  refine jo_iload 3 d_X12_cutting_52 rfl rfl ?_
  refine jo_iconst (-1) d_X12_cutting_53 ?_
  refine jo_ixor d_X12_cutting_54 ?_
  refine jo_iand d_X12_cutting_55 ?_
  refine jo_callV (st := [.ref 167]) (m_X12_reachBy hs n (jand r1 (jxor v3 (-1))) M2) ok_X12_reachBy (And.intro (Nat.le_of_ble_eq_true rfl) (Nat.le_of_ble_eq_true rfl)) lm_X12_390 in_X12_reachBy se_X12_reachBy rfl kc_167 rfl rfl (And.intro (Nat.zero_le _) (Nat.zero_le _)) rfl (Nat.le_of_ble_eq_true rfl) d_X12_cutting_56 (fun r3 M4 => ?_)
  refine jo_iload 1 d_X12_cutting_59 rfl rfl ?_
  refine jo_callV (st := []) (m_X12_isIn hs n r3 v1 M4) ok_X12_isIn (And.intro (Nat.le_of_ble_eq_true rfl) (Nat.le_of_ble_eq_true rfl)) lm_X12_315 in_X12_isIn se_X12_isIn rfl kc_167 rfl rfl (And.intro (Nat.zero_le _) (Nat.zero_le _)) rfl (Nat.le_of_ble_eq_true rfl) d_X12_cutting_60 (fun r5 M6 => ?_)
  refine jo_if_ne 68 d_X12_cutting_63 (by decide) ?_ ?_
  · skip
    exact jO.sub (t_X12_cutting_L68 hs n r4 hr4 v1 v2 v3 M6) (And.intro rfl (And.intro rfl (And.intro rfl (And.intro rfl True.intro))))
  · skip
    refine jo_iload 3 d_X12_cutting_66 rfl rfl ?_
    refine jo_istore 2 d_X12_cutting_67 rfl (Nat.le_of_ble_eq_true rfl) (fun y7 => ?_)
    exact jO.sub (t_X12_cutting_L68 hs n r4 hr4 v1 y7 v3 M6) (And.intro rfl (And.intro rfl (And.intro rfl (And.intro rfl True.intro))))
def f_X12_cutting_L4 (n : Nat) : Nat → Int → Int → Int → JMem → Option (Int × JMem)
  | 0, _, _, _, _ => none
  | k + 1, v1, v2, v3, M => chk (jin 1 3160) <| if jw (jshl 1 (M 168 (jw 1).toNat)) ≤ jw v3 then (some (v2, M)) else (bnd (f_X12_going n M) fun r1 M2 => if jw (jand v3 (jxor r1 (-1))) = 0 then (if jw v2 = jw (-1) then (f_X12_cutting_L46 n (f_X12_cutting_L4 n k) v1 v2 v3 M2) else (bnd (f_X12_bits n v3 M2) fun r3 M4 => bnd (f_X12_bits n v2 M4) fun r5 M6 => if jw r3 < jw r5 then (f_X12_cutting_L46 n (f_X12_cutting_L4 n k) v1 v2 v3 M6) else (f_X12_cutting_L68 n (f_X12_cutting_L4 n k) v1 v2 v3 M6))) else (f_X12_cutting_L68 n (f_X12_cutting_L4 n k) v1 v2 v3 M2))
set_option maxRecDepth 4000 in
theorem t_X12_cutting_L4 {g : JG} {ad : Nat → Nat} (hs : jStr g ad) (n : Nat) : ∀ (k : Nat) (v1 v2 v3 : Int) (M : JMem), jB g D_X12_cutting ad 4 [some (.ref 167), some (ji v1), some (ji v2), some (ji v3)] [] M (f_X12_cutting_L4 n k v1 v2 v3 M) := by
  intro k
  induction k with
  | zero => intro v1 v2 v3 M; exact jO.none
  | succ k ih =>
    intro v1 v2 v3 M
    rw [f_X12_cutting_L4]
    refine jo_iload 3 d_X12_cutting_4 rfl rfl ?_
    refine jo_iconst 1 d_X12_cutting_5 ?_
    refine jo_aload 0 d_X12_cutting_6 rfl rfl ?_
    refine jo_getR (k := 0) cl_12 (Nat.le_of_ble_eq_true rfl) lk_X12_7 rfl kc_167 kr_167_0 d_X12_cutting_7 ?_
    refine jo_iconst 1 d_X12_cutting_10 ?_
    refine jo_iald (N := 3160) kc_168 d_X12_cutting_11 ?_
    refine jo_ishl d_X12_cutting_12 ?_
    refine jo_icmp_ge 74 d_X12_cutting_13 (by decide) ?_ ?_
    · skip
      refine jo_iload 2 d_X12_cutting_74 rfl rfl ?_
      exact jo_iret rfl d_X12_cutting_75
    · skip
      refine jo_iload 3 d_X12_cutting_16 rfl rfl ?_
      refine jo_aload 0 d_X12_cutting_17 rfl rfl ?_
      refine jo_callV (st := [ji v3]) (m_X12_going hs n M) ok_X12_going (And.intro (Nat.le_of_ble_eq_true rfl) (Nat.le_of_ble_eq_true rfl)) lm_X12_379 in_X12_going se_X12_going rfl kc_167 rfl rfl (And.intro (Nat.zero_le _) (Nat.zero_le _)) rfl (Nat.le_of_ble_eq_true rfl) d_X12_cutting_18 (fun r1 M2 => ?_)
      refine jo_iconst (-1) d_X12_cutting_21 ?_
      refine jo_ixor d_X12_cutting_22 ?_
      refine jo_iand d_X12_cutting_23 ?_
      refine jo_if_ne 68 d_X12_cutting_24 (by decide) ?_ ?_
      · skip
        exact jO.sub (t_X12_cutting_L68 hs n (f_X12_cutting_L4 n k) ih v1 v2 v3 M2) (And.intro rfl (And.intro rfl (And.intro rfl (And.intro rfl True.intro))))
      · skip
        refine jo_iload 2 d_X12_cutting_27 rfl rfl ?_
        refine jo_iconst (-1) d_X12_cutting_28 ?_
        refine jo_icmp_eq 46 d_X12_cutting_29 (by decide) ?_ ?_
        · skip
          exact jO.sub (t_X12_cutting_L46 hs n (f_X12_cutting_L4 n k) ih v1 v2 v3 M2) (And.intro rfl (And.intro rfl (And.intro rfl (And.intro rfl True.intro))))
        · skip
          refine jo_iload 3 d_X12_cutting_32 rfl rfl ?_
          refine jo_callS (st := []) (m_X12_bits hs n v3 M2) ok_X12_bits (And.intro (Nat.le_of_ble_eq_true rfl) (Nat.le_of_ble_eq_true rfl)) lm_X12_338 st_X12_bits rfl (And.intro (Nat.zero_le _) (Nat.zero_le _)) rfl (Nat.le_of_ble_eq_true rfl) d_X12_cutting_33 (fun r3 M4 => ?_)
          refine jo_iload 2 d_X12_cutting_36 rfl rfl ?_
          refine jo_callS (st := [ji r3]) (m_X12_bits hs n v2 M4) ok_X12_bits (And.intro (Nat.le_of_ble_eq_true rfl) (Nat.le_of_ble_eq_true rfl)) lm_X12_338 st_X12_bits rfl (And.intro (Nat.zero_le _) (Nat.zero_le _)) rfl (Nat.le_of_ble_eq_true rfl) d_X12_cutting_37 (fun r5 M6 => ?_)
          refine jo_icmp_lt 46 d_X12_cutting_40 (by decide) ?_ ?_
          · skip
            exact jO.sub (t_X12_cutting_L46 hs n (f_X12_cutting_L4 n k) ih v1 v2 v3 M6) (And.intro rfl (And.intro rfl (And.intro rfl (And.intro rfl True.intro))))
          · skip
            refine jo_goto 68 d_X12_cutting_43 (by decide) ?_
            exact jO.sub (t_X12_cutting_L68 hs n (f_X12_cutting_L4 n k) ih v1 v2 v3 M6) (And.intro rfl (And.intro rfl (And.intro rfl (And.intro rfl True.intro))))
def f_X12_cutting (n : Nat) (x1 : Int) (M : JMem) : Option (Int × JMem) := letv (-1) fun y1 => letv 0 fun y2 => f_X12_cutting_L4 n n x1 y1 y2 M
set_option maxRecDepth 4000 in
theorem t_X12_cutting {g : JG} {ad : Nat → Nat} (hs : jStr g ad) (n : Nat) (x1 : Int) (M : JMem) : jB g D_X12_cutting ad 0 [some (.ref 167), some (ji x1), none, none] [] M (f_X12_cutting n x1 M) := by
  unfold f_X12_cutting
  refine jo_iconst (-1) d_X12_cutting_0 ?_
  refine jo_istore 2 d_X12_cutting_1 rfl (Nat.le_of_ble_eq_true rfl) (fun y1 => ?_)
  refine jo_iconst 0 d_X12_cutting_2 ?_
  refine jo_istore 3 d_X12_cutting_3 rfl (Nat.le_of_ble_eq_true rfl) (fun y2 => ?_)
  exact jO.sub (t_X12_cutting_L4 hs n n x1 y1 y2 M) (And.intro rfl (And.intro rfl (And.intro rfl (And.intro rfl True.intro))))
theorem m_X12_cutting {g : JG} {ad : Nat → Nat} (hs : jStr g ad) (n : Nat) (x1 : Int) (M : JMem) : jMet g jNN ad jR D_X12_cutting yX12_cutting [.ref 167, ji x1] M (f_X12_cutting n x1 M) :=
  jMet.of (lo0 := [some (.ref 167), some (ji x1), none, none]) (by decide) rfl rfl (Nat.le_of_ble_eq_true rfl) (And.intro rfl (And.intro rfl True.intro)) (t_X12_cutting hs n x1 M)
/-! CageLeaveModel.cut(I)I -/
def D_X12_cut : JD := (RX12, cX12_cut, 2, some .int, "cut", { frames := 5, cells := 0, slots := 0, locals := 114 })
theorem ok_X12_cut : jOk D_X12_cut yX12_cut 1 := ⟨jTW_mem (k := 1963) (by decide +kernel) rfl, jTW_mem (k := 151) (by decide +kernel) rfl, ⟨by decide +kernel, by decide +kernel⟩, by decide +kernel, rfl, rfl⟩
theorem in_X12_cut : Cond.instanceMethod yX12_cut ∈ jTW := jTW_mem (k := 1961) (by decide +kernel) rfl
theorem se_X12_cut : Cond.selects yX12_cut.cls yX12_cut yX12_cut ∈ jTW := jTW_mem (k := 1962) (by decide +kernel) rfl
theorem lm_X12_306 : Cond.methodLink RX12 306 yX12_isPlace ∈ jTW := jTW_mem (k := 1758) (by decide +kernel) rfl
theorem lm_X12_393 : Cond.methodLink RX12 393 yX12_cutting ∈ jTW := jTW_mem (k := 1964) (by decide +kernel) rfl
theorem d_X12_cut_0 : decode (D_X12_cut).2.1 0 = .ok (.aload_n 0, 1) := by decide +kernel
theorem d_X12_cut_1 : decode (D_X12_cut).2.1 1 = .ok (.iload_n 1, 1) := by decide +kernel
theorem d_X12_cut_2 : decode (D_X12_cut).2.1 2 = .ok (.invokevirtual 306, 3) := by decide +kernel
theorem d_X12_cut_5 : decode (D_X12_cut).2.1 5 = .ok (.ifCond .eq 22, 3) := by decide +kernel
theorem d_X12_cut_8 : decode (D_X12_cut).2.1 8 = .ok (.iload_n 1, 1) := by decide +kernel
theorem d_X12_cut_9 : decode (D_X12_cut).2.1 9 = .ok (.ifCond .le 18, 3) := by decide +kernel
theorem d_X12_cut_12 : decode (D_X12_cut).2.1 12 = .ok (.aload_n 0, 1) := by decide +kernel
theorem d_X12_cut_13 : decode (D_X12_cut).2.1 13 = .ok (.aload_n 0, 1) := by decide +kernel
theorem d_X12_cut_14 : decode (D_X12_cut).2.1 14 = .ok (.iload_n 1, 1) := by decide +kernel
theorem d_X12_cut_15 : decode (D_X12_cut).2.1 15 = .ok (.invokevirtual 393, 3) := by decide +kernel
theorem d_X12_cut_18 : decode (D_X12_cut).2.1 18 = .ok (.invokestatic 338, 3) := by decide +kernel
theorem d_X12_cut_21 : decode (D_X12_cut).2.1 21 = .ok (.invokevirtual 91, 3) := by decide +kernel
theorem d_X12_cut_24 : decode (D_X12_cut).2.1 24 = .ok (.goto 8, 3) := by decide +kernel
theorem d_X12_cut_27 : decode (D_X12_cut).2.1 27 = .ok (.aload_n 0, 1) := by decide +kernel
theorem d_X12_cut_28 : decode (D_X12_cut).2.1 28 = .ok (.iconst 1, 1) := by decide +kernel
theorem d_X12_cut_29 : decode (D_X12_cut).2.1 29 = .ok (.invokevirtual 87, 3) := by decide +kernel
theorem d_X12_cut_32 : decode (D_X12_cut).2.1 32 = .ok (.ireturn, 1) := by decide +kernel
def f_X12_cut_L27 (n : Nat) (M : JMem) : Option (Int × JMem) := bnd (f_X12_refuse n 1 M) fun r1 M2 => some (r1, M2)
set_option maxRecDepth 4000 in
theorem t_X12_cut_L27 {g : JG} {ad : Nat → Nat} (hs : jStr g ad) (n : Nat) (M : JMem) : jB g D_X12_cut ad 27 [some (.ref 167), none] [] M (f_X12_cut_L27 n M) := by
  unfold f_X12_cut_L27
  refine jo_aload 0 d_X12_cut_27 rfl rfl ?_
  refine jo_iconst 1 d_X12_cut_28 ?_
  refine jo_callV (st := []) (m_X12_refuse hs n 1 M) ok_X12_refuse (And.intro (Nat.le_of_ble_eq_true rfl) (Nat.le_of_ble_eq_true rfl)) lm_X12_87 in_X12_refuse se_X12_refuse rfl kc_167 rfl rfl (And.intro (Nat.zero_le _) (Nat.zero_le _)) rfl (Nat.le_of_ble_eq_true rfl) d_X12_cut_29 (fun r1 M2 => ?_)
  exact jo_iret rfl d_X12_cut_32
def f_X12_cut (n : Nat) (x1 : Int) (M : JMem) : Option (Int × JMem) := bnd (f_X12_isPlace n x1 M) fun r1 M2 => if jw r1 = 0 then (f_X12_cut_L27 n M2) else (if jw x1 ≤ 0 then (f_X12_cut_L27 n M2) else (bnd (f_X12_cutting n x1 M2) fun r3 M4 => bnd (f_X12_bits n r3 M4) fun r5 M6 => bnd (f_X12_gives n r5 M6) fun r7 M8 => some (r7, M8)))
set_option maxRecDepth 4000 in
theorem t_X12_cut {g : JG} {ad : Nat → Nat} (hs : jStr g ad) (n : Nat) (x1 : Int) (M : JMem) : jB g D_X12_cut ad 0 [some (.ref 167), some (ji x1)] [] M (f_X12_cut n x1 M) := by
  unfold f_X12_cut
  refine jo_aload 0 d_X12_cut_0 rfl rfl ?_
  refine jo_iload 1 d_X12_cut_1 rfl rfl ?_
  refine jo_callV (st := []) (m_X12_isPlace hs n x1 M) ok_X12_isPlace (And.intro (Nat.le_of_ble_eq_true rfl) (Nat.le_of_ble_eq_true rfl)) lm_X12_306 in_X12_isPlace se_X12_isPlace rfl kc_167 rfl rfl (And.intro (Nat.zero_le _) (Nat.zero_le _)) rfl (Nat.le_of_ble_eq_true rfl) d_X12_cut_2 (fun r1 M2 => ?_)
  refine jo_if_eq 27 d_X12_cut_5 (by decide) ?_ ?_
  · skip
    exact jO.sub (t_X12_cut_L27 hs n M2) (And.intro rfl True.intro)
  · skip
    refine jo_iload 1 d_X12_cut_8 rfl rfl ?_
    refine jo_if_le 27 d_X12_cut_9 (by decide) ?_ ?_
    · skip
      exact jO.sub (t_X12_cut_L27 hs n M2) (And.intro rfl True.intro)
    · skip
      refine jo_aload 0 d_X12_cut_12 rfl rfl ?_
      refine jo_aload 0 d_X12_cut_13 rfl rfl ?_
      refine jo_iload 1 d_X12_cut_14 rfl rfl ?_
      refine jo_callV (st := [.ref 167]) (m_X12_cutting hs n x1 M2) ok_X12_cutting (And.intro (Nat.le_of_ble_eq_true rfl) (Nat.le_of_ble_eq_true rfl)) lm_X12_393 in_X12_cutting se_X12_cutting rfl kc_167 rfl rfl (And.intro (Nat.zero_le _) (Nat.zero_le _)) rfl (Nat.le_of_ble_eq_true rfl) d_X12_cut_15 (fun r3 M4 => ?_)
      refine jo_callS (st := [.ref 167]) (m_X12_bits hs n r3 M4) ok_X12_bits (And.intro (Nat.le_of_ble_eq_true rfl) (Nat.le_of_ble_eq_true rfl)) lm_X12_338 st_X12_bits rfl (And.intro (Nat.zero_le _) (Nat.zero_le _)) rfl (Nat.le_of_ble_eq_true rfl) d_X12_cut_18 (fun r5 M6 => ?_)
      refine jo_callV (st := []) (m_X12_gives hs n r5 M6) ok_X12_gives (And.intro (Nat.le_of_ble_eq_true rfl) (Nat.le_of_ble_eq_true rfl)) lm_X12_91 in_X12_gives se_X12_gives rfl kc_167 rfl rfl (And.intro (Nat.zero_le _) (Nat.zero_le _)) rfl (Nat.le_of_ble_eq_true rfl) d_X12_cut_21 (fun r7 M8 => ?_)
      refine jo_goto 32 d_X12_cut_24 (by decide) ?_
      exact jo_iret rfl d_X12_cut_32
theorem m_X12_cut {g : JG} {ad : Nat → Nat} (hs : jStr g ad) (n : Nat) (x1 : Int) (M : JMem) : jMet g jNN ad jR D_X12_cut yX12_cut [.ref 167, ji x1] M (f_X12_cut n x1 M) :=
  jMet.of (lo0 := [some (.ref 167), some (ji x1)]) (by decide) rfl rfl (Nat.le_of_ble_eq_true rfl) (And.intro rfl (And.intro rfl True.intro)) (t_X12_cut hs n x1 M)
/-! CageLeaveModel.cutSet(I)I -/
def D_X12_cutSet : JD := (RX12, cX12_cutSet, 2, some .int, "cutSet", { frames := 5, cells := 0, slots := 0, locals := 114 })
theorem ok_X12_cutSet : jOk D_X12_cutSet yX12_cutSet 1 := ⟨jTW_mem (k := 1971) (by decide +kernel) rfl, jTW_mem (k := 151) (by decide +kernel) rfl, ⟨by decide +kernel, by decide +kernel⟩, by decide +kernel, rfl, rfl⟩
theorem in_X12_cutSet : Cond.instanceMethod yX12_cutSet ∈ jTW := jTW_mem (k := 1969) (by decide +kernel) rfl
theorem se_X12_cutSet : Cond.selects yX12_cutSet.cls yX12_cutSet yX12_cutSet ∈ jTW := jTW_mem (k := 1970) (by decide +kernel) rfl
theorem d_X12_cutSet_0 : decode (D_X12_cutSet).2.1 0 = .ok (.aload_n 0, 1) := by decide +kernel
theorem d_X12_cutSet_1 : decode (D_X12_cutSet).2.1 1 = .ok (.iload_n 1, 1) := by decide +kernel
theorem d_X12_cutSet_2 : decode (D_X12_cutSet).2.1 2 = .ok (.invokevirtual 306, 3) := by decide +kernel
theorem d_X12_cutSet_5 : decode (D_X12_cutSet).2.1 5 = .ok (.ifCond .eq 19, 3) := by decide +kernel
theorem d_X12_cutSet_8 : decode (D_X12_cutSet).2.1 8 = .ok (.iload_n 1, 1) := by decide +kernel
theorem d_X12_cutSet_9 : decode (D_X12_cutSet).2.1 9 = .ok (.ifCond .le 15, 3) := by decide +kernel
theorem d_X12_cutSet_12 : decode (D_X12_cutSet).2.1 12 = .ok (.aload_n 0, 1) := by decide +kernel
theorem d_X12_cutSet_13 : decode (D_X12_cutSet).2.1 13 = .ok (.aload_n 0, 1) := by decide +kernel
theorem d_X12_cutSet_14 : decode (D_X12_cutSet).2.1 14 = .ok (.iload_n 1, 1) := by decide +kernel
theorem d_X12_cutSet_15 : decode (D_X12_cutSet).2.1 15 = .ok (.invokevirtual 393, 3) := by decide +kernel
theorem d_X12_cutSet_18 : decode (D_X12_cutSet).2.1 18 = .ok (.invokevirtual 91, 3) := by decide +kernel
theorem d_X12_cutSet_21 : decode (D_X12_cutSet).2.1 21 = .ok (.goto 8, 3) := by decide +kernel
theorem d_X12_cutSet_24 : decode (D_X12_cutSet).2.1 24 = .ok (.aload_n 0, 1) := by decide +kernel
theorem d_X12_cutSet_25 : decode (D_X12_cutSet).2.1 25 = .ok (.iconst 1, 1) := by decide +kernel
theorem d_X12_cutSet_26 : decode (D_X12_cutSet).2.1 26 = .ok (.invokevirtual 87, 3) := by decide +kernel
theorem d_X12_cutSet_29 : decode (D_X12_cutSet).2.1 29 = .ok (.ireturn, 1) := by decide +kernel
def f_X12_cutSet_L24 (n : Nat) (M : JMem) : Option (Int × JMem) := bnd (f_X12_refuse n 1 M) fun r1 M2 => some (r1, M2)
set_option maxRecDepth 4000 in
theorem t_X12_cutSet_L24 {g : JG} {ad : Nat → Nat} (hs : jStr g ad) (n : Nat) (M : JMem) : jB g D_X12_cutSet ad 24 [some (.ref 167), none] [] M (f_X12_cutSet_L24 n M) := by
  unfold f_X12_cutSet_L24
  refine jo_aload 0 d_X12_cutSet_24 rfl rfl ?_
  refine jo_iconst 1 d_X12_cutSet_25 ?_
  refine jo_callV (st := []) (m_X12_refuse hs n 1 M) ok_X12_refuse (And.intro (Nat.le_of_ble_eq_true rfl) (Nat.le_of_ble_eq_true rfl)) lm_X12_87 in_X12_refuse se_X12_refuse rfl kc_167 rfl rfl (And.intro (Nat.zero_le _) (Nat.zero_le _)) rfl (Nat.le_of_ble_eq_true rfl) d_X12_cutSet_26 (fun r1 M2 => ?_)
  exact jo_iret rfl d_X12_cutSet_29
def f_X12_cutSet (n : Nat) (x1 : Int) (M : JMem) : Option (Int × JMem) := bnd (f_X12_isPlace n x1 M) fun r1 M2 => if jw r1 = 0 then (f_X12_cutSet_L24 n M2) else (if jw x1 ≤ 0 then (f_X12_cutSet_L24 n M2) else (bnd (f_X12_cutting n x1 M2) fun r3 M4 => bnd (f_X12_gives n r3 M4) fun r5 M6 => some (r5, M6)))
set_option maxRecDepth 4000 in
theorem t_X12_cutSet {g : JG} {ad : Nat → Nat} (hs : jStr g ad) (n : Nat) (x1 : Int) (M : JMem) : jB g D_X12_cutSet ad 0 [some (.ref 167), some (ji x1)] [] M (f_X12_cutSet n x1 M) := by
  unfold f_X12_cutSet
  refine jo_aload 0 d_X12_cutSet_0 rfl rfl ?_
  refine jo_iload 1 d_X12_cutSet_1 rfl rfl ?_
  refine jo_callV (st := []) (m_X12_isPlace hs n x1 M) ok_X12_isPlace (And.intro (Nat.le_of_ble_eq_true rfl) (Nat.le_of_ble_eq_true rfl)) lm_X12_306 in_X12_isPlace se_X12_isPlace rfl kc_167 rfl rfl (And.intro (Nat.zero_le _) (Nat.zero_le _)) rfl (Nat.le_of_ble_eq_true rfl) d_X12_cutSet_2 (fun r1 M2 => ?_)
  refine jo_if_eq 24 d_X12_cutSet_5 (by decide) ?_ ?_
  · skip
    exact jO.sub (t_X12_cutSet_L24 hs n M2) (And.intro rfl True.intro)
  · skip
    refine jo_iload 1 d_X12_cutSet_8 rfl rfl ?_
    refine jo_if_le 24 d_X12_cutSet_9 (by decide) ?_ ?_
    · skip
      exact jO.sub (t_X12_cutSet_L24 hs n M2) (And.intro rfl True.intro)
    · skip
      refine jo_aload 0 d_X12_cutSet_12 rfl rfl ?_
      refine jo_aload 0 d_X12_cutSet_13 rfl rfl ?_
      refine jo_iload 1 d_X12_cutSet_14 rfl rfl ?_
      refine jo_callV (st := [.ref 167]) (m_X12_cutting hs n x1 M2) ok_X12_cutting (And.intro (Nat.le_of_ble_eq_true rfl) (Nat.le_of_ble_eq_true rfl)) lm_X12_393 in_X12_cutting se_X12_cutting rfl kc_167 rfl rfl (And.intro (Nat.zero_le _) (Nat.zero_le _)) rfl (Nat.le_of_ble_eq_true rfl) d_X12_cutSet_15 (fun r3 M4 => ?_)
      refine jo_callV (st := []) (m_X12_gives hs n r3 M4) ok_X12_gives (And.intro (Nat.le_of_ble_eq_true rfl) (Nat.le_of_ble_eq_true rfl)) lm_X12_91 in_X12_gives se_X12_gives rfl kc_167 rfl rfl (And.intro (Nat.zero_le _) (Nat.zero_le _)) rfl (Nat.le_of_ble_eq_true rfl) d_X12_cutSet_18 (fun r5 M6 => ?_)
      refine jo_goto 29 d_X12_cutSet_21 (by decide) ?_
      exact jo_iret rfl d_X12_cutSet_29
theorem m_X12_cutSet {g : JG} {ad : Nat → Nat} (hs : jStr g ad) (n : Nat) (x1 : Int) (M : JMem) : jMet g jNN ad jR D_X12_cutSet yX12_cutSet [.ref 167, ji x1] M (f_X12_cutSet n x1 M) :=
  jMet.of (lo0 := [some (.ref 167), some (ji x1)]) (by decide) rfl rfl (Nat.le_of_ble_eq_true rfl) (And.intro rfl (And.intro rfl True.intro)) (t_X12_cutSet hs n x1 M)
/-! CageLeaveModel.getsOff(I)V -/
def D_X12_getsOff : JD := (RX12, cX12_getsOff, 3, none, "getsOff", { frames := 3, cells := 0, slots := 0, locals := 63 })
theorem ok_X12_getsOff : jOk D_X12_getsOff yX12_getsOff 1 := ⟨jTW_mem (k := 1793) (by decide +kernel) rfl, jTW_mem (k := 151) (by decide +kernel) rfl, ⟨by decide +kernel, by decide +kernel⟩, by decide +kernel, rfl, rfl⟩
theorem in_X12_getsOff : Cond.instanceMethod yX12_getsOff ∈ jTW := jTW_mem (k := 1792) (by decide +kernel) rfl
theorem se_X12_getsOff : Cond.selects yX12_getsOff.cls yX12_getsOff yX12_getsOff ∈ jTW := jTW_mem (k := 98) (by decide +kernel) rfl
theorem d_X12_getsOff_0 : decode (D_X12_getsOff).2.1 0 = .ok (.aload_n 0, 1) := by decide +kernel
theorem d_X12_getsOff_1 : decode (D_X12_getsOff).2.1 1 = .ok (.iload_n 1, 1) := by decide +kernel
theorem d_X12_getsOff_2 : decode (D_X12_getsOff).2.1 2 = .ok (.bipush 7, 2) := by decide +kernel
theorem d_X12_getsOff_4 : decode (D_X12_getsOff).2.1 4 = .ok (.invokevirtual 276, 3) := by decide +kernel
theorem d_X12_getsOff_7 : decode (D_X12_getsOff).2.1 7 = .ok (.bipush 10, 2) := by decide +kernel
theorem d_X12_getsOff_9 : decode (D_X12_getsOff).2.1 9 = .ok (.isub, 1) := by decide +kernel
theorem d_X12_getsOff_10 : decode (D_X12_getsOff).2.1 10 = .ok (.istore_n 2, 1) := by decide +kernel
theorem d_X12_getsOff_11 : decode (D_X12_getsOff).2.1 11 = .ok (.aload_n 0, 1) := by decide +kernel
theorem d_X12_getsOff_12 : decode (D_X12_getsOff).2.1 12 = .ok (.iload_n 1, 1) := by decide +kernel
theorem d_X12_getsOff_13 : decode (D_X12_getsOff).2.1 13 = .ok (.invokevirtual 279, 3) := by decide +kernel
theorem d_X12_getsOff_16 : decode (D_X12_getsOff).2.1 16 = .ok (.ifCond .ne 30, 3) := by decide +kernel
theorem d_X12_getsOff_19 : decode (D_X12_getsOff).2.1 19 = .ok (.iload_n 2, 1) := by decide +kernel
theorem d_X12_getsOff_20 : decode (D_X12_getsOff).2.1 20 = .ok (.ifCond .lt 26, 3) := by decide +kernel
theorem d_X12_getsOff_23 : decode (D_X12_getsOff).2.1 23 = .ok (.aload_n 0, 1) := by decide +kernel
theorem d_X12_getsOff_24 : decode (D_X12_getsOff).2.1 24 = .ok (.iload_n 1, 1) := by decide +kernel
theorem d_X12_getsOff_25 : decode (D_X12_getsOff).2.1 25 = .ok (.bipush 8, 2) := by decide +kernel
theorem d_X12_getsOff_27 : decode (D_X12_getsOff).2.1 27 = .ok (.invokevirtual 276, 3) := by decide +kernel
theorem d_X12_getsOff_30 : decode (D_X12_getsOff).2.1 30 = .ok (.aload_n 0, 1) := by decide +kernel
theorem d_X12_getsOff_31 : decode (D_X12_getsOff).2.1 31 = .ok (.iload_n 2, 1) := by decide +kernel
theorem d_X12_getsOff_32 : decode (D_X12_getsOff).2.1 32 = .ok (.iconst 3, 1) := by decide +kernel
theorem d_X12_getsOff_33 : decode (D_X12_getsOff).2.1 33 = .ok (.invokevirtual 288, 3) := by decide +kernel
theorem d_X12_getsOff_36 : decode (D_X12_getsOff).2.1 36 = .ok (.iadd, 1) := by decide +kernel
theorem d_X12_getsOff_37 : decode (D_X12_getsOff).2.1 37 = .ok (.aload_n 0, 1) := by decide +kernel
theorem d_X12_getsOff_38 : decode (D_X12_getsOff).2.1 38 = .ok (.getfield 7, 3) := by decide +kernel
theorem d_X12_getsOff_41 : decode (D_X12_getsOff).2.1 41 = .ok (.iconst 5, 1) := by decide +kernel
theorem d_X12_getsOff_42 : decode (D_X12_getsOff).2.1 42 = .ok (.iaload, 1) := by decide +kernel
theorem d_X12_getsOff_43 : decode (D_X12_getsOff).2.1 43 = .ok (.if_icmp .eq 4, 3) := by decide +kernel
theorem d_X12_getsOff_46 : decode (D_X12_getsOff).2.1 46 = .ok (.return_, 1) := by decide +kernel
theorem d_X12_getsOff_47 : decode (D_X12_getsOff).2.1 47 = .ok (.aload_n 0, 1) := by decide +kernel
theorem d_X12_getsOff_48 : decode (D_X12_getsOff).2.1 48 = .ok (.getfield 7, 3) := by decide +kernel
theorem d_X12_getsOff_51 : decode (D_X12_getsOff).2.1 51 = .ok (.iload_n 1, 1) := by decide +kernel
theorem d_X12_getsOff_52 : decode (D_X12_getsOff).2.1 52 = .ok (.invokestatic 270, 3) := by decide +kernel
theorem d_X12_getsOff_55 : decode (D_X12_getsOff).2.1 55 = .ok (.bipush 7, 2) := by decide +kernel
theorem d_X12_getsOff_57 : decode (D_X12_getsOff).2.1 57 = .ok (.iadd, 1) := by decide +kernel
theorem d_X12_getsOff_58 : decode (D_X12_getsOff).2.1 58 = .ok (.aload_n 0, 1) := by decide +kernel
theorem d_X12_getsOff_59 : decode (D_X12_getsOff).2.1 59 = .ok (.iload_n 2, 1) := by decide +kernel
theorem d_X12_getsOff_60 : decode (D_X12_getsOff).2.1 60 = .ok (.iconst 1, 1) := by decide +kernel
theorem d_X12_getsOff_61 : decode (D_X12_getsOff).2.1 61 = .ok (.invokevirtual 288, 3) := by decide +kernel
theorem d_X12_getsOff_64 : decode (D_X12_getsOff).2.1 64 = .ok (.iastore, 1) := by decide +kernel
theorem d_X12_getsOff_65 : decode (D_X12_getsOff).2.1 65 = .ok (.return_, 1) := by decide +kernel
def f_X12_getsOff (n : Nat) (x1 : Int) (M : JMem) : Option (Int × JMem) := bnd (f_X12_beastOf n x1 7 M) fun r1 M2 => letv (r1 - 10) fun y3 => bnd (f_X12_isEaten n x1 M2) fun r4 M5 => if jw r4 = 0 then (if jw y3 < 0 then (some (0, M5)) else (bnd (f_X12_beastOf n x1 8 M5) fun r6 M7 => bnd (f_X12_trainOf n y3 3 M7) fun r8 M9 => chk (jin 5 3160) <| if jw (r6 + r8) = jw (M9 168 (jw 5).toNat) then (bnd (f_X12_beastRow n x1 M9) fun r10 M11 => bnd (f_X12_trainOf n y3 1 M11) fun r12 M13 => chk (jin (r10 + 7) 3160) <| letm (jup M13 168 (jw (r10 + 7)).toNat r12) fun M14 => some (0, M14)) else (some (0, M9)))) else (some (0, M5))
set_option maxRecDepth 4000 in
theorem t_X12_getsOff {g : JG} {ad : Nat → Nat} (hs : jStr g ad) (n : Nat) (x1 : Int) (M : JMem) : jB g D_X12_getsOff ad 0 [some (.ref 167), some (ji x1), none] [] M (f_X12_getsOff n x1 M) := by
  unfold f_X12_getsOff
  refine jo_aload 0 d_X12_getsOff_0 rfl rfl ?_
  refine jo_iload 1 d_X12_getsOff_1 rfl rfl ?_
  refine jo_bipush 7 d_X12_getsOff_2 (by decide) ?_
  refine jo_callV (st := []) (m_X12_beastOf hs n x1 7 M) ok_X12_beastOf (And.intro (Nat.le_of_ble_eq_true rfl) (Nat.le_of_ble_eq_true rfl)) lm_X12_276 in_X12_beastOf se_X12_beastOf rfl kc_167 rfl rfl (And.intro (Nat.zero_le _) (Nat.zero_le _)) rfl (Nat.le_of_ble_eq_true rfl) d_X12_getsOff_4 (fun r1 M2 => ?_)
  refine jo_bipush 10 d_X12_getsOff_7 (by decide) ?_
  refine jo_isub d_X12_getsOff_9 ?_
  refine jo_istore 2 d_X12_getsOff_10 rfl (Nat.le_of_ble_eq_true rfl) (fun y3 => ?_)
  refine jo_aload 0 d_X12_getsOff_11 rfl rfl ?_
  refine jo_iload 1 d_X12_getsOff_12 rfl rfl ?_
  refine jo_callV (st := []) (m_X12_isEaten hs n x1 M2) ok_X12_isEaten (And.intro (Nat.le_of_ble_eq_true rfl) (Nat.le_of_ble_eq_true rfl)) lm_X12_279 in_X12_isEaten se_X12_isEaten rfl kc_167 rfl rfl (And.intro (Nat.zero_le _) (Nat.zero_le _)) rfl (Nat.le_of_ble_eq_true rfl) d_X12_getsOff_13 (fun r4 M5 => ?_)
  refine jo_if_ne 46 d_X12_getsOff_16 (by decide) ?_ ?_
  · skip
    exact jo_vret rfl d_X12_getsOff_46
  · skip
    refine jo_iload 2 d_X12_getsOff_19 rfl rfl ?_
    refine jo_if_lt 46 d_X12_getsOff_20 (by decide) ?_ ?_
    · skip
      exact jo_vret rfl d_X12_getsOff_46
    · skip
      refine jo_aload 0 d_X12_getsOff_23 rfl rfl ?_
      refine jo_iload 1 d_X12_getsOff_24 rfl rfl ?_
      refine jo_bipush 8 d_X12_getsOff_25 (by decide) ?_
      refine jo_callV (st := []) (m_X12_beastOf hs n x1 8 M5) ok_X12_beastOf (And.intro (Nat.le_of_ble_eq_true rfl) (Nat.le_of_ble_eq_true rfl)) lm_X12_276 in_X12_beastOf se_X12_beastOf rfl kc_167 rfl rfl (And.intro (Nat.zero_le _) (Nat.zero_le _)) rfl (Nat.le_of_ble_eq_true rfl) d_X12_getsOff_27 (fun r6 M7 => ?_)
      refine jo_aload 0 d_X12_getsOff_30 rfl rfl ?_
      refine jo_iload 2 d_X12_getsOff_31 rfl rfl ?_
      refine jo_iconst 3 d_X12_getsOff_32 ?_
      refine jo_callV (st := [ji r6]) (m_X12_trainOf hs n y3 3 M7) ok_X12_trainOf (And.intro (Nat.le_of_ble_eq_true rfl) (Nat.le_of_ble_eq_true rfl)) lm_X12_288 in_X12_trainOf se_X12_trainOf rfl kc_167 rfl rfl (And.intro (Nat.zero_le _) (Nat.zero_le _)) rfl (Nat.le_of_ble_eq_true rfl) d_X12_getsOff_33 (fun r8 M9 => ?_)
      refine jo_iadd d_X12_getsOff_36 ?_
      refine jo_aload 0 d_X12_getsOff_37 rfl rfl ?_
      refine jo_getR (k := 0) cl_12 (Nat.le_of_ble_eq_true rfl) lk_X12_7 rfl kc_167 kr_167_0 d_X12_getsOff_38 ?_
      refine jo_iconst 5 d_X12_getsOff_41 ?_
      refine jo_iald (N := 3160) kc_168 d_X12_getsOff_42 ?_
      refine jo_icmp_eq 47 d_X12_getsOff_43 (by decide) ?_ ?_
      · skip
        refine jo_aload 0 d_X12_getsOff_47 rfl rfl ?_
        refine jo_getR (k := 0) cl_12 (Nat.le_of_ble_eq_true rfl) lk_X12_7 rfl kc_167 kr_167_0 d_X12_getsOff_48 ?_
        refine jo_iload 1 d_X12_getsOff_51 rfl rfl ?_
        refine jo_callS (st := [.ref 168]) (m_X12_beastRow hs n x1 M9) ok_X12_beastRow (And.intro (Nat.le_of_ble_eq_true rfl) (Nat.le_of_ble_eq_true rfl)) lm_X12_270 st_X12_beastRow rfl (And.intro (Nat.zero_le _) (Nat.zero_le _)) rfl (Nat.le_of_ble_eq_true rfl) d_X12_getsOff_52 (fun r10 M11 => ?_)
        refine jo_bipush 7 d_X12_getsOff_55 (by decide) ?_
        refine jo_iadd d_X12_getsOff_57 ?_
        refine jo_aload 0 d_X12_getsOff_58 rfl rfl ?_
        refine jo_iload 2 d_X12_getsOff_59 rfl rfl ?_
        refine jo_iconst 1 d_X12_getsOff_60 ?_
        refine jo_callV (st := [ji (r10 + 7), .ref 168]) (m_X12_trainOf hs n y3 1 M11) ok_X12_trainOf (And.intro (Nat.le_of_ble_eq_true rfl) (Nat.le_of_ble_eq_true rfl)) lm_X12_288 in_X12_trainOf se_X12_trainOf rfl kc_167 rfl rfl (And.intro (Nat.zero_le _) (Nat.zero_le _)) rfl (Nat.le_of_ble_eq_true rfl) d_X12_getsOff_61 (fun r12 M13 => ?_)
        refine jo_iast (N := 3160) kc_168 d_X12_getsOff_64 (fun M14 => ?_)
        exact jo_vret rfl d_X12_getsOff_65
      · skip
        exact jo_vret rfl d_X12_getsOff_46
theorem m_X12_getsOff {g : JG} {ad : Nat → Nat} (hs : jStr g ad) (n : Nat) (x1 : Int) (M : JMem) : jMet g jNN ad jR D_X12_getsOff yX12_getsOff [.ref 167, ji x1] M (f_X12_getsOff n x1 M) :=
  jMet.of (lo0 := [some (.ref 167), some (ji x1), none]) (by decide) rfl rfl (Nat.le_of_ble_eq_true rfl) (And.intro rfl (And.intro rfl True.intro)) (t_X12_getsOff hs n x1 M)
/-! CageLeaveModel.leaves(I)V -/
def D_X12_leaves : JD := (RX12, cX12_leaves, 5, none, "leaves", { frames := 4, cells := 0, slots := 0, locals := 84 })
theorem ok_X12_leaves : jOk D_X12_leaves yX12_leaves 1 := ⟨jTW_mem (k := 1797) (by decide +kernel) rfl, jTW_mem (k := 151) (by decide +kernel) rfl, ⟨by decide +kernel, by decide +kernel⟩, by decide +kernel, rfl, rfl⟩
theorem in_X12_leaves : Cond.instanceMethod yX12_leaves ∈ jTW := jTW_mem (k := 1796) (by decide +kernel) rfl
theorem se_X12_leaves : Cond.selects yX12_leaves.cls yX12_leaves yX12_leaves ∈ jTW := jTW_mem (k := 99) (by decide +kernel) rfl
theorem d_X12_leaves_0 : decode (D_X12_leaves).2.1 0 = .ok (.aload_n 0, 1) := by decide +kernel
theorem d_X12_leaves_1 : decode (D_X12_leaves).2.1 1 = .ok (.iload_n 1, 1) := by decide +kernel
theorem d_X12_leaves_2 : decode (D_X12_leaves).2.1 2 = .ok (.iconst 2, 1) := by decide +kernel
theorem d_X12_leaves_3 : decode (D_X12_leaves).2.1 3 = .ok (.invokevirtual 288, 3) := by decide +kernel
theorem d_X12_leaves_6 : decode (D_X12_leaves).2.1 6 = .ok (.aload_n 0, 1) := by decide +kernel
theorem d_X12_leaves_7 : decode (D_X12_leaves).2.1 7 = .ok (.getfield 7, 3) := by decide +kernel
theorem d_X12_leaves_10 : decode (D_X12_leaves).2.1 10 = .ok (.iconst 5, 1) := by decide +kernel
theorem d_X12_leaves_11 : decode (D_X12_leaves).2.1 11 = .ok (.iaload, 1) := by decide +kernel
theorem d_X12_leaves_12 : decode (D_X12_leaves).2.1 12 = .ok (.if_icmp .ne 13, 3) := by decide +kernel
theorem d_X12_leaves_15 : decode (D_X12_leaves).2.1 15 = .ok (.aload_n 0, 1) := by decide +kernel
theorem d_X12_leaves_16 : decode (D_X12_leaves).2.1 16 = .ok (.iload_n 1, 1) := by decide +kernel
theorem d_X12_leaves_17 : decode (D_X12_leaves).2.1 17 = .ok (.iconst 5, 1) := by decide +kernel
theorem d_X12_leaves_18 : decode (D_X12_leaves).2.1 18 = .ok (.invokevirtual 288, 3) := by decide +kernel
theorem d_X12_leaves_21 : decode (D_X12_leaves).2.1 21 = .ok (.iconst 1, 1) := by decide +kernel
theorem d_X12_leaves_22 : decode (D_X12_leaves).2.1 22 = .ok (.if_icmp .ne 4, 3) := by decide +kernel
theorem d_X12_leaves_25 : decode (D_X12_leaves).2.1 25 = .ok (.return_, 1) := by decide +kernel
theorem d_X12_leaves_26 : decode (D_X12_leaves).2.1 26 = .ok (.aload_n 0, 1) := by decide +kernel
theorem d_X12_leaves_27 : decode (D_X12_leaves).2.1 27 = .ok (.iload_n 1, 1) := by decide +kernel
theorem d_X12_leaves_28 : decode (D_X12_leaves).2.1 28 = .ok (.iconst 4, 1) := by decide +kernel
theorem d_X12_leaves_29 : decode (D_X12_leaves).2.1 29 = .ok (.invokevirtual 288, 3) := by decide +kernel
theorem d_X12_leaves_32 : decode (D_X12_leaves).2.1 32 = .ok (.istore_n 2, 1) := by decide +kernel
theorem d_X12_leaves_33 : decode (D_X12_leaves).2.1 33 = .ok (.aload_n 0, 1) := by decide +kernel
theorem d_X12_leaves_34 : decode (D_X12_leaves).2.1 34 = .ok (.iload_n 1, 1) := by decide +kernel
theorem d_X12_leaves_35 : decode (D_X12_leaves).2.1 35 = .ok (.iconst 0, 1) := by decide +kernel
theorem d_X12_leaves_36 : decode (D_X12_leaves).2.1 36 = .ok (.invokevirtual 288, 3) := by decide +kernel
theorem d_X12_leaves_39 : decode (D_X12_leaves).2.1 39 = .ok (.istore_n 3, 1) := by decide +kernel
theorem d_X12_leaves_40 : decode (D_X12_leaves).2.1 40 = .ok (.iconst 0, 1) := by decide +kernel
theorem d_X12_leaves_41 : decode (D_X12_leaves).2.1 41 = .ok (.istore 4, 2) := by decide +kernel
theorem d_X12_leaves_43 : decode (D_X12_leaves).2.1 43 = .ok (.iload 4, 2) := by decide +kernel
theorem d_X12_leaves_45 : decode (D_X12_leaves).2.1 45 = .ok (.aload_n 0, 1) := by decide +kernel
theorem d_X12_leaves_46 : decode (D_X12_leaves).2.1 46 = .ok (.getfield 7, 3) := by decide +kernel
theorem d_X12_leaves_49 : decode (D_X12_leaves).2.1 49 = .ok (.iconst 2, 1) := by decide +kernel
theorem d_X12_leaves_50 : decode (D_X12_leaves).2.1 50 = .ok (.iaload, 1) := by decide +kernel
theorem d_X12_leaves_51 : decode (D_X12_leaves).2.1 51 = .ok (.if_icmp .ge 97, 3) := by decide +kernel
theorem d_X12_leaves_54 : decode (D_X12_leaves).2.1 54 = .ok (.iload_n 2, 1) := by decide +kernel
theorem d_X12_leaves_55 : decode (D_X12_leaves).2.1 55 = .ok (.ifCond .le 93, 3) := by decide +kernel
theorem d_X12_leaves_58 : decode (D_X12_leaves).2.1 58 = .ok (.aload_n 0, 1) := by decide +kernel
theorem d_X12_leaves_59 : decode (D_X12_leaves).2.1 59 = .ok (.iload 4, 2) := by decide +kernel
theorem d_X12_leaves_61 : decode (D_X12_leaves).2.1 61 = .ok (.invokevirtual 282, 3) := by decide +kernel
theorem d_X12_leaves_64 : decode (D_X12_leaves).2.1 64 = .ok (.iload_n 3, 1) := by decide +kernel
theorem d_X12_leaves_65 : decode (D_X12_leaves).2.1 65 = .ok (.if_icmp .ne 77, 3) := by decide +kernel
theorem d_X12_leaves_68 : decode (D_X12_leaves).2.1 68 = .ok (.aload_n 0, 1) := by decide +kernel
theorem d_X12_leaves_69 : decode (D_X12_leaves).2.1 69 = .ok (.aload_n 0, 1) := by decide +kernel
theorem d_X12_leaves_70 : decode (D_X12_leaves).2.1 70 = .ok (.iload 4, 2) := by decide +kernel
theorem d_X12_leaves_72 : decode (D_X12_leaves).2.1 72 = .ok (.iconst 5, 1) := by decide +kernel
theorem d_X12_leaves_73 : decode (D_X12_leaves).2.1 73 = .ok (.invokevirtual 276, 3) := by decide +kernel
theorem d_X12_leaves_76 : decode (D_X12_leaves).2.1 76 = .ok (.iload_n 1, 1) := by decide +kernel
theorem d_X12_leaves_77 : decode (D_X12_leaves).2.1 77 = .ok (.invokevirtual 315, 3) := by decide +kernel
theorem d_X12_leaves_80 : decode (D_X12_leaves).2.1 80 = .ok (.ifCond .ne 6, 3) := by decide +kernel
theorem d_X12_leaves_83 : decode (D_X12_leaves).2.1 83 = .ok (.goto 59, 3) := by decide +kernel
theorem d_X12_leaves_86 : decode (D_X12_leaves).2.1 86 = .ok (.iload_n 3, 1) := by decide +kernel
theorem d_X12_leaves_87 : decode (D_X12_leaves).2.1 87 = .ok (.ifCond .ne 16, 3) := by decide +kernel
theorem d_X12_leaves_90 : decode (D_X12_leaves).2.1 90 = .ok (.aload_n 0, 1) := by decide +kernel
theorem d_X12_leaves_91 : decode (D_X12_leaves).2.1 91 = .ok (.iload 4, 2) := by decide +kernel
theorem d_X12_leaves_93 : decode (D_X12_leaves).2.1 93 = .ok (.iconst 2, 1) := by decide +kernel
theorem d_X12_leaves_94 : decode (D_X12_leaves).2.1 94 = .ok (.invokevirtual 276, 3) := by decide +kernel
theorem d_X12_leaves_97 : decode (D_X12_leaves).2.1 97 = .ok (.ifCond .ne 6, 3) := by decide +kernel
theorem d_X12_leaves_100 : decode (D_X12_leaves).2.1 100 = .ok (.goto 42, 3) := by decide +kernel
theorem d_X12_leaves_103 : decode (D_X12_leaves).2.1 103 = .ok (.aload_n 0, 1) := by decide +kernel
theorem d_X12_leaves_104 : decode (D_X12_leaves).2.1 104 = .ok (.getfield 7, 3) := by decide +kernel
theorem d_X12_leaves_107 : decode (D_X12_leaves).2.1 107 = .ok (.iload 4, 2) := by decide +kernel
theorem d_X12_leaves_109 : decode (D_X12_leaves).2.1 109 = .ok (.invokestatic 270, 3) := by decide +kernel
theorem d_X12_leaves_112 : decode (D_X12_leaves).2.1 112 = .ok (.bipush 7, 2) := by decide +kernel
theorem d_X12_leaves_114 : decode (D_X12_leaves).2.1 114 = .ok (.iadd, 1) := by decide +kernel
theorem d_X12_leaves_115 : decode (D_X12_leaves).2.1 115 = .ok (.bipush 10, 2) := by decide +kernel
theorem d_X12_leaves_117 : decode (D_X12_leaves).2.1 117 = .ok (.iload_n 1, 1) := by decide +kernel
theorem d_X12_leaves_118 : decode (D_X12_leaves).2.1 118 = .ok (.iadd, 1) := by decide +kernel
theorem d_X12_leaves_119 : decode (D_X12_leaves).2.1 119 = .ok (.iastore, 1) := by decide +kernel
theorem d_X12_leaves_120 : decode (D_X12_leaves).2.1 120 = .ok (.aload_n 0, 1) := by decide +kernel
theorem d_X12_leaves_121 : decode (D_X12_leaves).2.1 121 = .ok (.getfield 7, 3) := by decide +kernel
theorem d_X12_leaves_124 : decode (D_X12_leaves).2.1 124 = .ok (.iload 4, 2) := by decide +kernel
theorem d_X12_leaves_126 : decode (D_X12_leaves).2.1 126 = .ok (.invokestatic 270, 3) := by decide +kernel
theorem d_X12_leaves_129 : decode (D_X12_leaves).2.1 129 = .ok (.bipush 8, 2) := by decide +kernel
theorem d_X12_leaves_131 : decode (D_X12_leaves).2.1 131 = .ok (.iadd, 1) := by decide +kernel
theorem d_X12_leaves_132 : decode (D_X12_leaves).2.1 132 = .ok (.aload_n 0, 1) := by decide +kernel
theorem d_X12_leaves_133 : decode (D_X12_leaves).2.1 133 = .ok (.getfield 7, 3) := by decide +kernel
theorem d_X12_leaves_136 : decode (D_X12_leaves).2.1 136 = .ok (.iconst 5, 1) := by decide +kernel
theorem d_X12_leaves_137 : decode (D_X12_leaves).2.1 137 = .ok (.iaload, 1) := by decide +kernel
theorem d_X12_leaves_138 : decode (D_X12_leaves).2.1 138 = .ok (.iastore, 1) := by decide +kernel
theorem d_X12_leaves_139 : decode (D_X12_leaves).2.1 139 = .ok (.iinc 2 (-1), 3) := by decide +kernel
theorem d_X12_leaves_142 : decode (D_X12_leaves).2.1 142 = .ok (.iinc 4 1, 3) := by decide +kernel
theorem d_X12_leaves_145 : decode (D_X12_leaves).2.1 145 = .ok (.goto (-102), 3) := by decide +kernel
theorem d_X12_leaves_148 : decode (D_X12_leaves).2.1 148 = .ok (.return_, 1) := by decide +kernel
def f_X12_leaves_L142 (n : Nat) (r43 : Int → Int → Int → Int → JMem → Option (Int × JMem)) (v1 v2 v3 v4 : Int) (M : JMem) : Option (Int × JMem) := letv (v4 + 1) fun y1 => r43 v1 v2 v3 y1 M
set_option maxRecDepth 4000 in
theorem t_X12_leaves_L142 {g : JG} {ad : Nat → Nat} (hs : jStr g ad) (n : Nat) (r43 : Int → Int → Int → Int → JMem → Option (Int × JMem)) (hr43 : ∀ (v1 v2 v3 v4 : Int) (M : JMem), jB g D_X12_leaves ad 43 [some (.ref 167), some (ji v1), some (ji v2), some (ji v3), some (ji v4)] [] M (r43 v1 v2 v3 v4 M)) (v1 v2 v3 v4 : Int) (M : JMem) : jB g D_X12_leaves ad 142 [some (.ref 167), some (ji v1), some (ji v2), some (ji v3), some (ji v4)] [] M (f_X12_leaves_L142 n r43 v1 v2 v3 v4 M) := by
  unfold f_X12_leaves_L142
  refine jo_iinc 4 d_X12_leaves_142 rfl (Nat.le_of_ble_eq_true rfl) (fun y1 => ?_)
  refine jo_goto 43 d_X12_leaves_145 (by decide) ?_
  exact jO.sub (hr43 v1 v2 v3 y1 M) (And.intro rfl (And.intro rfl (And.intro rfl (And.intro rfl (And.intro rfl True.intro)))))
def f_X12_leaves_L103 (n : Nat) (r43 : Int → Int → Int → Int → JMem → Option (Int × JMem)) (v1 v2 v3 v4 : Int) (M : JMem) : Option (Int × JMem) := bnd (f_X12_beastRow n v4 M) fun r1 M2 => chk (jin (r1 + 7) 3160) <| letm (jup M2 168 (jw (r1 + 7)).toNat (10 + v1)) fun M3 => bnd (f_X12_beastRow n v4 M3) fun r4 M5 => chk (jin 5 3160) <| chk (jin (r4 + 8) 3160) <| letm (jup M5 168 (jw (r4 + 8)).toNat (M5 168 (jw 5).toNat)) fun M6 => letv (v2 + (-1)) fun y7 => f_X12_leaves_L142 n r43 v1 y7 v3 v4 M6
set_option maxRecDepth 4000 in
theorem t_X12_leaves_L103 {g : JG} {ad : Nat → Nat} (hs : jStr g ad) (n : Nat) (r43 : Int → Int → Int → Int → JMem → Option (Int × JMem)) (hr43 : ∀ (v1 v2 v3 v4 : Int) (M : JMem), jB g D_X12_leaves ad 43 [some (.ref 167), some (ji v1), some (ji v2), some (ji v3), some (ji v4)] [] M (r43 v1 v2 v3 v4 M)) (v1 v2 v3 v4 : Int) (M : JMem) : jB g D_X12_leaves ad 103 [some (.ref 167), some (ji v1), some (ji v2), some (ji v3), some (ji v4)] [] M (f_X12_leaves_L103 n r43 v1 v2 v3 v4 M) := by
  unfold f_X12_leaves_L103
  refine jo_aload 0 d_X12_leaves_103 rfl rfl ?_
  refine jo_getR (k := 0) cl_12 (Nat.le_of_ble_eq_true rfl) lk_X12_7 rfl kc_167 kr_167_0 d_X12_leaves_104 ?_
  refine jo_iloadW 4 d_X12_leaves_107 rfl ?_
  refine jo_callS (st := [.ref 168]) (m_X12_beastRow hs n v4 M) ok_X12_beastRow (And.intro (Nat.le_of_ble_eq_true rfl) (Nat.le_of_ble_eq_true rfl)) lm_X12_270 st_X12_beastRow rfl (And.intro (Nat.zero_le _) (Nat.zero_le _)) rfl (Nat.le_of_ble_eq_true rfl) d_X12_leaves_109 (fun r1 M2 => ?_)
  refine jo_bipush 7 d_X12_leaves_112 (by decide) ?_
  refine jo_iadd d_X12_leaves_114 ?_
  refine jo_bipush 10 d_X12_leaves_115 (by decide) ?_
  refine jo_iload 1 d_X12_leaves_117 rfl rfl ?_
  refine jo_iadd d_X12_leaves_118 ?_
  refine jo_iast (N := 3160) kc_168 d_X12_leaves_119 (fun M3 => ?_)
  refine jo_aload 0 d_X12_leaves_120 rfl rfl ?_
  refine jo_getR (k := 0) cl_12 (Nat.le_of_ble_eq_true rfl) lk_X12_7 rfl kc_167 kr_167_0 d_X12_leaves_121 ?_
  refine jo_iloadW 4 d_X12_leaves_124 rfl ?_
  refine jo_callS (st := [.ref 168]) (m_X12_beastRow hs n v4 M3) ok_X12_beastRow (And.intro (Nat.le_of_ble_eq_true rfl) (Nat.le_of_ble_eq_true rfl)) lm_X12_270 st_X12_beastRow rfl (And.intro (Nat.zero_le _) (Nat.zero_le _)) rfl (Nat.le_of_ble_eq_true rfl) d_X12_leaves_126 (fun r4 M5 => ?_)
  refine jo_bipush 8 d_X12_leaves_129 (by decide) ?_
  refine jo_iadd d_X12_leaves_131 ?_
  refine jo_aload 0 d_X12_leaves_132 rfl rfl ?_
  refine jo_getR (k := 0) cl_12 (Nat.le_of_ble_eq_true rfl) lk_X12_7 rfl kc_167 kr_167_0 d_X12_leaves_133 ?_
  refine jo_iconst 5 d_X12_leaves_136 ?_
  refine jo_iald (N := 3160) kc_168 d_X12_leaves_137 ?_
  refine jo_iast (N := 3160) kc_168 d_X12_leaves_138 (fun M6 => ?_)
  refine jo_iinc 2 d_X12_leaves_139 rfl (Nat.le_of_ble_eq_true rfl) (fun y7 => ?_)
  exact jO.sub (t_X12_leaves_L142 hs n r43 hr43 v1 y7 v3 v4 M6) (And.intro rfl (And.intro rfl (And.intro rfl (And.intro rfl (And.intro rfl True.intro)))))
def f_X12_leaves_L43 (n : Nat) : Nat → Int → Int → Int → Int → JMem → Option (Int × JMem)
  | 0, _, _, _, _, _ => none
  | k + 1, v1, v2, v3, v4, M => chk (jin 2 3160) <| if jw (M 168 (jw 2).toNat) ≤ jw v4 then (some (0, M)) else (if jw v2 ≤ 0 then (some (0, M)) else (bnd (f_X12_whereOf n v4 M) fun r1 M2 => if jw r1 = jw v3 then (bnd (f_X12_beastOf n v4 5 M2) fun r3 M4 => bnd (f_X12_isIn n r3 v1 M4) fun r5 M6 => if jw r5 = 0 then (f_X12_leaves_L142 n (f_X12_leaves_L43 n k) v1 v2 v3 v4 M6) else (if jw v3 = 0 then (bnd (f_X12_beastOf n v4 2 M6) fun r7 M8 => if jw r7 = 0 then (f_X12_leaves_L142 n (f_X12_leaves_L43 n k) v1 v2 v3 v4 M8) else (f_X12_leaves_L103 n (f_X12_leaves_L43 n k) v1 v2 v3 v4 M8)) else (f_X12_leaves_L103 n (f_X12_leaves_L43 n k) v1 v2 v3 v4 M6))) else (f_X12_leaves_L142 n (f_X12_leaves_L43 n k) v1 v2 v3 v4 M2)))
set_option maxRecDepth 4000 in
theorem t_X12_leaves_L43 {g : JG} {ad : Nat → Nat} (hs : jStr g ad) (n : Nat) : ∀ (k : Nat) (v1 v2 v3 v4 : Int) (M : JMem), jB g D_X12_leaves ad 43 [some (.ref 167), some (ji v1), some (ji v2), some (ji v3), some (ji v4)] [] M (f_X12_leaves_L43 n k v1 v2 v3 v4 M) := by
  intro k
  induction k with
  | zero => intro v1 v2 v3 v4 M; exact jO.none
  | succ k ih =>
    intro v1 v2 v3 v4 M
    rw [f_X12_leaves_L43]
    refine jo_iloadW 4 d_X12_leaves_43 rfl ?_
    refine jo_aload 0 d_X12_leaves_45 rfl rfl ?_
    refine jo_getR (k := 0) cl_12 (Nat.le_of_ble_eq_true rfl) lk_X12_7 rfl kc_167 kr_167_0 d_X12_leaves_46 ?_
    refine jo_iconst 2 d_X12_leaves_49 ?_
    refine jo_iald (N := 3160) kc_168 d_X12_leaves_50 ?_
    refine jo_icmp_ge 148 d_X12_leaves_51 (by decide) ?_ ?_
    · skip
      exact jo_vret rfl d_X12_leaves_148
    · skip
      refine jo_iload 2 d_X12_leaves_54 rfl rfl ?_
      refine jo_if_le 148 d_X12_leaves_55 (by decide) ?_ ?_
      · skip
        exact jo_vret rfl d_X12_leaves_148
      · skip
        refine jo_aload 0 d_X12_leaves_58 rfl rfl ?_
        refine jo_iloadW 4 d_X12_leaves_59 rfl ?_
        refine jo_callV (st := []) (m_X12_whereOf hs n v4 M) ok_X12_whereOf (And.intro (Nat.le_of_ble_eq_true rfl) (Nat.le_of_ble_eq_true rfl)) lm_X12_282 in_X12_whereOf se_X12_whereOf rfl kc_167 rfl rfl (And.intro (Nat.zero_le _) (Nat.zero_le _)) rfl (Nat.le_of_ble_eq_true rfl) d_X12_leaves_61 (fun r1 M2 => ?_)
        refine jo_iload 3 d_X12_leaves_64 rfl rfl ?_
        refine jo_icmp_ne 142 d_X12_leaves_65 (by decide) ?_ ?_
        · skip
          exact jO.sub (t_X12_leaves_L142 hs n (f_X12_leaves_L43 n k) ih v1 v2 v3 v4 M2) (And.intro rfl (And.intro rfl (And.intro rfl (And.intro rfl (And.intro rfl True.intro)))))
        · skip
          refine jo_aload 0 d_X12_leaves_68 rfl rfl ?_
          refine jo_aload 0 d_X12_leaves_69 rfl rfl ?_
          refine jo_iloadW 4 d_X12_leaves_70 rfl ?_
          refine jo_iconst 5 d_X12_leaves_72 ?_
          refine jo_callV (st := [.ref 167]) (m_X12_beastOf hs n v4 5 M2) ok_X12_beastOf (And.intro (Nat.le_of_ble_eq_true rfl) (Nat.le_of_ble_eq_true rfl)) lm_X12_276 in_X12_beastOf se_X12_beastOf rfl kc_167 rfl rfl (And.intro (Nat.zero_le _) (Nat.zero_le _)) rfl (Nat.le_of_ble_eq_true rfl) d_X12_leaves_73 (fun r3 M4 => ?_)
          refine jo_iload 1 d_X12_leaves_76 rfl rfl ?_
          refine jo_callV (st := []) (m_X12_isIn hs n r3 v1 M4) ok_X12_isIn (And.intro (Nat.le_of_ble_eq_true rfl) (Nat.le_of_ble_eq_true rfl)) lm_X12_315 in_X12_isIn se_X12_isIn rfl kc_167 rfl rfl (And.intro (Nat.zero_le _) (Nat.zero_le _)) rfl (Nat.le_of_ble_eq_true rfl) d_X12_leaves_77 (fun r5 M6 => ?_)
          refine jo_if_ne 86 d_X12_leaves_80 (by decide) ?_ ?_
          · skip
            refine jo_iload 3 d_X12_leaves_86 rfl rfl ?_
            refine jo_if_ne 103 d_X12_leaves_87 (by decide) ?_ ?_
            · skip
              exact jO.sub (t_X12_leaves_L103 hs n (f_X12_leaves_L43 n k) ih v1 v2 v3 v4 M6) (And.intro rfl (And.intro rfl (And.intro rfl (And.intro rfl (And.intro rfl True.intro)))))
            · skip
              refine jo_aload 0 d_X12_leaves_90 rfl rfl ?_
              refine jo_iloadW 4 d_X12_leaves_91 rfl ?_
              refine jo_iconst 2 d_X12_leaves_93 ?_
              refine jo_callV (st := []) (m_X12_beastOf hs n v4 2 M6) ok_X12_beastOf (And.intro (Nat.le_of_ble_eq_true rfl) (Nat.le_of_ble_eq_true rfl)) lm_X12_276 in_X12_beastOf se_X12_beastOf rfl kc_167 rfl rfl (And.intro (Nat.zero_le _) (Nat.zero_le _)) rfl (Nat.le_of_ble_eq_true rfl) d_X12_leaves_94 (fun r7 M8 => ?_)
              refine jo_if_ne 103 d_X12_leaves_97 (by decide) ?_ ?_
              · skip
                exact jO.sub (t_X12_leaves_L103 hs n (f_X12_leaves_L43 n k) ih v1 v2 v3 v4 M8) (And.intro rfl (And.intro rfl (And.intro rfl (And.intro rfl (And.intro rfl True.intro)))))
              · skip
                refine jo_goto 142 d_X12_leaves_100 (by decide) ?_
                exact jO.sub (t_X12_leaves_L142 hs n (f_X12_leaves_L43 n k) ih v1 v2 v3 v4 M8) (And.intro rfl (And.intro rfl (And.intro rfl (And.intro rfl (And.intro rfl True.intro)))))
          · skip
            refine jo_goto 142 d_X12_leaves_83 (by decide) ?_
            exact jO.sub (t_X12_leaves_L142 hs n (f_X12_leaves_L43 n k) ih v1 v2 v3 v4 M6) (And.intro rfl (And.intro rfl (And.intro rfl (And.intro rfl (And.intro rfl True.intro)))))
def f_X12_leaves (n : Nat) (x1 : Int) (M : JMem) : Option (Int × JMem) := bnd (f_X12_trainOf n x1 2 M) fun r1 M2 => chk (jin 5 3160) <| if jw r1 = jw (M2 168 (jw 5).toNat) then (bnd (f_X12_trainOf n x1 5 M2) fun r3 M4 => if jw r3 = jw 1 then (some (0, M4)) else (bnd (f_X12_trainOf n x1 4 M4) fun r5 M6 => letv r5 fun y7 => bnd (f_X12_trainOf n x1 0 M6) fun r8 M9 => letv r8 fun y10 => letv 0 fun y11 => f_X12_leaves_L43 n n x1 y7 y10 y11 M9)) else (some (0, M2))
set_option maxRecDepth 4000 in
theorem t_X12_leaves {g : JG} {ad : Nat → Nat} (hs : jStr g ad) (n : Nat) (x1 : Int) (M : JMem) : jB g D_X12_leaves ad 0 [some (.ref 167), some (ji x1), none, none, none] [] M (f_X12_leaves n x1 M) := by
  unfold f_X12_leaves
  refine jo_aload 0 d_X12_leaves_0 rfl rfl ?_
  refine jo_iload 1 d_X12_leaves_1 rfl rfl ?_
  refine jo_iconst 2 d_X12_leaves_2 ?_
  refine jo_callV (st := []) (m_X12_trainOf hs n x1 2 M) ok_X12_trainOf (And.intro (Nat.le_of_ble_eq_true rfl) (Nat.le_of_ble_eq_true rfl)) lm_X12_288 in_X12_trainOf se_X12_trainOf rfl kc_167 rfl rfl (And.intro (Nat.zero_le _) (Nat.zero_le _)) rfl (Nat.le_of_ble_eq_true rfl) d_X12_leaves_3 (fun r1 M2 => ?_)
  refine jo_aload 0 d_X12_leaves_6 rfl rfl ?_
  refine jo_getR (k := 0) cl_12 (Nat.le_of_ble_eq_true rfl) lk_X12_7 rfl kc_167 kr_167_0 d_X12_leaves_7 ?_
  refine jo_iconst 5 d_X12_leaves_10 ?_
  refine jo_iald (N := 3160) kc_168 d_X12_leaves_11 ?_
  refine jo_icmp_ne 25 d_X12_leaves_12 (by decide) ?_ ?_
  · skip
    exact jo_vret rfl d_X12_leaves_25
  · skip
    refine jo_aload 0 d_X12_leaves_15 rfl rfl ?_
    refine jo_iload 1 d_X12_leaves_16 rfl rfl ?_
    refine jo_iconst 5 d_X12_leaves_17 ?_
    refine jo_callV (st := []) (m_X12_trainOf hs n x1 5 M2) ok_X12_trainOf (And.intro (Nat.le_of_ble_eq_true rfl) (Nat.le_of_ble_eq_true rfl)) lm_X12_288 in_X12_trainOf se_X12_trainOf rfl kc_167 rfl rfl (And.intro (Nat.zero_le _) (Nat.zero_le _)) rfl (Nat.le_of_ble_eq_true rfl) d_X12_leaves_18 (fun r3 M4 => ?_)
    refine jo_iconst 1 d_X12_leaves_21 ?_
    refine jo_icmp_ne 26 d_X12_leaves_22 (by decide) ?_ ?_
    · skip
      refine jo_aload 0 d_X12_leaves_26 rfl rfl ?_
      refine jo_iload 1 d_X12_leaves_27 rfl rfl ?_
      refine jo_iconst 4 d_X12_leaves_28 ?_
      refine jo_callV (st := []) (m_X12_trainOf hs n x1 4 M4) ok_X12_trainOf (And.intro (Nat.le_of_ble_eq_true rfl) (Nat.le_of_ble_eq_true rfl)) lm_X12_288 in_X12_trainOf se_X12_trainOf rfl kc_167 rfl rfl (And.intro (Nat.zero_le _) (Nat.zero_le _)) rfl (Nat.le_of_ble_eq_true rfl) d_X12_leaves_29 (fun r5 M6 => ?_)
      refine jo_istore 2 d_X12_leaves_32 rfl (Nat.le_of_ble_eq_true rfl) (fun y7 => ?_)
      refine jo_aload 0 d_X12_leaves_33 rfl rfl ?_
      refine jo_iload 1 d_X12_leaves_34 rfl rfl ?_
      refine jo_iconst 0 d_X12_leaves_35 ?_
      refine jo_callV (st := []) (m_X12_trainOf hs n x1 0 M6) ok_X12_trainOf (And.intro (Nat.le_of_ble_eq_true rfl) (Nat.le_of_ble_eq_true rfl)) lm_X12_288 in_X12_trainOf se_X12_trainOf rfl kc_167 rfl rfl (And.intro (Nat.zero_le _) (Nat.zero_le _)) rfl (Nat.le_of_ble_eq_true rfl) d_X12_leaves_36 (fun r8 M9 => ?_)
      refine jo_istore 3 d_X12_leaves_39 rfl (Nat.le_of_ble_eq_true rfl) (fun y10 => ?_)
      refine jo_iconst 0 d_X12_leaves_40 ?_
      refine jo_istoreW 4 d_X12_leaves_41 (Nat.le_of_ble_eq_true rfl) (fun y11 => ?_)
      exact jO.sub (t_X12_leaves_L43 hs n n x1 y7 y10 y11 M9) (And.intro rfl (And.intro rfl (And.intro rfl (And.intro rfl (And.intro rfl True.intro)))))
    · skip
      exact jo_vret rfl d_X12_leaves_25
theorem m_X12_leaves {g : JG} {ad : Nat → Nat} (hs : jStr g ad) (n : Nat) (x1 : Int) (M : JMem) : jMet g jNN ad jR D_X12_leaves yX12_leaves [.ref 167, ji x1] M (f_X12_leaves n x1 M) :=
  jMet.of (lo0 := [some (.ref 167), some (ji x1), none, none, none]) (by decide) rfl rfl (Nat.le_of_ble_eq_true rfl) (And.intro rfl (And.intro rfl True.intro)) (t_X12_leaves hs n x1 M)
/-! CageLeaveModel.eaterOf(I)I -/
def D_X12_eaterOf : JD := (RX12, cX12_eaterOf, 3, some .int, "eaterOf", { frames := 5, cells := 0, slots := 0, locals := 106 })
theorem ok_X12_eaterOf : jOk D_X12_eaterOf yX12_eaterOf 1 := ⟨jTW_mem (k := 1805) (by decide +kernel) rfl, jTW_mem (k := 151) (by decide +kernel) rfl, ⟨by decide +kernel, by decide +kernel⟩, by decide +kernel, rfl, rfl⟩
theorem in_X12_eaterOf : Cond.instanceMethod yX12_eaterOf ∈ jTW := jTW_mem (k := 1804) (by decide +kernel) rfl
theorem se_X12_eaterOf : Cond.selects yX12_eaterOf.cls yX12_eaterOf yX12_eaterOf ∈ jTW := jTW_mem (k := 101) (by decide +kernel) rfl
theorem lm_X12_312 : Cond.methodLink RX12 312 yX12_areTogether ∈ jTW := jTW_mem (k := 1770) (by decide +kernel) rfl
theorem d_X12_eaterOf_0 : decode (D_X12_eaterOf).2.1 0 = .ok (.iconst 0, 1) := by decide +kernel
theorem d_X12_eaterOf_1 : decode (D_X12_eaterOf).2.1 1 = .ok (.istore_n 2, 1) := by decide +kernel
theorem d_X12_eaterOf_2 : decode (D_X12_eaterOf).2.1 2 = .ok (.iload_n 2, 1) := by decide +kernel
theorem d_X12_eaterOf_3 : decode (D_X12_eaterOf).2.1 3 = .ok (.aload_n 0, 1) := by decide +kernel
theorem d_X12_eaterOf_4 : decode (D_X12_eaterOf).2.1 4 = .ok (.getfield 7, 3) := by decide +kernel
theorem d_X12_eaterOf_7 : decode (D_X12_eaterOf).2.1 7 = .ok (.iconst 2, 1) := by decide +kernel
theorem d_X12_eaterOf_8 : decode (D_X12_eaterOf).2.1 8 = .ok (.iaload, 1) := by decide +kernel
theorem d_X12_eaterOf_9 : decode (D_X12_eaterOf).2.1 9 = .ok (.if_icmp .ge 40, 3) := by decide +kernel
theorem d_X12_eaterOf_12 : decode (D_X12_eaterOf).2.1 12 = .ok (.iload_n 2, 1) := by decide +kernel
theorem d_X12_eaterOf_13 : decode (D_X12_eaterOf).2.1 13 = .ok (.iload_n 1, 1) := by decide +kernel
theorem d_X12_eaterOf_14 : decode (D_X12_eaterOf).2.1 14 = .ok (.if_icmp .eq 29, 3) := by decide +kernel
theorem d_X12_eaterOf_17 : decode (D_X12_eaterOf).2.1 17 = .ok (.aload_n 0, 1) := by decide +kernel
theorem d_X12_eaterOf_18 : decode (D_X12_eaterOf).2.1 18 = .ok (.iload_n 2, 1) := by decide +kernel
theorem d_X12_eaterOf_19 : decode (D_X12_eaterOf).2.1 19 = .ok (.iload_n 1, 1) := by decide +kernel
theorem d_X12_eaterOf_20 : decode (D_X12_eaterOf).2.1 20 = .ok (.invokevirtual 312, 3) := by decide +kernel
theorem d_X12_eaterOf_23 : decode (D_X12_eaterOf).2.1 23 = .ok (.ifCond .eq 20, 3) := by decide +kernel
theorem d_X12_eaterOf_26 : decode (D_X12_eaterOf).2.1 26 = .ok (.aload_n 0, 1) := by decide +kernel
theorem d_X12_eaterOf_27 : decode (D_X12_eaterOf).2.1 27 = .ok (.aload_n 0, 1) := by decide +kernel
theorem d_X12_eaterOf_28 : decode (D_X12_eaterOf).2.1 28 = .ok (.iload_n 2, 1) := by decide +kernel
theorem d_X12_eaterOf_29 : decode (D_X12_eaterOf).2.1 29 = .ok (.bipush 6, 2) := by decide +kernel
theorem d_X12_eaterOf_31 : decode (D_X12_eaterOf).2.1 31 = .ok (.invokevirtual 276, 3) := by decide +kernel
theorem d_X12_eaterOf_34 : decode (D_X12_eaterOf).2.1 34 = .ok (.iload_n 1, 1) := by decide +kernel
theorem d_X12_eaterOf_35 : decode (D_X12_eaterOf).2.1 35 = .ok (.invokevirtual 315, 3) := by decide +kernel
theorem d_X12_eaterOf_38 : decode (D_X12_eaterOf).2.1 38 = .ok (.ifCond .eq 5, 3) := by decide +kernel
theorem d_X12_eaterOf_41 : decode (D_X12_eaterOf).2.1 41 = .ok (.iload_n 2, 1) := by decide +kernel
theorem d_X12_eaterOf_42 : decode (D_X12_eaterOf).2.1 42 = .ok (.ireturn, 1) := by decide +kernel
theorem d_X12_eaterOf_43 : decode (D_X12_eaterOf).2.1 43 = .ok (.iinc 2 1, 3) := by decide +kernel
theorem d_X12_eaterOf_46 : decode (D_X12_eaterOf).2.1 46 = .ok (.goto (-44), 3) := by decide +kernel
theorem d_X12_eaterOf_49 : decode (D_X12_eaterOf).2.1 49 = .ok (.iconst (-1), 1) := by decide +kernel
theorem d_X12_eaterOf_50 : decode (D_X12_eaterOf).2.1 50 = .ok (.ireturn, 1) := by decide +kernel
def f_X12_eaterOf_L43 (n : Nat) (r2 : Int → Int → JMem → Option (Int × JMem)) (v1 v2 : Int) (M : JMem) : Option (Int × JMem) := letv (v2 + 1) fun y1 => r2 v1 y1 M
set_option maxRecDepth 4000 in
theorem t_X12_eaterOf_L43 {g : JG} {ad : Nat → Nat} (hs : jStr g ad) (n : Nat) (r2 : Int → Int → JMem → Option (Int × JMem)) (hr2 : ∀ (v1 v2 : Int) (M : JMem), jB g D_X12_eaterOf ad 2 [some (.ref 167), some (ji v1), some (ji v2)] [] M (r2 v1 v2 M)) (v1 v2 : Int) (M : JMem) : jB g D_X12_eaterOf ad 43 [some (.ref 167), some (ji v1), some (ji v2)] [] M (f_X12_eaterOf_L43 n r2 v1 v2 M) := by
  unfold f_X12_eaterOf_L43
  refine jo_iinc 2 d_X12_eaterOf_43 rfl (Nat.le_of_ble_eq_true rfl) (fun y1 => ?_)
  refine jo_goto 2 d_X12_eaterOf_46 (by decide) ?_
  exact jO.sub (hr2 v1 y1 M) (And.intro rfl (And.intro rfl (And.intro rfl True.intro)))
def f_X12_eaterOf_L2 (n : Nat) : Nat → Int → Int → JMem → Option (Int × JMem)
  | 0, _, _, _ => none
  | k + 1, v1, v2, M => chk (jin 2 3160) <| if jw (M 168 (jw 2).toNat) ≤ jw v2 then (some ((-1), M)) else (if jw v2 = jw v1 then (f_X12_eaterOf_L43 n (f_X12_eaterOf_L2 n k) v1 v2 M) else (bnd (f_X12_areTogether n v2 v1 M) fun r1 M2 => if jw r1 = 0 then (f_X12_eaterOf_L43 n (f_X12_eaterOf_L2 n k) v1 v2 M2) else (bnd (f_X12_beastOf n v2 6 M2) fun r3 M4 => bnd (f_X12_isIn n r3 v1 M4) fun r5 M6 => if jw r5 = 0 then (f_X12_eaterOf_L43 n (f_X12_eaterOf_L2 n k) v1 v2 M6) else (some (v2, M6)))))
set_option maxRecDepth 4000 in
theorem t_X12_eaterOf_L2 {g : JG} {ad : Nat → Nat} (hs : jStr g ad) (n : Nat) : ∀ (k : Nat) (v1 v2 : Int) (M : JMem), jB g D_X12_eaterOf ad 2 [some (.ref 167), some (ji v1), some (ji v2)] [] M (f_X12_eaterOf_L2 n k v1 v2 M) := by
  intro k
  induction k with
  | zero => intro v1 v2 M; exact jO.none
  | succ k ih =>
    intro v1 v2 M
    rw [f_X12_eaterOf_L2]
    refine jo_iload 2 d_X12_eaterOf_2 rfl rfl ?_
    refine jo_aload 0 d_X12_eaterOf_3 rfl rfl ?_
    refine jo_getR (k := 0) cl_12 (Nat.le_of_ble_eq_true rfl) lk_X12_7 rfl kc_167 kr_167_0 d_X12_eaterOf_4 ?_
    refine jo_iconst 2 d_X12_eaterOf_7 ?_
    refine jo_iald (N := 3160) kc_168 d_X12_eaterOf_8 ?_
    refine jo_icmp_ge 49 d_X12_eaterOf_9 (by decide) ?_ ?_
    · skip
      refine jo_iconst (-1) d_X12_eaterOf_49 ?_
      exact jo_iret rfl d_X12_eaterOf_50
    · skip
      refine jo_iload 2 d_X12_eaterOf_12 rfl rfl ?_
      refine jo_iload 1 d_X12_eaterOf_13 rfl rfl ?_
      refine jo_icmp_eq 43 d_X12_eaterOf_14 (by decide) ?_ ?_
      · skip
        exact jO.sub (t_X12_eaterOf_L43 hs n (f_X12_eaterOf_L2 n k) ih v1 v2 M) (And.intro rfl (And.intro rfl (And.intro rfl True.intro)))
      · skip
        refine jo_aload 0 d_X12_eaterOf_17 rfl rfl ?_
        refine jo_iload 2 d_X12_eaterOf_18 rfl rfl ?_
        refine jo_iload 1 d_X12_eaterOf_19 rfl rfl ?_
        refine jo_callV (st := []) (m_X12_areTogether hs n v2 v1 M) ok_X12_areTogether (And.intro (Nat.le_of_ble_eq_true rfl) (Nat.le_of_ble_eq_true rfl)) lm_X12_312 in_X12_areTogether se_X12_areTogether rfl kc_167 rfl rfl (And.intro (Nat.zero_le _) (Nat.zero_le _)) rfl (Nat.le_of_ble_eq_true rfl) d_X12_eaterOf_20 (fun r1 M2 => ?_)
        refine jo_if_eq 43 d_X12_eaterOf_23 (by decide) ?_ ?_
        · skip
          exact jO.sub (t_X12_eaterOf_L43 hs n (f_X12_eaterOf_L2 n k) ih v1 v2 M2) (And.intro rfl (And.intro rfl (And.intro rfl True.intro)))
        · skip
          refine jo_aload 0 d_X12_eaterOf_26 rfl rfl ?_
          refine jo_aload 0 d_X12_eaterOf_27 rfl rfl ?_
          refine jo_iload 2 d_X12_eaterOf_28 rfl rfl ?_
          refine jo_bipush 6 d_X12_eaterOf_29 (by decide) ?_
          refine jo_callV (st := [.ref 167]) (m_X12_beastOf hs n v2 6 M2) ok_X12_beastOf (And.intro (Nat.le_of_ble_eq_true rfl) (Nat.le_of_ble_eq_true rfl)) lm_X12_276 in_X12_beastOf se_X12_beastOf rfl kc_167 rfl rfl (And.intro (Nat.zero_le _) (Nat.zero_le _)) rfl (Nat.le_of_ble_eq_true rfl) d_X12_eaterOf_31 (fun r3 M4 => ?_)
          refine jo_iload 1 d_X12_eaterOf_34 rfl rfl ?_
          refine jo_callV (st := []) (m_X12_isIn hs n r3 v1 M4) ok_X12_isIn (And.intro (Nat.le_of_ble_eq_true rfl) (Nat.le_of_ble_eq_true rfl)) lm_X12_315 in_X12_isIn se_X12_isIn rfl kc_167 rfl rfl (And.intro (Nat.zero_le _) (Nat.zero_le _)) rfl (Nat.le_of_ble_eq_true rfl) d_X12_eaterOf_35 (fun r5 M6 => ?_)
          refine jo_if_eq 43 d_X12_eaterOf_38 (by decide) ?_ ?_
          · skip
            exact jO.sub (t_X12_eaterOf_L43 hs n (f_X12_eaterOf_L2 n k) ih v1 v2 M6) (And.intro rfl (And.intro rfl (And.intro rfl True.intro)))
          · skip
            refine jo_iload 2 d_X12_eaterOf_41 rfl rfl ?_
            exact jo_iret rfl d_X12_eaterOf_42
def f_X12_eaterOf (n : Nat) (x1 : Int) (M : JMem) : Option (Int × JMem) := letv 0 fun y1 => f_X12_eaterOf_L2 n n x1 y1 M
set_option maxRecDepth 4000 in
theorem t_X12_eaterOf {g : JG} {ad : Nat → Nat} (hs : jStr g ad) (n : Nat) (x1 : Int) (M : JMem) : jB g D_X12_eaterOf ad 0 [some (.ref 167), some (ji x1), none] [] M (f_X12_eaterOf n x1 M) := by
  unfold f_X12_eaterOf
  refine jo_iconst 0 d_X12_eaterOf_0 ?_
  refine jo_istore 2 d_X12_eaterOf_1 rfl (Nat.le_of_ble_eq_true rfl) (fun y1 => ?_)
  exact jO.sub (t_X12_eaterOf_L2 hs n n x1 y1 M) (And.intro rfl (And.intro rfl (And.intro rfl True.intro)))
theorem m_X12_eaterOf {g : JG} {ad : Nat → Nat} (hs : jStr g ad) (n : Nat) (x1 : Int) (M : JMem) : jMet g jNN ad jR D_X12_eaterOf yX12_eaterOf [.ref 167, ji x1] M (f_X12_eaterOf n x1 M) :=
  jMet.of (lo0 := [some (.ref 167), some (ji x1), none]) (by decide) rfl rfl (Nat.le_of_ble_eq_true rfl) (And.intro rfl (And.intro rfl True.intro)) (t_X12_eaterOf hs n x1 M)
/-! CageLeaveModel.hourGoes()I -/
def D_X12_hourGoes : JD := (RX12, cX12_hourGoes, 4, some .int, "hourGoes", { frames := 6, cells := 0, slots := 0, locals := 128 })
theorem ok_X12_hourGoes : jOk D_X12_hourGoes yX12_hourGoes 0 := ⟨jTW_mem (k := 1789) (by decide +kernel) rfl, jTW_mem (k := 151) (by decide +kernel) rfl, ⟨by decide +kernel, by decide +kernel⟩, by decide +kernel, rfl, rfl⟩
theorem in_X12_hourGoes : Cond.instanceMethod yX12_hourGoes ∈ jTW := jTW_mem (k := 1788) (by decide +kernel) rfl
theorem se_X12_hourGoes : Cond.selects yX12_hourGoes.cls yX12_hourGoes yX12_hourGoes ∈ jTW := jTW_mem (k := 97) (by decide +kernel) rfl
theorem lm_X12_318 : Cond.methodLink RX12 318 yX12_getsOff ∈ jTW := jTW_mem (k := 1790) (by decide +kernel) rfl
theorem lm_X12_324 : Cond.methodLink RX12 324 yX12_eaterOf ∈ jTW := jTW_mem (k := 1802) (by decide +kernel) rfl
theorem lm_X12_321 : Cond.methodLink RX12 321 yX12_leaves ∈ jTW := jTW_mem (k := 1794) (by decide +kernel) rfl
theorem d_X12_hourGoes_0 : decode (D_X12_hourGoes).2.1 0 = .ok (.iconst 0, 1) := by decide +kernel
theorem d_X12_hourGoes_1 : decode (D_X12_hourGoes).2.1 1 = .ok (.istore_n 1, 1) := by decide +kernel
theorem d_X12_hourGoes_2 : decode (D_X12_hourGoes).2.1 2 = .ok (.iload_n 1, 1) := by decide +kernel
theorem d_X12_hourGoes_3 : decode (D_X12_hourGoes).2.1 3 = .ok (.aload_n 0, 1) := by decide +kernel
theorem d_X12_hourGoes_4 : decode (D_X12_hourGoes).2.1 4 = .ok (.getfield 7, 3) := by decide +kernel
theorem d_X12_hourGoes_7 : decode (D_X12_hourGoes).2.1 7 = .ok (.iconst 2, 1) := by decide +kernel
theorem d_X12_hourGoes_8 : decode (D_X12_hourGoes).2.1 8 = .ok (.iaload, 1) := by decide +kernel
theorem d_X12_hourGoes_9 : decode (D_X12_hourGoes).2.1 9 = .ok (.if_icmp .ge 14, 3) := by decide +kernel
theorem d_X12_hourGoes_12 : decode (D_X12_hourGoes).2.1 12 = .ok (.aload_n 0, 1) := by decide +kernel
theorem d_X12_hourGoes_13 : decode (D_X12_hourGoes).2.1 13 = .ok (.iload_n 1, 1) := by decide +kernel
theorem d_X12_hourGoes_14 : decode (D_X12_hourGoes).2.1 14 = .ok (.invokevirtual 318, 3) := by decide +kernel
theorem d_X12_hourGoes_17 : decode (D_X12_hourGoes).2.1 17 = .ok (.iinc 1 1, 3) := by decide +kernel
theorem d_X12_hourGoes_20 : decode (D_X12_hourGoes).2.1 20 = .ok (.goto (-18), 3) := by decide +kernel
theorem d_X12_hourGoes_23 : decode (D_X12_hourGoes).2.1 23 = .ok (.iconst 0, 1) := by decide +kernel
theorem d_X12_hourGoes_24 : decode (D_X12_hourGoes).2.1 24 = .ok (.istore_n 1, 1) := by decide +kernel
theorem d_X12_hourGoes_25 : decode (D_X12_hourGoes).2.1 25 = .ok (.iload_n 1, 1) := by decide +kernel
theorem d_X12_hourGoes_26 : decode (D_X12_hourGoes).2.1 26 = .ok (.aload_n 0, 1) := by decide +kernel
theorem d_X12_hourGoes_27 : decode (D_X12_hourGoes).2.1 27 = .ok (.getfield 7, 3) := by decide +kernel
theorem d_X12_hourGoes_30 : decode (D_X12_hourGoes).2.1 30 = .ok (.iconst 1, 1) := by decide +kernel
theorem d_X12_hourGoes_31 : decode (D_X12_hourGoes).2.1 31 = .ok (.iaload, 1) := by decide +kernel
theorem d_X12_hourGoes_32 : decode (D_X12_hourGoes).2.1 32 = .ok (.if_icmp .ge 14, 3) := by decide +kernel
theorem d_X12_hourGoes_35 : decode (D_X12_hourGoes).2.1 35 = .ok (.aload_n 0, 1) := by decide +kernel
theorem d_X12_hourGoes_36 : decode (D_X12_hourGoes).2.1 36 = .ok (.iload_n 1, 1) := by decide +kernel
theorem d_X12_hourGoes_37 : decode (D_X12_hourGoes).2.1 37 = .ok (.invokevirtual 321, 3) := by decide +kernel
theorem d_X12_hourGoes_40 : decode (D_X12_hourGoes).2.1 40 = .ok (.iinc 1 1, 3) := by decide +kernel
theorem d_X12_hourGoes_43 : decode (D_X12_hourGoes).2.1 43 = .ok (.goto (-18), 3) := by decide +kernel
theorem d_X12_hourGoes_46 : decode (D_X12_hourGoes).2.1 46 = .ok (.iconst 0, 1) := by decide +kernel
theorem d_X12_hourGoes_47 : decode (D_X12_hourGoes).2.1 47 = .ok (.istore_n 1, 1) := by decide +kernel
theorem d_X12_hourGoes_48 : decode (D_X12_hourGoes).2.1 48 = .ok (.iconst 0, 1) := by decide +kernel
theorem d_X12_hourGoes_49 : decode (D_X12_hourGoes).2.1 49 = .ok (.istore_n 2, 1) := by decide +kernel
theorem d_X12_hourGoes_50 : decode (D_X12_hourGoes).2.1 50 = .ok (.iload_n 2, 1) := by decide +kernel
theorem d_X12_hourGoes_51 : decode (D_X12_hourGoes).2.1 51 = .ok (.aload_n 0, 1) := by decide +kernel
theorem d_X12_hourGoes_52 : decode (D_X12_hourGoes).2.1 52 = .ok (.getfield 7, 3) := by decide +kernel
theorem d_X12_hourGoes_55 : decode (D_X12_hourGoes).2.1 55 = .ok (.iconst 2, 1) := by decide +kernel
theorem d_X12_hourGoes_56 : decode (D_X12_hourGoes).2.1 56 = .ok (.iaload, 1) := by decide +kernel
theorem d_X12_hourGoes_57 : decode (D_X12_hourGoes).2.1 57 = .ok (.if_icmp .ge 66, 3) := by decide +kernel
theorem d_X12_hourGoes_60 : decode (D_X12_hourGoes).2.1 60 = .ok (.aload_n 0, 1) := by decide +kernel
theorem d_X12_hourGoes_61 : decode (D_X12_hourGoes).2.1 61 = .ok (.iload_n 2, 1) := by decide +kernel
theorem d_X12_hourGoes_62 : decode (D_X12_hourGoes).2.1 62 = .ok (.invokevirtual 279, 3) := by decide +kernel
theorem d_X12_hourGoes_65 : decode (D_X12_hourGoes).2.1 65 = .ok (.ifCond .eq 7, 3) := by decide +kernel
theorem d_X12_hourGoes_68 : decode (D_X12_hourGoes).2.1 68 = .ok (.iconst (-1), 1) := by decide +kernel
theorem d_X12_hourGoes_69 : decode (D_X12_hourGoes).2.1 69 = .ok (.goto 8, 3) := by decide +kernel
theorem d_X12_hourGoes_72 : decode (D_X12_hourGoes).2.1 72 = .ok (.aload_n 0, 1) := by decide +kernel
theorem d_X12_hourGoes_73 : decode (D_X12_hourGoes).2.1 73 = .ok (.iload_n 2, 1) := by decide +kernel
theorem d_X12_hourGoes_74 : decode (D_X12_hourGoes).2.1 74 = .ok (.invokevirtual 324, 3) := by decide +kernel
theorem d_X12_hourGoes_77 : decode (D_X12_hourGoes).2.1 77 = .ok (.istore_n 3, 1) := by decide +kernel
theorem d_X12_hourGoes_78 : decode (D_X12_hourGoes).2.1 78 = .ok (.iload_n 3, 1) := by decide +kernel
theorem d_X12_hourGoes_79 : decode (D_X12_hourGoes).2.1 79 = .ok (.iconst (-1), 1) := by decide +kernel
theorem d_X12_hourGoes_80 : decode (D_X12_hourGoes).2.1 80 = .ok (.if_icmp .ne 6, 3) := by decide +kernel
theorem d_X12_hourGoes_83 : decode (D_X12_hourGoes).2.1 83 = .ok (.goto 34, 3) := by decide +kernel
theorem d_X12_hourGoes_86 : decode (D_X12_hourGoes).2.1 86 = .ok (.aload_n 0, 1) := by decide +kernel
theorem d_X12_hourGoes_87 : decode (D_X12_hourGoes).2.1 87 = .ok (.getfield 7, 3) := by decide +kernel
theorem d_X12_hourGoes_90 : decode (D_X12_hourGoes).2.1 90 = .ok (.iload_n 2, 1) := by decide +kernel
theorem d_X12_hourGoes_91 : decode (D_X12_hourGoes).2.1 91 = .ok (.invokestatic 270, 3) := by decide +kernel
theorem d_X12_hourGoes_94 : decode (D_X12_hourGoes).2.1 94 = .ok (.iconst 3, 1) := by decide +kernel
theorem d_X12_hourGoes_95 : decode (D_X12_hourGoes).2.1 95 = .ok (.iadd, 1) := by decide +kernel
theorem d_X12_hourGoes_96 : decode (D_X12_hourGoes).2.1 96 = .ok (.iconst 1, 1) := by decide +kernel
theorem d_X12_hourGoes_97 : decode (D_X12_hourGoes).2.1 97 = .ok (.iastore, 1) := by decide +kernel
theorem d_X12_hourGoes_98 : decode (D_X12_hourGoes).2.1 98 = .ok (.aload_n 0, 1) := by decide +kernel
theorem d_X12_hourGoes_99 : decode (D_X12_hourGoes).2.1 99 = .ok (.getfield 7, 3) := by decide +kernel
theorem d_X12_hourGoes_102 : decode (D_X12_hourGoes).2.1 102 = .ok (.iload_n 2, 1) := by decide +kernel
theorem d_X12_hourGoes_103 : decode (D_X12_hourGoes).2.1 103 = .ok (.invokestatic 270, 3) := by decide +kernel
theorem d_X12_hourGoes_106 : decode (D_X12_hourGoes).2.1 106 = .ok (.bipush 9, 2) := by decide +kernel
theorem d_X12_hourGoes_108 : decode (D_X12_hourGoes).2.1 108 = .ok (.iadd, 1) := by decide +kernel
theorem d_X12_hourGoes_109 : decode (D_X12_hourGoes).2.1 109 = .ok (.iload_n 3, 1) := by decide +kernel
theorem d_X12_hourGoes_110 : decode (D_X12_hourGoes).2.1 110 = .ok (.iastore, 1) := by decide +kernel
theorem d_X12_hourGoes_111 : decode (D_X12_hourGoes).2.1 111 = .ok (.iload_n 1, 1) := by decide +kernel
theorem d_X12_hourGoes_112 : decode (D_X12_hourGoes).2.1 112 = .ok (.iconst 1, 1) := by decide +kernel
theorem d_X12_hourGoes_113 : decode (D_X12_hourGoes).2.1 113 = .ok (.iload_n 2, 1) := by decide +kernel
theorem d_X12_hourGoes_114 : decode (D_X12_hourGoes).2.1 114 = .ok (.ishl, 1) := by decide +kernel
theorem d_X12_hourGoes_115 : decode (D_X12_hourGoes).2.1 115 = .ok (.ior, 1) := by decide +kernel
theorem d_X12_hourGoes_116 : decode (D_X12_hourGoes).2.1 116 = .ok (.istore_n 1, 1) := by decide +kernel
theorem d_X12_hourGoes_117 : decode (D_X12_hourGoes).2.1 117 = .ok (.iinc 2 1, 3) := by decide +kernel
theorem d_X12_hourGoes_120 : decode (D_X12_hourGoes).2.1 120 = .ok (.goto (-70), 3) := by decide +kernel
theorem d_X12_hourGoes_123 : decode (D_X12_hourGoes).2.1 123 = .ok (.aload_n 0, 1) := by decide +kernel
theorem d_X12_hourGoes_124 : decode (D_X12_hourGoes).2.1 124 = .ok (.getfield 7, 3) := by decide +kernel
theorem d_X12_hourGoes_127 : decode (D_X12_hourGoes).2.1 127 = .ok (.iconst 5, 1) := by decide +kernel
theorem d_X12_hourGoes_128 : decode (D_X12_hourGoes).2.1 128 = .ok (.dup2, 1) := by decide +kernel
theorem d_X12_hourGoes_129 : decode (D_X12_hourGoes).2.1 129 = .ok (.iaload, 1) := by decide +kernel
theorem d_X12_hourGoes_130 : decode (D_X12_hourGoes).2.1 130 = .ok (.iconst 1, 1) := by decide +kernel
theorem d_X12_hourGoes_131 : decode (D_X12_hourGoes).2.1 131 = .ok (.iadd, 1) := by decide +kernel
theorem d_X12_hourGoes_132 : decode (D_X12_hourGoes).2.1 132 = .ok (.iastore, 1) := by decide +kernel
theorem d_X12_hourGoes_133 : decode (D_X12_hourGoes).2.1 133 = .ok (.iload_n 1, 1) := by decide +kernel
theorem d_X12_hourGoes_134 : decode (D_X12_hourGoes).2.1 134 = .ok (.ireturn, 1) := by decide +kernel
def f_X12_hourGoes_L117 (n : Nat) (r50 : Int → Int → JMem → Option (Int × JMem)) (v1 v2 : Int) (M : JMem) : Option (Int × JMem) := letv (v2 + 1) fun y1 => r50 v1 y1 M
set_option maxRecDepth 4000 in
theorem t_X12_hourGoes_L117 {g : JG} {ad : Nat → Nat} (hs : jStr g ad) (n : Nat) (r50 : Int → Int → JMem → Option (Int × JMem)) (hr50 : ∀ (v1 v2 : Int) (M : JMem), jB g D_X12_hourGoes ad 50 [some (.ref 167), some (ji v1), some (ji v2), none] [] M (r50 v1 v2 M)) (v1 v2 : Int) (M : JMem) : jB g D_X12_hourGoes ad 117 [some (.ref 167), some (ji v1), some (ji v2), none] [] M (f_X12_hourGoes_L117 n r50 v1 v2 M) := by
  unfold f_X12_hourGoes_L117
  refine jo_iinc 2 d_X12_hourGoes_117 rfl (Nat.le_of_ble_eq_true rfl) (fun y1 => ?_)
  refine jo_goto 50 d_X12_hourGoes_120 (by decide) ?_
  exact jO.sub (hr50 v1 y1 M) (And.intro rfl (And.intro rfl (And.intro rfl True.intro)))
def f_X12_hourGoes_L77 (n : Nat) (r50 : Int → Int → JMem → Option (Int × JMem)) (v1 v2 w0 : Int) (M : JMem) : Option (Int × JMem) := letv w0 fun y1 => if jw y1 = jw (-1) then (f_X12_hourGoes_L117 n r50 v1 v2 M) else (bnd (f_X12_beastRow n v2 M) fun r2 M3 => chk (jin (r2 + 3) 3160) <| letm (jup M3 168 (jw (r2 + 3)).toNat 1) fun M4 => bnd (f_X12_beastRow n v2 M4) fun r5 M6 => chk (jin (r5 + 9) 3160) <| letm (jup M6 168 (jw (r5 + 9)).toNat y1) fun M7 => letv (jor v1 (jshl 1 v2)) fun y8 => f_X12_hourGoes_L117 n r50 y8 v2 M7)
set_option maxRecDepth 4000 in
theorem t_X12_hourGoes_L77 {g : JG} {ad : Nat → Nat} (hs : jStr g ad) (n : Nat) (r50 : Int → Int → JMem → Option (Int × JMem)) (hr50 : ∀ (v1 v2 : Int) (M : JMem), jB g D_X12_hourGoes ad 50 [some (.ref 167), some (ji v1), some (ji v2), none] [] M (r50 v1 v2 M)) (v1 v2 w0 : Int) (M : JMem) : jB g D_X12_hourGoes ad 77 [some (.ref 167), some (ji v1), some (ji v2), none] [ji w0] M (f_X12_hourGoes_L77 n r50 v1 v2 w0 M) := by
  unfold f_X12_hourGoes_L77
  refine jo_istore 3 d_X12_hourGoes_77 rfl (Nat.le_of_ble_eq_true rfl) (fun y1 => ?_)
  refine jo_iload 3 d_X12_hourGoes_78 rfl rfl ?_
  refine jo_iconst (-1) d_X12_hourGoes_79 ?_
  refine jo_icmp_ne 86 d_X12_hourGoes_80 (by decide) ?_ ?_
  · skip
    refine jo_aload 0 d_X12_hourGoes_86 rfl rfl ?_
    refine jo_getR (k := 0) cl_12 (Nat.le_of_ble_eq_true rfl) lk_X12_7 rfl kc_167 kr_167_0 d_X12_hourGoes_87 ?_
    refine jo_iload 2 d_X12_hourGoes_90 rfl rfl ?_
    refine jo_callS (st := [.ref 168]) (m_X12_beastRow hs n v2 M) ok_X12_beastRow (And.intro (Nat.le_of_ble_eq_true rfl) (Nat.le_of_ble_eq_true rfl)) lm_X12_270 st_X12_beastRow rfl (And.intro (Nat.zero_le _) (Nat.zero_le _)) rfl (Nat.le_of_ble_eq_true rfl) d_X12_hourGoes_91 (fun r2 M3 => ?_)
    refine jo_iconst 3 d_X12_hourGoes_94 ?_
    refine jo_iadd d_X12_hourGoes_95 ?_
    refine jo_iconst 1 d_X12_hourGoes_96 ?_
    refine jo_iast (N := 3160) kc_168 d_X12_hourGoes_97 (fun M4 => ?_)
    refine jo_aload 0 d_X12_hourGoes_98 rfl rfl ?_
    refine jo_getR (k := 0) cl_12 (Nat.le_of_ble_eq_true rfl) lk_X12_7 rfl kc_167 kr_167_0 d_X12_hourGoes_99 ?_
    refine jo_iload 2 d_X12_hourGoes_102 rfl rfl ?_
    refine jo_callS (st := [.ref 168]) (m_X12_beastRow hs n v2 M4) ok_X12_beastRow (And.intro (Nat.le_of_ble_eq_true rfl) (Nat.le_of_ble_eq_true rfl)) lm_X12_270 st_X12_beastRow rfl (And.intro (Nat.zero_le _) (Nat.zero_le _)) rfl (Nat.le_of_ble_eq_true rfl) d_X12_hourGoes_103 (fun r5 M6 => ?_)
    refine jo_bipush 9 d_X12_hourGoes_106 (by decide) ?_
    refine jo_iadd d_X12_hourGoes_108 ?_
    refine jo_iload 3 d_X12_hourGoes_109 rfl rfl ?_
    refine jo_iast (N := 3160) kc_168 d_X12_hourGoes_110 (fun M7 => ?_)
    refine jo_iload 1 d_X12_hourGoes_111 rfl rfl ?_
    refine jo_iconst 1 d_X12_hourGoes_112 ?_
    refine jo_iload 2 d_X12_hourGoes_113 rfl rfl ?_
    refine jo_ishl d_X12_hourGoes_114 ?_
    refine jo_ior d_X12_hourGoes_115 ?_
    refine jo_istore 1 d_X12_hourGoes_116 rfl (Nat.le_of_ble_eq_true rfl) (fun y8 => ?_)
    exact jO.sub (t_X12_hourGoes_L117 hs n r50 hr50 y8 v2 M7) (And.intro rfl (And.intro rfl (And.intro rfl True.intro)))
  · skip
    refine jo_goto 117 d_X12_hourGoes_83 (by decide) ?_
    exact jO.sub (t_X12_hourGoes_L117 hs n r50 hr50 v1 v2 M) (And.intro rfl (And.intro rfl (And.intro rfl True.intro)))
def f_X12_hourGoes_L123 (n : Nat) (v1 : Int) (M : JMem) : Option (Int × JMem) := chk (jin 5 3160) <| chk (jin 5 3160) <| letm (jup M 168 (jw 5).toNat ((M 168 (jw 5).toNat) + 1)) fun M1 => some (v1, M1)
set_option maxRecDepth 4000 in
theorem t_X12_hourGoes_L123 {g : JG} {ad : Nat → Nat} (hs : jStr g ad) (n : Nat) (v1 : Int) (M : JMem) : jB g D_X12_hourGoes ad 123 [some (.ref 167), some (ji v1), none, none] [] M (f_X12_hourGoes_L123 n v1 M) := by
  unfold f_X12_hourGoes_L123
  refine jo_aload 0 d_X12_hourGoes_123 rfl rfl ?_
  refine jo_getR (k := 0) cl_12 (Nat.le_of_ble_eq_true rfl) lk_X12_7 rfl kc_167 kr_167_0 d_X12_hourGoes_124 ?_
  refine jo_iconst 5 d_X12_hourGoes_127 ?_
  refine jo_dup2 d_X12_hourGoes_128 rfl rfl ?_
  refine jo_iald (N := 3160) kc_168 d_X12_hourGoes_129 ?_
  refine jo_iconst 1 d_X12_hourGoes_130 ?_
  refine jo_iadd d_X12_hourGoes_131 ?_
  refine jo_iast (N := 3160) kc_168 d_X12_hourGoes_132 (fun M1 => ?_)
  refine jo_iload 1 d_X12_hourGoes_133 rfl rfl ?_
  exact jo_iret rfl d_X12_hourGoes_134
def f_X12_hourGoes_L50 (n : Nat) : Nat → Int → Int → JMem → Option (Int × JMem)
  | 0, _, _, _ => none
  | k + 1, v1, v2, M => chk (jin 2 3160) <| if jw (M 168 (jw 2).toNat) ≤ jw v2 then (f_X12_hourGoes_L123 n v1 M) else (bnd (f_X12_isEaten n v2 M) fun r1 M2 => if jw r1 = 0 then (bnd (f_X12_eaterOf n v2 M2) fun r3 M4 => f_X12_hourGoes_L77 n (f_X12_hourGoes_L50 n k) v1 v2 r3 M4) else (f_X12_hourGoes_L77 n (f_X12_hourGoes_L50 n k) v1 v2 (-1) M2))
set_option maxRecDepth 4000 in
theorem t_X12_hourGoes_L50 {g : JG} {ad : Nat → Nat} (hs : jStr g ad) (n : Nat) : ∀ (k : Nat) (v1 v2 : Int) (M : JMem), jB g D_X12_hourGoes ad 50 [some (.ref 167), some (ji v1), some (ji v2), none] [] M (f_X12_hourGoes_L50 n k v1 v2 M) := by
  intro k
  induction k with
  | zero => intro v1 v2 M; exact jO.none
  | succ k ih =>
    intro v1 v2 M
    rw [f_X12_hourGoes_L50]
    refine jo_iload 2 d_X12_hourGoes_50 rfl rfl ?_
    refine jo_aload 0 d_X12_hourGoes_51 rfl rfl ?_
    refine jo_getR (k := 0) cl_12 (Nat.le_of_ble_eq_true rfl) lk_X12_7 rfl kc_167 kr_167_0 d_X12_hourGoes_52 ?_
    refine jo_iconst 2 d_X12_hourGoes_55 ?_
    refine jo_iald (N := 3160) kc_168 d_X12_hourGoes_56 ?_
    refine jo_icmp_ge 123 d_X12_hourGoes_57 (by decide) ?_ ?_
    · skip
      exact jO.sub (t_X12_hourGoes_L123 hs n v1 M) (And.intro rfl (And.intro rfl True.intro))
    · skip
      refine jo_aload 0 d_X12_hourGoes_60 rfl rfl ?_
      refine jo_iload 2 d_X12_hourGoes_61 rfl rfl ?_
      refine jo_callV (st := []) (m_X12_isEaten hs n v2 M) ok_X12_isEaten (And.intro (Nat.le_of_ble_eq_true rfl) (Nat.le_of_ble_eq_true rfl)) lm_X12_279 in_X12_isEaten se_X12_isEaten rfl kc_167 rfl rfl (And.intro (Nat.zero_le _) (Nat.zero_le _)) rfl (Nat.le_of_ble_eq_true rfl) d_X12_hourGoes_62 (fun r1 M2 => ?_)
      refine jo_if_eq 72 d_X12_hourGoes_65 (by decide) ?_ ?_
      · skip
        refine jo_aload 0 d_X12_hourGoes_72 rfl rfl ?_
        refine jo_iload 2 d_X12_hourGoes_73 rfl rfl ?_
        refine jo_callV (st := []) (m_X12_eaterOf hs n v2 M2) ok_X12_eaterOf (And.intro (Nat.le_of_ble_eq_true rfl) (Nat.le_of_ble_eq_true rfl)) lm_X12_324 in_X12_eaterOf se_X12_eaterOf rfl kc_167 rfl rfl (And.intro (Nat.zero_le _) (Nat.zero_le _)) rfl (Nat.le_of_ble_eq_true rfl) d_X12_hourGoes_74 (fun r3 M4 => ?_)
        exact jO.sub (t_X12_hourGoes_L77 hs n (f_X12_hourGoes_L50 n k) ih v1 v2 r3 M4) (And.intro rfl (And.intro rfl (And.intro rfl True.intro)))
      · skip
        refine jo_iconst (-1) d_X12_hourGoes_68 ?_
        refine jo_goto 77 d_X12_hourGoes_69 (by decide) ?_
        exact jO.sub (t_X12_hourGoes_L77 hs n (f_X12_hourGoes_L50 n k) ih v1 v2 (-1) M2) (And.intro rfl (And.intro rfl (And.intro rfl True.intro)))
def f_X12_hourGoes_L46 (n : Nat) (M : JMem) : Option (Int × JMem) := letv 0 fun y1 => letv 0 fun y2 => f_X12_hourGoes_L50 n n y1 y2 M
set_option maxRecDepth 4000 in
theorem t_X12_hourGoes_L46 {g : JG} {ad : Nat → Nat} (hs : jStr g ad) (n : Nat) (M : JMem) : jB g D_X12_hourGoes ad 46 [some (.ref 167), none, none, none] [] M (f_X12_hourGoes_L46 n M) := by
  unfold f_X12_hourGoes_L46
  refine jo_iconst 0 d_X12_hourGoes_46 ?_
  refine jo_istore 1 d_X12_hourGoes_47 rfl (Nat.le_of_ble_eq_true rfl) (fun y1 => ?_)
  refine jo_iconst 0 d_X12_hourGoes_48 ?_
  refine jo_istore 2 d_X12_hourGoes_49 rfl (Nat.le_of_ble_eq_true rfl) (fun y2 => ?_)
  exact jO.sub (t_X12_hourGoes_L50 hs n n y1 y2 M) (And.intro rfl (And.intro rfl (And.intro rfl True.intro)))
def f_X12_hourGoes_L25 (n : Nat) : Nat → Int → JMem → Option (Int × JMem)
  | 0, _, _ => none
  | k + 1, v1, M => chk (jin 1 3160) <| if jw (M 168 (jw 1).toNat) ≤ jw v1 then (f_X12_hourGoes_L46 n M) else (bnd (f_X12_leaves n v1 M) fun _ M2 => letv (v1 + 1) fun y3 => (f_X12_hourGoes_L25 n k) y3 M2)
set_option maxRecDepth 4000 in
theorem t_X12_hourGoes_L25 {g : JG} {ad : Nat → Nat} (hs : jStr g ad) (n : Nat) : ∀ (k : Nat) (v1 : Int) (M : JMem), jB g D_X12_hourGoes ad 25 [some (.ref 167), some (ji v1), none, none] [] M (f_X12_hourGoes_L25 n k v1 M) := by
  intro k
  induction k with
  | zero => intro v1 M; exact jO.none
  | succ k ih =>
    intro v1 M
    rw [f_X12_hourGoes_L25]
    refine jo_iload 1 d_X12_hourGoes_25 rfl rfl ?_
    refine jo_aload 0 d_X12_hourGoes_26 rfl rfl ?_
    refine jo_getR (k := 0) cl_12 (Nat.le_of_ble_eq_true rfl) lk_X12_7 rfl kc_167 kr_167_0 d_X12_hourGoes_27 ?_
    refine jo_iconst 1 d_X12_hourGoes_30 ?_
    refine jo_iald (N := 3160) kc_168 d_X12_hourGoes_31 ?_
    refine jo_icmp_ge 46 d_X12_hourGoes_32 (by decide) ?_ ?_
    · skip
      exact jO.sub (t_X12_hourGoes_L46 hs n M) (And.intro rfl True.intro)
    · skip
      refine jo_aload 0 d_X12_hourGoes_35 rfl rfl ?_
      refine jo_iload 1 d_X12_hourGoes_36 rfl rfl ?_
      refine jo_callV (st := []) (m_X12_leaves hs n v1 M) ok_X12_leaves (And.intro (Nat.le_of_ble_eq_true rfl) (Nat.le_of_ble_eq_true rfl)) lm_X12_321 in_X12_leaves se_X12_leaves rfl kc_167 rfl rfl (And.intro (Nat.zero_le _) (Nat.zero_le _)) rfl (Nat.le_of_ble_eq_true rfl) d_X12_hourGoes_37 (fun _ M2 => ?_)
      refine jo_iinc 1 d_X12_hourGoes_40 rfl (Nat.le_of_ble_eq_true rfl) (fun y3 => ?_)
      refine jo_goto 25 d_X12_hourGoes_43 (by decide) ?_
      exact jO.sub (ih y3 M2) (And.intro rfl (And.intro rfl True.intro))
def f_X12_hourGoes_L23 (n : Nat) (M : JMem) : Option (Int × JMem) := letv 0 fun y1 => f_X12_hourGoes_L25 n n y1 M
set_option maxRecDepth 4000 in
theorem t_X12_hourGoes_L23 {g : JG} {ad : Nat → Nat} (hs : jStr g ad) (n : Nat) (M : JMem) : jB g D_X12_hourGoes ad 23 [some (.ref 167), none, none, none] [] M (f_X12_hourGoes_L23 n M) := by
  unfold f_X12_hourGoes_L23
  refine jo_iconst 0 d_X12_hourGoes_23 ?_
  refine jo_istore 1 d_X12_hourGoes_24 rfl (Nat.le_of_ble_eq_true rfl) (fun y1 => ?_)
  exact jO.sub (t_X12_hourGoes_L25 hs n n y1 M) (And.intro rfl (And.intro rfl True.intro))
def f_X12_hourGoes_L2 (n : Nat) : Nat → Int → JMem → Option (Int × JMem)
  | 0, _, _ => none
  | k + 1, v1, M => chk (jin 2 3160) <| if jw (M 168 (jw 2).toNat) ≤ jw v1 then (f_X12_hourGoes_L23 n M) else (bnd (f_X12_getsOff n v1 M) fun _ M2 => letv (v1 + 1) fun y3 => (f_X12_hourGoes_L2 n k) y3 M2)
set_option maxRecDepth 4000 in
theorem t_X12_hourGoes_L2 {g : JG} {ad : Nat → Nat} (hs : jStr g ad) (n : Nat) : ∀ (k : Nat) (v1 : Int) (M : JMem), jB g D_X12_hourGoes ad 2 [some (.ref 167), some (ji v1), none, none] [] M (f_X12_hourGoes_L2 n k v1 M) := by
  intro k
  induction k with
  | zero => intro v1 M; exact jO.none
  | succ k ih =>
    intro v1 M
    rw [f_X12_hourGoes_L2]
    refine jo_iload 1 d_X12_hourGoes_2 rfl rfl ?_
    refine jo_aload 0 d_X12_hourGoes_3 rfl rfl ?_
    refine jo_getR (k := 0) cl_12 (Nat.le_of_ble_eq_true rfl) lk_X12_7 rfl kc_167 kr_167_0 d_X12_hourGoes_4 ?_
    refine jo_iconst 2 d_X12_hourGoes_7 ?_
    refine jo_iald (N := 3160) kc_168 d_X12_hourGoes_8 ?_
    refine jo_icmp_ge 23 d_X12_hourGoes_9 (by decide) ?_ ?_
    · skip
      exact jO.sub (t_X12_hourGoes_L23 hs n M) (And.intro rfl True.intro)
    · skip
      refine jo_aload 0 d_X12_hourGoes_12 rfl rfl ?_
      refine jo_iload 1 d_X12_hourGoes_13 rfl rfl ?_
      refine jo_callV (st := []) (m_X12_getsOff hs n v1 M) ok_X12_getsOff (And.intro (Nat.le_of_ble_eq_true rfl) (Nat.le_of_ble_eq_true rfl)) lm_X12_318 in_X12_getsOff se_X12_getsOff rfl kc_167 rfl rfl (And.intro (Nat.zero_le _) (Nat.zero_le _)) rfl (Nat.le_of_ble_eq_true rfl) d_X12_hourGoes_14 (fun _ M2 => ?_)
      refine jo_iinc 1 d_X12_hourGoes_17 rfl (Nat.le_of_ble_eq_true rfl) (fun y3 => ?_)
      refine jo_goto 2 d_X12_hourGoes_20 (by decide) ?_
      exact jO.sub (ih y3 M2) (And.intro rfl (And.intro rfl True.intro))
def f_X12_hourGoes (n : Nat) (M : JMem) : Option (Int × JMem) := letv 0 fun y1 => f_X12_hourGoes_L2 n n y1 M
set_option maxRecDepth 4000 in
theorem t_X12_hourGoes {g : JG} {ad : Nat → Nat} (hs : jStr g ad) (n : Nat) (M : JMem) : jB g D_X12_hourGoes ad 0 [some (.ref 167), none, none, none] [] M (f_X12_hourGoes n M) := by
  unfold f_X12_hourGoes
  refine jo_iconst 0 d_X12_hourGoes_0 ?_
  refine jo_istore 1 d_X12_hourGoes_1 rfl (Nat.le_of_ble_eq_true rfl) (fun y1 => ?_)
  exact jO.sub (t_X12_hourGoes_L2 hs n n y1 M) (And.intro rfl (And.intro rfl True.intro))
theorem m_X12_hourGoes {g : JG} {ad : Nat → Nat} (hs : jStr g ad) (n : Nat) (M : JMem) : jMet g jNN ad jR D_X12_hourGoes yX12_hourGoes [.ref 167] M (f_X12_hourGoes n M) :=
  jMet.of (lo0 := [some (.ref 167), none, none, none]) (by decide) rfl rfl (Nat.le_of_ble_eq_true rfl) (And.intro rfl True.intro) (t_X12_hourGoes hs n M)
/-! CageLeaveModel.hoursGo(I)I -/
def D_X12_hoursGo : JD := (RX12, cX12_hoursGo, 4, some .int, "hoursGo", { frames := 7, cells := 0, slots := 0, locals := 151 })
theorem ok_X12_hoursGo : jOk D_X12_hoursGo yX12_hoursGo 1 := ⟨jTW_mem (k := 1785) (by decide +kernel) rfl, jTW_mem (k := 151) (by decide +kernel) rfl, ⟨by decide +kernel, by decide +kernel⟩, by decide +kernel, rfl, rfl⟩
theorem in_X12_hoursGo : Cond.instanceMethod yX12_hoursGo ∈ jTW := jTW_mem (k := 1784) (by decide +kernel) rfl
theorem se_X12_hoursGo : Cond.selects yX12_hoursGo.cls yX12_hoursGo yX12_hoursGo ∈ jTW := jTW_mem (k := 96) (by decide +kernel) rfl
theorem lm_X12_327 : Cond.methodLink RX12 327 yX12_hourGoes ∈ jTW := jTW_mem (k := 1786) (by decide +kernel) rfl
theorem d_X12_hoursGo_0 : decode (D_X12_hoursGo).2.1 0 = .ok (.iconst 0, 1) := by decide +kernel
theorem d_X12_hoursGo_1 : decode (D_X12_hoursGo).2.1 1 = .ok (.istore_n 2, 1) := by decide +kernel
theorem d_X12_hoursGo_2 : decode (D_X12_hoursGo).2.1 2 = .ok (.iconst 0, 1) := by decide +kernel
theorem d_X12_hoursGo_3 : decode (D_X12_hoursGo).2.1 3 = .ok (.istore_n 3, 1) := by decide +kernel
theorem d_X12_hoursGo_4 : decode (D_X12_hoursGo).2.1 4 = .ok (.iload_n 3, 1) := by decide +kernel
theorem d_X12_hoursGo_5 : decode (D_X12_hoursGo).2.1 5 = .ok (.iload_n 1, 1) := by decide +kernel
theorem d_X12_hoursGo_6 : decode (D_X12_hoursGo).2.1 6 = .ok (.if_icmp .ge 16, 3) := by decide +kernel
theorem d_X12_hoursGo_9 : decode (D_X12_hoursGo).2.1 9 = .ok (.iload_n 2, 1) := by decide +kernel
theorem d_X12_hoursGo_10 : decode (D_X12_hoursGo).2.1 10 = .ok (.aload_n 0, 1) := by decide +kernel
theorem d_X12_hoursGo_11 : decode (D_X12_hoursGo).2.1 11 = .ok (.invokevirtual 327, 3) := by decide +kernel
theorem d_X12_hoursGo_14 : decode (D_X12_hoursGo).2.1 14 = .ok (.ior, 1) := by decide +kernel
theorem d_X12_hoursGo_15 : decode (D_X12_hoursGo).2.1 15 = .ok (.istore_n 2, 1) := by decide +kernel
theorem d_X12_hoursGo_16 : decode (D_X12_hoursGo).2.1 16 = .ok (.iinc 3 1, 3) := by decide +kernel
theorem d_X12_hoursGo_19 : decode (D_X12_hoursGo).2.1 19 = .ok (.goto (-15), 3) := by decide +kernel
theorem d_X12_hoursGo_22 : decode (D_X12_hoursGo).2.1 22 = .ok (.iload_n 2, 1) := by decide +kernel
theorem d_X12_hoursGo_23 : decode (D_X12_hoursGo).2.1 23 = .ok (.ireturn, 1) := by decide +kernel
def f_X12_hoursGo_L4 (n : Nat) : Nat → Int → Int → Int → JMem → Option (Int × JMem)
  | 0, _, _, _, _ => none
  | k + 1, v1, v2, v3, M => if jw v1 ≤ jw v3 then (some (v2, M)) else (bnd (f_X12_hourGoes n M) fun r1 M2 => letv (jor v2 r1) fun y3 => letv (v3 + 1) fun y4 => (f_X12_hoursGo_L4 n k) v1 y3 y4 M2)
set_option maxRecDepth 4000 in
theorem t_X12_hoursGo_L4 {g : JG} {ad : Nat → Nat} (hs : jStr g ad) (n : Nat) : ∀ (k : Nat) (v1 v2 v3 : Int) (M : JMem), jB g D_X12_hoursGo ad 4 [some (.ref 167), some (ji v1), some (ji v2), some (ji v3)] [] M (f_X12_hoursGo_L4 n k v1 v2 v3 M) := by
  intro k
  induction k with
  | zero => intro v1 v2 v3 M; exact jO.none
  | succ k ih =>
    intro v1 v2 v3 M
    rw [f_X12_hoursGo_L4]
    refine jo_iload 3 d_X12_hoursGo_4 rfl rfl ?_
    refine jo_iload 1 d_X12_hoursGo_5 rfl rfl ?_
    refine jo_icmp_ge 22 d_X12_hoursGo_6 (by decide) ?_ ?_
    · skip
      refine jo_iload 2 d_X12_hoursGo_22 rfl rfl ?_
      exact jo_iret rfl d_X12_hoursGo_23
    · skip
      refine jo_iload 2 d_X12_hoursGo_9 rfl rfl ?_
      refine jo_aload 0 d_X12_hoursGo_10 rfl rfl ?_
      refine jo_callV (st := [ji v2]) (m_X12_hourGoes hs n M) ok_X12_hourGoes (And.intro (Nat.le_of_ble_eq_true rfl) (Nat.le_of_ble_eq_true rfl)) lm_X12_327 in_X12_hourGoes se_X12_hourGoes rfl kc_167 rfl rfl (And.intro (Nat.zero_le _) (Nat.zero_le _)) rfl (Nat.le_of_ble_eq_true rfl) d_X12_hoursGo_11 (fun r1 M2 => ?_)
      refine jo_ior d_X12_hoursGo_14 ?_
      refine jo_istore 2 d_X12_hoursGo_15 rfl (Nat.le_of_ble_eq_true rfl) (fun y3 => ?_)
      refine jo_iinc 3 d_X12_hoursGo_16 rfl (Nat.le_of_ble_eq_true rfl) (fun y4 => ?_)
      refine jo_goto 4 d_X12_hoursGo_19 (by decide) ?_
      exact jO.sub (ih v1 y3 y4 M2) (And.intro rfl (And.intro rfl (And.intro rfl (And.intro rfl True.intro))))
def f_X12_hoursGo (n : Nat) (x1 : Int) (M : JMem) : Option (Int × JMem) := letv 0 fun y1 => letv 0 fun y2 => f_X12_hoursGo_L4 n n x1 y1 y2 M
set_option maxRecDepth 4000 in
theorem t_X12_hoursGo {g : JG} {ad : Nat → Nat} (hs : jStr g ad) (n : Nat) (x1 : Int) (M : JMem) : jB g D_X12_hoursGo ad 0 [some (.ref 167), some (ji x1), none, none] [] M (f_X12_hoursGo n x1 M) := by
  unfold f_X12_hoursGo
  refine jo_iconst 0 d_X12_hoursGo_0 ?_
  refine jo_istore 2 d_X12_hoursGo_1 rfl (Nat.le_of_ble_eq_true rfl) (fun y1 => ?_)
  refine jo_iconst 0 d_X12_hoursGo_2 ?_
  refine jo_istore 3 d_X12_hoursGo_3 rfl (Nat.le_of_ble_eq_true rfl) (fun y2 => ?_)
  exact jO.sub (t_X12_hoursGo_L4 hs n n x1 y1 y2 M) (And.intro rfl (And.intro rfl (And.intro rfl (And.intro rfl True.intro))))
theorem m_X12_hoursGo {g : JG} {ad : Nat → Nat} (hs : jStr g ad) (n : Nat) (x1 : Int) (M : JMem) : jMet g jNN ad jR D_X12_hoursGo yX12_hoursGo [.ref 167, ji x1] M (f_X12_hoursGo n x1 M) :=
  jMet.of (lo0 := [some (.ref 167), some (ji x1), none, none]) (by decide) rfl rfl (Nat.le_of_ble_eq_true rfl) (And.intro rfl (And.intro rfl True.intro)) (t_X12_hoursGo hs n x1 M)
/-! CageLeaveModel.hoursBy(I)Z -/
def D_X12_hoursBy : JD := (RX12, cX12_hoursBy, 2, some .boolean, "hoursBy", { frames := 8, cells := 0, slots := 0, locals := 174 })
theorem ok_X12_hoursBy : jOk D_X12_hoursBy yX12_hoursBy 1 := ⟨jTW_mem (k := 2047) (by decide +kernel) rfl, jTW_mem (k := 151) (by decide +kernel) rfl, ⟨by decide +kernel, by decide +kernel⟩, by decide +kernel, rfl, rfl⟩
theorem in_X12_hoursBy : Cond.instanceMethod yX12_hoursBy ∈ jTW := jTW_mem (k := 2046) (by decide +kernel) rfl
theorem se_X12_hoursBy : Cond.selects yX12_hoursBy.cls yX12_hoursBy yX12_hoursBy ∈ jTW := jTW_mem (k := 125) (by decide +kernel) rfl
theorem lk_X12_71 : Cond.fieldLink RX12 71 (TX12 35).1 (TX12 35).2.1 (TX12 35).2.2.1 ∈ jTW := jTW_mem (k := 1411) (by decide +kernel) rfl
theorem lm_X12_332 : Cond.methodLink RX12 332 yX12_hoursGo ∈ jTW := jTW_mem (k := 1782) (by decide +kernel) rfl
theorem d_X12_hoursBy_0 : decode (D_X12_hoursBy).2.1 0 = .ok (.aload_n 0, 1) := by decide +kernel
theorem d_X12_hoursBy_1 : decode (D_X12_hoursBy).2.1 1 = .ok (.getfield 7, 3) := by decide +kernel
theorem d_X12_hoursBy_4 : decode (D_X12_hoursBy).2.1 4 = .ok (.iconst 5, 1) := by decide +kernel
theorem d_X12_hoursBy_5 : decode (D_X12_hoursBy).2.1 5 = .ok (.iaload, 1) := by decide +kernel
theorem d_X12_hoursBy_6 : decode (D_X12_hoursBy).2.1 6 = .ok (.iload_n 1, 1) := by decide +kernel
theorem d_X12_hoursBy_7 : decode (D_X12_hoursBy).2.1 7 = .ok (.iadd, 1) := by decide +kernel
theorem d_X12_hoursBy_8 : decode (D_X12_hoursBy).2.1 8 = .ok (.bipush 64, 2) := by decide +kernel
theorem d_X12_hoursBy_10 : decode (D_X12_hoursBy).2.1 10 = .ok (.if_icmp .le 5, 3) := by decide +kernel
theorem d_X12_hoursBy_13 : decode (D_X12_hoursBy).2.1 13 = .ok (.iconst 0, 1) := by decide +kernel
theorem d_X12_hoursBy_14 : decode (D_X12_hoursBy).2.1 14 = .ok (.ireturn, 1) := by decide +kernel
theorem d_X12_hoursBy_15 : decode (D_X12_hoursBy).2.1 15 = .ok (.aload_n 0, 1) := by decide +kernel
theorem d_X12_hoursBy_16 : decode (D_X12_hoursBy).2.1 16 = .ok (.getfield 71, 3) := by decide +kernel
theorem d_X12_hoursBy_19 : decode (D_X12_hoursBy).2.1 19 = .ok (.iconst 2, 1) := by decide +kernel
theorem d_X12_hoursBy_20 : decode (D_X12_hoursBy).2.1 20 = .ok (.dup2, 1) := by decide +kernel
theorem d_X12_hoursBy_21 : decode (D_X12_hoursBy).2.1 21 = .ok (.iaload, 1) := by decide +kernel
theorem d_X12_hoursBy_22 : decode (D_X12_hoursBy).2.1 22 = .ok (.aload_n 0, 1) := by decide +kernel
theorem d_X12_hoursBy_23 : decode (D_X12_hoursBy).2.1 23 = .ok (.iload_n 1, 1) := by decide +kernel
theorem d_X12_hoursBy_24 : decode (D_X12_hoursBy).2.1 24 = .ok (.invokevirtual 332, 3) := by decide +kernel
theorem d_X12_hoursBy_27 : decode (D_X12_hoursBy).2.1 27 = .ok (.invokestatic 338, 3) := by decide +kernel
theorem d_X12_hoursBy_30 : decode (D_X12_hoursBy).2.1 30 = .ok (.iadd, 1) := by decide +kernel
theorem d_X12_hoursBy_31 : decode (D_X12_hoursBy).2.1 31 = .ok (.iastore, 1) := by decide +kernel
theorem d_X12_hoursBy_32 : decode (D_X12_hoursBy).2.1 32 = .ok (.aload_n 0, 1) := by decide +kernel
theorem d_X12_hoursBy_33 : decode (D_X12_hoursBy).2.1 33 = .ok (.getfield 71, 3) := by decide +kernel
theorem d_X12_hoursBy_36 : decode (D_X12_hoursBy).2.1 36 = .ok (.iconst 1, 1) := by decide +kernel
theorem d_X12_hoursBy_37 : decode (D_X12_hoursBy).2.1 37 = .ok (.dup2, 1) := by decide +kernel
theorem d_X12_hoursBy_38 : decode (D_X12_hoursBy).2.1 38 = .ok (.iaload, 1) := by decide +kernel
theorem d_X12_hoursBy_39 : decode (D_X12_hoursBy).2.1 39 = .ok (.iload_n 1, 1) := by decide +kernel
theorem d_X12_hoursBy_40 : decode (D_X12_hoursBy).2.1 40 = .ok (.iadd, 1) := by decide +kernel
theorem d_X12_hoursBy_41 : decode (D_X12_hoursBy).2.1 41 = .ok (.iastore, 1) := by decide +kernel
theorem d_X12_hoursBy_42 : decode (D_X12_hoursBy).2.1 42 = .ok (.iconst 1, 1) := by decide +kernel
theorem d_X12_hoursBy_43 : decode (D_X12_hoursBy).2.1 43 = .ok (.ireturn, 1) := by decide +kernel
def f_X12_hoursBy (n : Nat) (x1 : Int) (M : JMem) : Option (Int × JMem) := chk (jin 5 3160) <| if jw ((M 168 (jw 5).toNat) + x1) ≤ jw 64 then (chk (jin 2 5) <| bnd (f_X12_hoursGo n x1 M) fun r1 M2 => bnd (f_X12_bits n r1 M2) fun r3 M4 => chk (jin 2 5) <| letm (jup M4 184 (jw 2).toNat ((M 184 (jw 2).toNat) + r3)) fun M5 => chk (jin 1 5) <| chk (jin 1 5) <| letm (jup M5 184 (jw 1).toNat ((M5 184 (jw 1).toNat) + x1)) fun M6 => some (1, M6)) else (some (0, M))
set_option maxRecDepth 4000 in
theorem t_X12_hoursBy {g : JG} {ad : Nat → Nat} (hs : jStr g ad) (n : Nat) (x1 : Int) (M : JMem) : jB g D_X12_hoursBy ad 0 [some (.ref 167), some (ji x1)] [] M (f_X12_hoursBy n x1 M) := by
  unfold f_X12_hoursBy
  refine jo_aload 0 d_X12_hoursBy_0 rfl rfl ?_
  refine jo_getR (k := 0) cl_12 (Nat.le_of_ble_eq_true rfl) lk_X12_7 rfl kc_167 kr_167_0 d_X12_hoursBy_1 ?_
  refine jo_iconst 5 d_X12_hoursBy_4 ?_
  refine jo_iald (N := 3160) kc_168 d_X12_hoursBy_5 ?_
  refine jo_iload 1 d_X12_hoursBy_6 rfl rfl ?_
  refine jo_iadd d_X12_hoursBy_7 ?_
  refine jo_bipush 64 d_X12_hoursBy_8 (by decide) ?_
  refine jo_icmp_le 15 d_X12_hoursBy_10 (by decide) ?_ ?_
  · skip
    refine jo_aload 0 d_X12_hoursBy_15 rfl rfl ?_
    refine jo_getR (k := 35) cl_12 (Nat.le_of_ble_eq_true rfl) lk_X12_71 rfl kc_167 kr_167_35 d_X12_hoursBy_16 ?_
    refine jo_iconst 2 d_X12_hoursBy_19 ?_
    refine jo_dup2 d_X12_hoursBy_20 rfl rfl ?_
    refine jo_iald (N := 5) kc_184 d_X12_hoursBy_21 ?_
    refine jo_aload 0 d_X12_hoursBy_22 rfl rfl ?_
    refine jo_iload 1 d_X12_hoursBy_23 rfl rfl ?_
    refine jo_callV (st := [ji (M 184 (jw 2).toNat), ji 2, .ref 184]) (m_X12_hoursGo hs n x1 M) ok_X12_hoursGo (And.intro (Nat.le_of_ble_eq_true rfl) (Nat.le_of_ble_eq_true rfl)) lm_X12_332 in_X12_hoursGo se_X12_hoursGo rfl kc_167 rfl rfl (And.intro (Nat.zero_le _) (Nat.zero_le _)) rfl (Nat.le_of_ble_eq_true rfl) d_X12_hoursBy_24 (fun r1 M2 => ?_)
    refine jo_callS (st := [ji (M 184 (jw 2).toNat), ji 2, .ref 184]) (m_X12_bits hs n r1 M2) ok_X12_bits (And.intro (Nat.le_of_ble_eq_true rfl) (Nat.le_of_ble_eq_true rfl)) lm_X12_338 st_X12_bits rfl (And.intro (Nat.zero_le _) (Nat.zero_le _)) rfl (Nat.le_of_ble_eq_true rfl) d_X12_hoursBy_27 (fun r3 M4 => ?_)
    refine jo_iadd d_X12_hoursBy_30 ?_
    refine jo_iast (N := 5) kc_184 d_X12_hoursBy_31 (fun M5 => ?_)
    refine jo_aload 0 d_X12_hoursBy_32 rfl rfl ?_
    refine jo_getR (k := 35) cl_12 (Nat.le_of_ble_eq_true rfl) lk_X12_71 rfl kc_167 kr_167_35 d_X12_hoursBy_33 ?_
    refine jo_iconst 1 d_X12_hoursBy_36 ?_
    refine jo_dup2 d_X12_hoursBy_37 rfl rfl ?_
    refine jo_iald (N := 5) kc_184 d_X12_hoursBy_38 ?_
    refine jo_iload 1 d_X12_hoursBy_39 rfl rfl ?_
    refine jo_iadd d_X12_hoursBy_40 ?_
    refine jo_iast (N := 5) kc_184 d_X12_hoursBy_41 (fun M6 => ?_)
    refine jo_iconst 1 d_X12_hoursBy_42 ?_
    exact jo_zret rfl (by decide) d_X12_hoursBy_43
  · skip
    refine jo_iconst 0 d_X12_hoursBy_13 ?_
    exact jo_zret rfl (by decide) d_X12_hoursBy_14
theorem m_X12_hoursBy {g : JG} {ad : Nat → Nat} (hs : jStr g ad) (n : Nat) (x1 : Int) (M : JMem) : jMet g jNN ad jR D_X12_hoursBy yX12_hoursBy [.ref 167, ji x1] M (f_X12_hoursBy n x1 M) :=
  jMet.of (lo0 := [some (.ref 167), some (ji x1)]) (by decide) rfl rfl (Nat.le_of_ble_eq_true rfl) (And.intro rfl (And.intro rfl True.intro)) (t_X12_hoursBy hs n x1 M)
/-! CageLeaveModel.isMonday()Z -/
def D_X12_isMonday : JD := (RX12, cX12_isMonday, 1, some .boolean, "isMonday", { frames := 0, cells := 0, slots := 0, locals := 0 })
theorem ok_X12_isMonday : jOk D_X12_isMonday yX12_isMonday 0 := ⟨jTW_mem (k := 1813) (by decide +kernel) rfl, jTW_mem (k := 151) (by decide +kernel) rfl, ⟨by decide +kernel, by decide +kernel⟩, by decide +kernel, rfl, rfl⟩
theorem in_X12_isMonday : Cond.instanceMethod yX12_isMonday ∈ jTW := jTW_mem (k := 1812) (by decide +kernel) rfl
theorem se_X12_isMonday : Cond.selects yX12_isMonday.cls yX12_isMonday yX12_isMonday ∈ jTW := jTW_mem (k := 102) (by decide +kernel) rfl
theorem d_X12_isMonday_0 : decode (D_X12_isMonday).2.1 0 = .ok (.aload_n 0, 1) := by decide +kernel
theorem d_X12_isMonday_1 : decode (D_X12_isMonday).2.1 1 = .ok (.getfield 7, 3) := by decide +kernel
theorem d_X12_isMonday_4 : decode (D_X12_isMonday).2.1 4 = .ok (.iconst 5, 1) := by decide +kernel
theorem d_X12_isMonday_5 : decode (D_X12_isMonday).2.1 5 = .ok (.iaload, 1) := by decide +kernel
theorem d_X12_isMonday_6 : decode (D_X12_isMonday).2.1 6 = .ok (.bipush 64, 2) := by decide +kernel
theorem d_X12_isMonday_8 : decode (D_X12_isMonday).2.1 8 = .ok (.if_icmp .ne 19, 3) := by decide +kernel
theorem d_X12_isMonday_11 : decode (D_X12_isMonday).2.1 11 = .ok (.aload_n 0, 1) := by decide +kernel
theorem d_X12_isMonday_12 : decode (D_X12_isMonday).2.1 12 = .ok (.getfield 7, 3) := by decide +kernel
theorem d_X12_isMonday_15 : decode (D_X12_isMonday).2.1 15 = .ok (.iconst 4, 1) := by decide +kernel
theorem d_X12_isMonday_16 : decode (D_X12_isMonday).2.1 16 = .ok (.iaload, 1) := by decide +kernel
theorem d_X12_isMonday_17 : decode (D_X12_isMonday).2.1 17 = .ok (.sipush 999, 3) := by decide +kernel
theorem d_X12_isMonday_20 : decode (D_X12_isMonday).2.1 20 = .ok (.if_icmp .ge 7, 3) := by decide +kernel
theorem d_X12_isMonday_23 : decode (D_X12_isMonday).2.1 23 = .ok (.iconst 1, 1) := by decide +kernel
theorem d_X12_isMonday_24 : decode (D_X12_isMonday).2.1 24 = .ok (.goto 4, 3) := by decide +kernel
theorem d_X12_isMonday_27 : decode (D_X12_isMonday).2.1 27 = .ok (.iconst 0, 1) := by decide +kernel
theorem d_X12_isMonday_28 : decode (D_X12_isMonday).2.1 28 = .ok (.ireturn, 1) := by decide +kernel
def f_X12_isMonday (n : Nat) (M : JMem) : Option (Int × JMem) := chk (jin 5 3160) <| if jw (M 168 (jw 5).toNat) = jw 64 then (chk (jin 4 3160) <| if jw 999 ≤ jw (M 168 (jw 4).toNat) then (some (0, M)) else (some (1, M))) else (some (0, M))
set_option maxRecDepth 4000 in
theorem t_X12_isMonday {g : JG} {ad : Nat → Nat} (hs : jStr g ad) (n : Nat) (M : JMem) : jB g D_X12_isMonday ad 0 [some (.ref 167)] [] M (f_X12_isMonday n M) := by
  unfold f_X12_isMonday
  refine jo_aload 0 d_X12_isMonday_0 rfl rfl ?_
  refine jo_getR (k := 0) cl_12 (Nat.le_of_ble_eq_true rfl) lk_X12_7 rfl kc_167 kr_167_0 d_X12_isMonday_1 ?_
  refine jo_iconst 5 d_X12_isMonday_4 ?_
  refine jo_iald (N := 3160) kc_168 d_X12_isMonday_5 ?_
  refine jo_bipush 64 d_X12_isMonday_6 (by decide) ?_
  refine jo_icmp_ne 27 d_X12_isMonday_8 (by decide) ?_ ?_
  · skip
    refine jo_iconst 0 d_X12_isMonday_27 ?_
    exact jo_zret rfl (by decide) d_X12_isMonday_28
  · skip
    refine jo_aload 0 d_X12_isMonday_11 rfl rfl ?_
    refine jo_getR (k := 0) cl_12 (Nat.le_of_ble_eq_true rfl) lk_X12_7 rfl kc_167 kr_167_0 d_X12_isMonday_12 ?_
    refine jo_iconst 4 d_X12_isMonday_15 ?_
    refine jo_iald (N := 3160) kc_168 d_X12_isMonday_16 ?_
    refine jo_sipush 999 d_X12_isMonday_17 (by decide) ?_
    refine jo_icmp_ge 27 d_X12_isMonday_20 (by decide) ?_ ?_
    · skip
      refine jo_iconst 0 d_X12_isMonday_27 ?_
      exact jo_zret rfl (by decide) d_X12_isMonday_28
    · skip
      refine jo_iconst 1 d_X12_isMonday_23 ?_
      refine jo_goto 28 d_X12_isMonday_24 (by decide) ?_
      exact jo_zret rfl (by decide) d_X12_isMonday_28
theorem m_X12_isMonday {g : JG} {ad : Nat → Nat} (hs : jStr g ad) (n : Nat) (M : JMem) : jMet g jNN ad jR D_X12_isMonday yX12_isMonday [.ref 167] M (f_X12_isMonday n M) :=
  jMet.of (lo0 := [some (.ref 167)]) (by decide) rfl rfl (Nat.le_of_ble_eq_true rfl) (And.intro rfl True.intro) (t_X12_isMonday hs n M)
/-! CageLeaveModel.lateNow()I -/
def D_X12_lateNow : JD := (RX12, cX12_lateNow, 3, some .int, "lateNow", { frames := 4, cells := 0, slots := 0, locals := 84 })
theorem ok_X12_lateNow : jOk D_X12_lateNow yX12_lateNow 0 := ⟨jTW_mem (k := 1821) (by decide +kernel) rfl, jTW_mem (k := 151) (by decide +kernel) rfl, ⟨by decide +kernel, by decide +kernel⟩, by decide +kernel, rfl, rfl⟩
theorem in_X12_lateNow : Cond.instanceMethod yX12_lateNow ∈ jTW := jTW_mem (k := 1820) (by decide +kernel) rfl
theorem se_X12_lateNow : Cond.selects yX12_lateNow.cls yX12_lateNow yX12_lateNow ∈ jTW := jTW_mem (k := 104) (by decide +kernel) rfl
theorem d_X12_lateNow_0 : decode (D_X12_lateNow).2.1 0 = .ok (.iconst 0, 1) := by decide +kernel
theorem d_X12_lateNow_1 : decode (D_X12_lateNow).2.1 1 = .ok (.istore_n 1, 1) := by decide +kernel
theorem d_X12_lateNow_2 : decode (D_X12_lateNow).2.1 2 = .ok (.iconst 0, 1) := by decide +kernel
theorem d_X12_lateNow_3 : decode (D_X12_lateNow).2.1 3 = .ok (.istore_n 2, 1) := by decide +kernel
theorem d_X12_lateNow_4 : decode (D_X12_lateNow).2.1 4 = .ok (.iload_n 2, 1) := by decide +kernel
theorem d_X12_lateNow_5 : decode (D_X12_lateNow).2.1 5 = .ok (.aload_n 0, 1) := by decide +kernel
theorem d_X12_lateNow_6 : decode (D_X12_lateNow).2.1 6 = .ok (.getfield 7, 3) := by decide +kernel
theorem d_X12_lateNow_9 : decode (D_X12_lateNow).2.1 9 = .ok (.iconst 2, 1) := by decide +kernel
theorem d_X12_lateNow_10 : decode (D_X12_lateNow).2.1 10 = .ok (.iaload, 1) := by decide +kernel
theorem d_X12_lateNow_11 : decode (D_X12_lateNow).2.1 11 = .ok (.if_icmp .ge 27, 3) := by decide +kernel
theorem d_X12_lateNow_14 : decode (D_X12_lateNow).2.1 14 = .ok (.iload_n 1, 1) := by decide +kernel
theorem d_X12_lateNow_15 : decode (D_X12_lateNow).2.1 15 = .ok (.aload_n 0, 1) := by decide +kernel
theorem d_X12_lateNow_16 : decode (D_X12_lateNow).2.1 16 = .ok (.iload_n 2, 1) := by decide +kernel
theorem d_X12_lateNow_17 : decode (D_X12_lateNow).2.1 17 = .ok (.invokevirtual 282, 3) := by decide +kernel
theorem d_X12_lateNow_20 : decode (D_X12_lateNow).2.1 20 = .ok (.ifCond .le 9, 3) := by decide +kernel
theorem d_X12_lateNow_23 : decode (D_X12_lateNow).2.1 23 = .ok (.iconst 1, 1) := by decide +kernel
theorem d_X12_lateNow_24 : decode (D_X12_lateNow).2.1 24 = .ok (.iload_n 2, 1) := by decide +kernel
theorem d_X12_lateNow_25 : decode (D_X12_lateNow).2.1 25 = .ok (.ishl, 1) := by decide +kernel
theorem d_X12_lateNow_26 : decode (D_X12_lateNow).2.1 26 = .ok (.goto 4, 3) := by decide +kernel
theorem d_X12_lateNow_29 : decode (D_X12_lateNow).2.1 29 = .ok (.iconst 0, 1) := by decide +kernel
theorem d_X12_lateNow_30 : decode (D_X12_lateNow).2.1 30 = .ok (.ior, 1) := by decide +kernel
theorem d_X12_lateNow_31 : decode (D_X12_lateNow).2.1 31 = .ok (.istore_n 1, 1) := by decide +kernel
theorem d_X12_lateNow_32 : decode (D_X12_lateNow).2.1 32 = .ok (.iinc 2 1, 3) := by decide +kernel
theorem d_X12_lateNow_35 : decode (D_X12_lateNow).2.1 35 = .ok (.goto (-31), 3) := by decide +kernel
theorem d_X12_lateNow_38 : decode (D_X12_lateNow).2.1 38 = .ok (.iload_n 1, 1) := by decide +kernel
theorem d_X12_lateNow_39 : decode (D_X12_lateNow).2.1 39 = .ok (.ireturn, 1) := by decide +kernel
def f_X12_lateNow_L30 (n : Nat) (r4 : Int → Int → JMem → Option (Int × JMem)) (v2 w0 w1 : Int) (M : JMem) : Option (Int × JMem) := letv (jor w0 w1) fun y1 => letv (v2 + 1) fun y2 => r4 y1 y2 M
set_option maxRecDepth 4000 in
theorem t_X12_lateNow_L30 {g : JG} {ad : Nat → Nat} (hs : jStr g ad) (n : Nat) (r4 : Int → Int → JMem → Option (Int × JMem)) (hr4 : ∀ (v1 v2 : Int) (M : JMem), jB g D_X12_lateNow ad 4 [some (.ref 167), some (ji v1), some (ji v2)] [] M (r4 v1 v2 M)) (v2 w0 w1 : Int) (M : JMem) : jB g D_X12_lateNow ad 30 [some (.ref 167), none, some (ji v2)] [ji w1, ji w0] M (f_X12_lateNow_L30 n r4 v2 w0 w1 M) := by
  unfold f_X12_lateNow_L30
  refine jo_ior d_X12_lateNow_30 ?_
  refine jo_istore 1 d_X12_lateNow_31 rfl (Nat.le_of_ble_eq_true rfl) (fun y1 => ?_)
  refine jo_iinc 2 d_X12_lateNow_32 rfl (Nat.le_of_ble_eq_true rfl) (fun y2 => ?_)
  refine jo_goto 4 d_X12_lateNow_35 (by decide) ?_
  exact jO.sub (hr4 y1 y2 M) (And.intro rfl (And.intro rfl (And.intro rfl True.intro)))
def f_X12_lateNow_L4 (n : Nat) : Nat → Int → Int → JMem → Option (Int × JMem)
  | 0, _, _, _ => none
  | k + 1, v1, v2, M => chk (jin 2 3160) <| if jw (M 168 (jw 2).toNat) ≤ jw v2 then (some (v1, M)) else (bnd (f_X12_whereOf n v2 M) fun r1 M2 => if jw r1 ≤ 0 then (f_X12_lateNow_L30 n (f_X12_lateNow_L4 n k) v2 v1 0 M2) else (f_X12_lateNow_L30 n (f_X12_lateNow_L4 n k) v2 v1 (jshl 1 v2) M2))
set_option maxRecDepth 4000 in
theorem t_X12_lateNow_L4 {g : JG} {ad : Nat → Nat} (hs : jStr g ad) (n : Nat) : ∀ (k : Nat) (v1 v2 : Int) (M : JMem), jB g D_X12_lateNow ad 4 [some (.ref 167), some (ji v1), some (ji v2)] [] M (f_X12_lateNow_L4 n k v1 v2 M) := by
  intro k
  induction k with
  | zero => intro v1 v2 M; exact jO.none
  | succ k ih =>
    intro v1 v2 M
    rw [f_X12_lateNow_L4]
    refine jo_iload 2 d_X12_lateNow_4 rfl rfl ?_
    refine jo_aload 0 d_X12_lateNow_5 rfl rfl ?_
    refine jo_getR (k := 0) cl_12 (Nat.le_of_ble_eq_true rfl) lk_X12_7 rfl kc_167 kr_167_0 d_X12_lateNow_6 ?_
    refine jo_iconst 2 d_X12_lateNow_9 ?_
    refine jo_iald (N := 3160) kc_168 d_X12_lateNow_10 ?_
    refine jo_icmp_ge 38 d_X12_lateNow_11 (by decide) ?_ ?_
    · skip
      refine jo_iload 1 d_X12_lateNow_38 rfl rfl ?_
      exact jo_iret rfl d_X12_lateNow_39
    · skip
      refine jo_iload 1 d_X12_lateNow_14 rfl rfl ?_
      refine jo_aload 0 d_X12_lateNow_15 rfl rfl ?_
      refine jo_iload 2 d_X12_lateNow_16 rfl rfl ?_
      refine jo_callV (st := [ji v1]) (m_X12_whereOf hs n v2 M) ok_X12_whereOf (And.intro (Nat.le_of_ble_eq_true rfl) (Nat.le_of_ble_eq_true rfl)) lm_X12_282 in_X12_whereOf se_X12_whereOf rfl kc_167 rfl rfl (And.intro (Nat.zero_le _) (Nat.zero_le _)) rfl (Nat.le_of_ble_eq_true rfl) d_X12_lateNow_17 (fun r1 M2 => ?_)
      refine jo_if_le 29 d_X12_lateNow_20 (by decide) ?_ ?_
      · skip
        refine jo_iconst 0 d_X12_lateNow_29 ?_
        exact jO.sub (t_X12_lateNow_L30 hs n (f_X12_lateNow_L4 n k) ih v2 v1 0 M2) (And.intro rfl (And.intro rfl True.intro))
      · skip
        refine jo_iconst 1 d_X12_lateNow_23 ?_
        refine jo_iload 2 d_X12_lateNow_24 rfl rfl ?_
        refine jo_ishl d_X12_lateNow_25 ?_
        refine jo_goto 30 d_X12_lateNow_26 (by decide) ?_
        exact jO.sub (t_X12_lateNow_L30 hs n (f_X12_lateNow_L4 n k) ih v2 v1 (jshl 1 v2) M2) (And.intro rfl (And.intro rfl True.intro))
def f_X12_lateNow (n : Nat) (M : JMem) : Option (Int × JMem) := letv 0 fun y1 => letv 0 fun y2 => f_X12_lateNow_L4 n n y1 y2 M
set_option maxRecDepth 4000 in
theorem t_X12_lateNow {g : JG} {ad : Nat → Nat} (hs : jStr g ad) (n : Nat) (M : JMem) : jB g D_X12_lateNow ad 0 [some (.ref 167), none, none] [] M (f_X12_lateNow n M) := by
  unfold f_X12_lateNow
  refine jo_iconst 0 d_X12_lateNow_0 ?_
  refine jo_istore 1 d_X12_lateNow_1 rfl (Nat.le_of_ble_eq_true rfl) (fun y1 => ?_)
  refine jo_iconst 0 d_X12_lateNow_2 ?_
  refine jo_istore 2 d_X12_lateNow_3 rfl (Nat.le_of_ble_eq_true rfl) (fun y2 => ?_)
  exact jO.sub (t_X12_lateNow_L4 hs n n y1 y2 M) (And.intro rfl (And.intro rfl (And.intro rfl True.intro)))
theorem m_X12_lateNow {g : JG} {ad : Nat → Nat} (hs : jStr g ad) (n : Nat) (M : JMem) : jMet g jNN ad jR D_X12_lateNow yX12_lateNow [.ref 167] M (f_X12_lateNow n M) :=
  jMet.of (lo0 := [some (.ref 167), none, none]) (by decide) rfl rfl (Nat.le_of_ble_eq_true rfl) (And.intro rfl True.intro) (t_X12_lateNow hs n M)
/-! CageLeaveModel.mondayComes()I -/
def D_X12_mondayComes : JD := (RX12, cX12_mondayComes, 3, some .int, "mondayComes", { frames := 5, cells := 0, slots := 0, locals := 106 })
theorem ok_X12_mondayComes : jOk D_X12_mondayComes yX12_mondayComes 0 := ⟨jTW_mem (k := 1817) (by decide +kernel) rfl, jTW_mem (k := 151) (by decide +kernel) rfl, ⟨by decide +kernel, by decide +kernel⟩, by decide +kernel, rfl, rfl⟩
theorem in_X12_mondayComes : Cond.instanceMethod yX12_mondayComes ∈ jTW := jTW_mem (k := 1816) (by decide +kernel) rfl
theorem se_X12_mondayComes : Cond.selects yX12_mondayComes.cls yX12_mondayComes yX12_mondayComes ∈ jTW := jTW_mem (k := 103) (by decide +kernel) rfl
theorem lm_X12_335 : Cond.methodLink RX12 335 yX12_lateNow ∈ jTW := jTW_mem (k := 1818) (by decide +kernel) rfl
theorem d_X12_mondayComes_0 : decode (D_X12_mondayComes).2.1 0 = .ok (.iconst 0, 1) := by decide +kernel
theorem d_X12_mondayComes_1 : decode (D_X12_mondayComes).2.1 1 = .ok (.istore_n 1, 1) := by decide +kernel
theorem d_X12_mondayComes_2 : decode (D_X12_mondayComes).2.1 2 = .ok (.iload_n 1, 1) := by decide +kernel
theorem d_X12_mondayComes_3 : decode (D_X12_mondayComes).2.1 3 = .ok (.aload_n 0, 1) := by decide +kernel
theorem d_X12_mondayComes_4 : decode (D_X12_mondayComes).2.1 4 = .ok (.getfield 7, 3) := by decide +kernel
theorem d_X12_mondayComes_7 : decode (D_X12_mondayComes).2.1 7 = .ok (.iconst 2, 1) := by decide +kernel
theorem d_X12_mondayComes_8 : decode (D_X12_mondayComes).2.1 8 = .ok (.iaload, 1) := by decide +kernel
theorem d_X12_mondayComes_9 : decode (D_X12_mondayComes).2.1 9 = .ok (.if_icmp .ge 14, 3) := by decide +kernel
theorem d_X12_mondayComes_12 : decode (D_X12_mondayComes).2.1 12 = .ok (.aload_n 0, 1) := by decide +kernel
theorem d_X12_mondayComes_13 : decode (D_X12_mondayComes).2.1 13 = .ok (.iload_n 1, 1) := by decide +kernel
theorem d_X12_mondayComes_14 : decode (D_X12_mondayComes).2.1 14 = .ok (.invokevirtual 318, 3) := by decide +kernel
theorem d_X12_mondayComes_17 : decode (D_X12_mondayComes).2.1 17 = .ok (.iinc 1 1, 3) := by decide +kernel
theorem d_X12_mondayComes_20 : decode (D_X12_mondayComes).2.1 20 = .ok (.goto (-18), 3) := by decide +kernel
theorem d_X12_mondayComes_23 : decode (D_X12_mondayComes).2.1 23 = .ok (.aload_n 0, 1) := by decide +kernel
theorem d_X12_mondayComes_24 : decode (D_X12_mondayComes).2.1 24 = .ok (.invokevirtual 335, 3) := by decide +kernel
theorem d_X12_mondayComes_27 : decode (D_X12_mondayComes).2.1 27 = .ok (.istore_n 1, 1) := by decide +kernel
theorem d_X12_mondayComes_28 : decode (D_X12_mondayComes).2.1 28 = .ok (.iconst 0, 1) := by decide +kernel
theorem d_X12_mondayComes_29 : decode (D_X12_mondayComes).2.1 29 = .ok (.istore_n 2, 1) := by decide +kernel
theorem d_X12_mondayComes_30 : decode (D_X12_mondayComes).2.1 30 = .ok (.iload_n 2, 1) := by decide +kernel
theorem d_X12_mondayComes_31 : decode (D_X12_mondayComes).2.1 31 = .ok (.aload_n 0, 1) := by decide +kernel
theorem d_X12_mondayComes_32 : decode (D_X12_mondayComes).2.1 32 = .ok (.getfield 7, 3) := by decide +kernel
theorem d_X12_mondayComes_35 : decode (D_X12_mondayComes).2.1 35 = .ok (.iconst 2, 1) := by decide +kernel
theorem d_X12_mondayComes_36 : decode (D_X12_mondayComes).2.1 36 = .ok (.iaload, 1) := by decide +kernel
theorem d_X12_mondayComes_37 : decode (D_X12_mondayComes).2.1 37 = .ok (.if_icmp .ge 50, 3) := by decide +kernel
theorem d_X12_mondayComes_40 : decode (D_X12_mondayComes).2.1 40 = .ok (.aload_n 0, 1) := by decide +kernel
theorem d_X12_mondayComes_41 : decode (D_X12_mondayComes).2.1 41 = .ok (.getfield 7, 3) := by decide +kernel
theorem d_X12_mondayComes_44 : decode (D_X12_mondayComes).2.1 44 = .ok (.iload_n 2, 1) := by decide +kernel
theorem d_X12_mondayComes_45 : decode (D_X12_mondayComes).2.1 45 = .ok (.invokestatic 270, 3) := by decide +kernel
theorem d_X12_mondayComes_48 : decode (D_X12_mondayComes).2.1 48 = .ok (.iconst 4, 1) := by decide +kernel
theorem d_X12_mondayComes_49 : decode (D_X12_mondayComes).2.1 49 = .ok (.iadd, 1) := by decide +kernel
theorem d_X12_mondayComes_50 : decode (D_X12_mondayComes).2.1 50 = .ok (.dup2, 1) := by decide +kernel
theorem d_X12_mondayComes_51 : decode (D_X12_mondayComes).2.1 51 = .ok (.iaload, 1) := by decide +kernel
theorem d_X12_mondayComes_52 : decode (D_X12_mondayComes).2.1 52 = .ok (.aload_n 0, 1) := by decide +kernel
theorem d_X12_mondayComes_53 : decode (D_X12_mondayComes).2.1 53 = .ok (.iload_n 1, 1) := by decide +kernel
theorem d_X12_mondayComes_54 : decode (D_X12_mondayComes).2.1 54 = .ok (.iload_n 2, 1) := by decide +kernel
theorem d_X12_mondayComes_55 : decode (D_X12_mondayComes).2.1 55 = .ok (.invokevirtual 315, 3) := by decide +kernel
theorem d_X12_mondayComes_58 : decode (D_X12_mondayComes).2.1 58 = .ok (.ifCond .eq 7, 3) := by decide +kernel
theorem d_X12_mondayComes_61 : decode (D_X12_mondayComes).2.1 61 = .ok (.iconst 1, 1) := by decide +kernel
theorem d_X12_mondayComes_62 : decode (D_X12_mondayComes).2.1 62 = .ok (.goto 4, 3) := by decide +kernel
theorem d_X12_mondayComes_65 : decode (D_X12_mondayComes).2.1 65 = .ok (.iconst 0, 1) := by decide +kernel
theorem d_X12_mondayComes_66 : decode (D_X12_mondayComes).2.1 66 = .ok (.iadd, 1) := by decide +kernel
theorem d_X12_mondayComes_67 : decode (D_X12_mondayComes).2.1 67 = .ok (.iastore, 1) := by decide +kernel
theorem d_X12_mondayComes_68 : decode (D_X12_mondayComes).2.1 68 = .ok (.aload_n 0, 1) := by decide +kernel
theorem d_X12_mondayComes_69 : decode (D_X12_mondayComes).2.1 69 = .ok (.getfield 7, 3) := by decide +kernel
theorem d_X12_mondayComes_72 : decode (D_X12_mondayComes).2.1 72 = .ok (.iload_n 2, 1) := by decide +kernel
theorem d_X12_mondayComes_73 : decode (D_X12_mondayComes).2.1 73 = .ok (.invokestatic 270, 3) := by decide +kernel
theorem d_X12_mondayComes_76 : decode (D_X12_mondayComes).2.1 76 = .ok (.bipush 7, 2) := by decide +kernel
theorem d_X12_mondayComes_78 : decode (D_X12_mondayComes).2.1 78 = .ok (.iadd, 1) := by decide +kernel
theorem d_X12_mondayComes_79 : decode (D_X12_mondayComes).2.1 79 = .ok (.iconst 0, 1) := by decide +kernel
theorem d_X12_mondayComes_80 : decode (D_X12_mondayComes).2.1 80 = .ok (.iastore, 1) := by decide +kernel
theorem d_X12_mondayComes_81 : decode (D_X12_mondayComes).2.1 81 = .ok (.iinc 2 1, 3) := by decide +kernel
theorem d_X12_mondayComes_84 : decode (D_X12_mondayComes).2.1 84 = .ok (.goto (-54), 3) := by decide +kernel
theorem d_X12_mondayComes_87 : decode (D_X12_mondayComes).2.1 87 = .ok (.aload_n 0, 1) := by decide +kernel
theorem d_X12_mondayComes_88 : decode (D_X12_mondayComes).2.1 88 = .ok (.getfield 7, 3) := by decide +kernel
theorem d_X12_mondayComes_91 : decode (D_X12_mondayComes).2.1 91 = .ok (.bipush 6, 2) := by decide +kernel
theorem d_X12_mondayComes_93 : decode (D_X12_mondayComes).2.1 93 = .ok (.dup2, 1) := by decide +kernel
theorem d_X12_mondayComes_94 : decode (D_X12_mondayComes).2.1 94 = .ok (.iaload, 1) := by decide +kernel
theorem d_X12_mondayComes_95 : decode (D_X12_mondayComes).2.1 95 = .ok (.iload_n 1, 1) := by decide +kernel
theorem d_X12_mondayComes_96 : decode (D_X12_mondayComes).2.1 96 = .ok (.invokestatic 338, 3) := by decide +kernel
theorem d_X12_mondayComes_99 : decode (D_X12_mondayComes).2.1 99 = .ok (.iadd, 1) := by decide +kernel
theorem d_X12_mondayComes_100 : decode (D_X12_mondayComes).2.1 100 = .ok (.iastore, 1) := by decide +kernel
theorem d_X12_mondayComes_101 : decode (D_X12_mondayComes).2.1 101 = .ok (.aload_n 0, 1) := by decide +kernel
theorem d_X12_mondayComes_102 : decode (D_X12_mondayComes).2.1 102 = .ok (.getfield 7, 3) := by decide +kernel
theorem d_X12_mondayComes_105 : decode (D_X12_mondayComes).2.1 105 = .ok (.iconst 4, 1) := by decide +kernel
theorem d_X12_mondayComes_106 : decode (D_X12_mondayComes).2.1 106 = .ok (.dup2, 1) := by decide +kernel
theorem d_X12_mondayComes_107 : decode (D_X12_mondayComes).2.1 107 = .ok (.iaload, 1) := by decide +kernel
theorem d_X12_mondayComes_108 : decode (D_X12_mondayComes).2.1 108 = .ok (.iconst 1, 1) := by decide +kernel
theorem d_X12_mondayComes_109 : decode (D_X12_mondayComes).2.1 109 = .ok (.iadd, 1) := by decide +kernel
theorem d_X12_mondayComes_110 : decode (D_X12_mondayComes).2.1 110 = .ok (.iastore, 1) := by decide +kernel
theorem d_X12_mondayComes_111 : decode (D_X12_mondayComes).2.1 111 = .ok (.aload_n 0, 1) := by decide +kernel
theorem d_X12_mondayComes_112 : decode (D_X12_mondayComes).2.1 112 = .ok (.getfield 7, 3) := by decide +kernel
theorem d_X12_mondayComes_115 : decode (D_X12_mondayComes).2.1 115 = .ok (.iconst 5, 1) := by decide +kernel
theorem d_X12_mondayComes_116 : decode (D_X12_mondayComes).2.1 116 = .ok (.iconst 0, 1) := by decide +kernel
theorem d_X12_mondayComes_117 : decode (D_X12_mondayComes).2.1 117 = .ok (.iastore, 1) := by decide +kernel
theorem d_X12_mondayComes_118 : decode (D_X12_mondayComes).2.1 118 = .ok (.iload_n 1, 1) := by decide +kernel
theorem d_X12_mondayComes_119 : decode (D_X12_mondayComes).2.1 119 = .ok (.ireturn, 1) := by decide +kernel
def f_X12_mondayComes_L66 (n : Nat) (r30 : Int → Int → JMem → Option (Int × JMem)) (v1 v2 w1 w2 w3 : Int) (M : JMem) : Option (Int × JMem) := chk (jin w1 3160) <| letm (jup M 168 (jw w1).toNat (w2 + w3)) fun M1 => bnd (f_X12_beastRow n v2 M1) fun r2 M3 => chk (jin (r2 + 7) 3160) <| letm (jup M3 168 (jw (r2 + 7)).toNat 0) fun M4 => letv (v2 + 1) fun y5 => r30 v1 y5 M4
set_option maxRecDepth 4000 in
theorem t_X12_mondayComes_L66 {g : JG} {ad : Nat → Nat} (hs : jStr g ad) (n : Nat) (r30 : Int → Int → JMem → Option (Int × JMem)) (hr30 : ∀ (v1 v2 : Int) (M : JMem), jB g D_X12_mondayComes ad 30 [some (.ref 167), some (ji v1), some (ji v2)] [] M (r30 v1 v2 M)) (v1 v2 w1 w2 w3 : Int) (M : JMem) : jB g D_X12_mondayComes ad 66 [some (.ref 167), some (ji v1), some (ji v2)] [ji w3, ji w2, ji w1, .ref 168] M (f_X12_mondayComes_L66 n r30 v1 v2 w1 w2 w3 M) := by
  unfold f_X12_mondayComes_L66
  refine jo_iadd d_X12_mondayComes_66 ?_
  refine jo_iast (N := 3160) kc_168 d_X12_mondayComes_67 (fun M1 => ?_)
  refine jo_aload 0 d_X12_mondayComes_68 rfl rfl ?_
  refine jo_getR (k := 0) cl_12 (Nat.le_of_ble_eq_true rfl) lk_X12_7 rfl kc_167 kr_167_0 d_X12_mondayComes_69 ?_
  refine jo_iload 2 d_X12_mondayComes_72 rfl rfl ?_
  refine jo_callS (st := [.ref 168]) (m_X12_beastRow hs n v2 M1) ok_X12_beastRow (And.intro (Nat.le_of_ble_eq_true rfl) (Nat.le_of_ble_eq_true rfl)) lm_X12_270 st_X12_beastRow rfl (And.intro (Nat.zero_le _) (Nat.zero_le _)) rfl (Nat.le_of_ble_eq_true rfl) d_X12_mondayComes_73 (fun r2 M3 => ?_)
  refine jo_bipush 7 d_X12_mondayComes_76 (by decide) ?_
  refine jo_iadd d_X12_mondayComes_78 ?_
  refine jo_iconst 0 d_X12_mondayComes_79 ?_
  refine jo_iast (N := 3160) kc_168 d_X12_mondayComes_80 (fun M4 => ?_)
  refine jo_iinc 2 d_X12_mondayComes_81 rfl (Nat.le_of_ble_eq_true rfl) (fun y5 => ?_)
  refine jo_goto 30 d_X12_mondayComes_84 (by decide) ?_
  exact jO.sub (hr30 v1 y5 M4) (And.intro rfl (And.intro rfl (And.intro rfl True.intro)))
def f_X12_mondayComes_L87 (n : Nat) (v1 : Int) (M : JMem) : Option (Int × JMem) := chk (jin 6 3160) <| bnd (f_X12_bits n v1 M) fun r1 M2 => chk (jin 6 3160) <| letm (jup M2 168 (jw 6).toNat ((M 168 (jw 6).toNat) + r1)) fun M3 => chk (jin 4 3160) <| chk (jin 4 3160) <| letm (jup M3 168 (jw 4).toNat ((M3 168 (jw 4).toNat) + 1)) fun M4 => chk (jin 5 3160) <| letm (jup M4 168 (jw 5).toNat 0) fun M5 => some (v1, M5)
set_option maxRecDepth 4000 in
theorem t_X12_mondayComes_L87 {g : JG} {ad : Nat → Nat} (hs : jStr g ad) (n : Nat) (v1 : Int) (M : JMem) : jB g D_X12_mondayComes ad 87 [some (.ref 167), some (ji v1), none] [] M (f_X12_mondayComes_L87 n v1 M) := by
  unfold f_X12_mondayComes_L87
  refine jo_aload 0 d_X12_mondayComes_87 rfl rfl ?_
  refine jo_getR (k := 0) cl_12 (Nat.le_of_ble_eq_true rfl) lk_X12_7 rfl kc_167 kr_167_0 d_X12_mondayComes_88 ?_
  refine jo_bipush 6 d_X12_mondayComes_91 (by decide) ?_
  refine jo_dup2 d_X12_mondayComes_93 rfl rfl ?_
  refine jo_iald (N := 3160) kc_168 d_X12_mondayComes_94 ?_
  refine jo_iload 1 d_X12_mondayComes_95 rfl rfl ?_
  refine jo_callS (st := [ji (M 168 (jw 6).toNat), ji 6, .ref 168]) (m_X12_bits hs n v1 M) ok_X12_bits (And.intro (Nat.le_of_ble_eq_true rfl) (Nat.le_of_ble_eq_true rfl)) lm_X12_338 st_X12_bits rfl (And.intro (Nat.zero_le _) (Nat.zero_le _)) rfl (Nat.le_of_ble_eq_true rfl) d_X12_mondayComes_96 (fun r1 M2 => ?_)
  refine jo_iadd d_X12_mondayComes_99 ?_
  refine jo_iast (N := 3160) kc_168 d_X12_mondayComes_100 (fun M3 => ?_)
  refine jo_aload 0 d_X12_mondayComes_101 rfl rfl ?_
  refine jo_getR (k := 0) cl_12 (Nat.le_of_ble_eq_true rfl) lk_X12_7 rfl kc_167 kr_167_0 d_X12_mondayComes_102 ?_
  refine jo_iconst 4 d_X12_mondayComes_105 ?_
  refine jo_dup2 d_X12_mondayComes_106 rfl rfl ?_
  refine jo_iald (N := 3160) kc_168 d_X12_mondayComes_107 ?_
  refine jo_iconst 1 d_X12_mondayComes_108 ?_
  refine jo_iadd d_X12_mondayComes_109 ?_
  refine jo_iast (N := 3160) kc_168 d_X12_mondayComes_110 (fun M4 => ?_)
  refine jo_aload 0 d_X12_mondayComes_111 rfl rfl ?_
  refine jo_getR (k := 0) cl_12 (Nat.le_of_ble_eq_true rfl) lk_X12_7 rfl kc_167 kr_167_0 d_X12_mondayComes_112 ?_
  refine jo_iconst 5 d_X12_mondayComes_115 ?_
  refine jo_iconst 0 d_X12_mondayComes_116 ?_
  refine jo_iast (N := 3160) kc_168 d_X12_mondayComes_117 (fun M5 => ?_)
  refine jo_iload 1 d_X12_mondayComes_118 rfl rfl ?_
  exact jo_iret rfl d_X12_mondayComes_119
def f_X12_mondayComes_L30 (n : Nat) : Nat → Int → Int → JMem → Option (Int × JMem)
  | 0, _, _, _ => none
  | k + 1, v1, v2, M => chk (jin 2 3160) <| if jw (M 168 (jw 2).toNat) ≤ jw v2 then (f_X12_mondayComes_L87 n v1 M) else (bnd (f_X12_beastRow n v2 M) fun r1 M2 => chk (jin (r1 + 4) 3160) <| bnd (f_X12_isIn n v1 v2 M2) fun r3 M4 => if jw r3 = 0 then (f_X12_mondayComes_L66 n (f_X12_mondayComes_L30 n k) v1 v2 (r1 + 4) (M2 168 (jw (r1 + 4)).toNat) 0 M4) else (f_X12_mondayComes_L66 n (f_X12_mondayComes_L30 n k) v1 v2 (r1 + 4) (M2 168 (jw (r1 + 4)).toNat) 1 M4))
set_option maxRecDepth 4000 in
theorem t_X12_mondayComes_L30 {g : JG} {ad : Nat → Nat} (hs : jStr g ad) (n : Nat) : ∀ (k : Nat) (v1 v2 : Int) (M : JMem), jB g D_X12_mondayComes ad 30 [some (.ref 167), some (ji v1), some (ji v2)] [] M (f_X12_mondayComes_L30 n k v1 v2 M) := by
  intro k
  induction k with
  | zero => intro v1 v2 M; exact jO.none
  | succ k ih =>
    intro v1 v2 M
    rw [f_X12_mondayComes_L30]
    refine jo_iload 2 d_X12_mondayComes_30 rfl rfl ?_
    refine jo_aload 0 d_X12_mondayComes_31 rfl rfl ?_
    refine jo_getR (k := 0) cl_12 (Nat.le_of_ble_eq_true rfl) lk_X12_7 rfl kc_167 kr_167_0 d_X12_mondayComes_32 ?_
    refine jo_iconst 2 d_X12_mondayComes_35 ?_
    refine jo_iald (N := 3160) kc_168 d_X12_mondayComes_36 ?_
    refine jo_icmp_ge 87 d_X12_mondayComes_37 (by decide) ?_ ?_
    · skip
      exact jO.sub (t_X12_mondayComes_L87 hs n v1 M) (And.intro rfl (And.intro rfl True.intro))
    · skip
      refine jo_aload 0 d_X12_mondayComes_40 rfl rfl ?_
      refine jo_getR (k := 0) cl_12 (Nat.le_of_ble_eq_true rfl) lk_X12_7 rfl kc_167 kr_167_0 d_X12_mondayComes_41 ?_
      refine jo_iload 2 d_X12_mondayComes_44 rfl rfl ?_
      refine jo_callS (st := [.ref 168]) (m_X12_beastRow hs n v2 M) ok_X12_beastRow (And.intro (Nat.le_of_ble_eq_true rfl) (Nat.le_of_ble_eq_true rfl)) lm_X12_270 st_X12_beastRow rfl (And.intro (Nat.zero_le _) (Nat.zero_le _)) rfl (Nat.le_of_ble_eq_true rfl) d_X12_mondayComes_45 (fun r1 M2 => ?_)
      refine jo_iconst 4 d_X12_mondayComes_48 ?_
      refine jo_iadd d_X12_mondayComes_49 ?_
      refine jo_dup2 d_X12_mondayComes_50 rfl rfl ?_
      refine jo_iald (N := 3160) kc_168 d_X12_mondayComes_51 ?_
      refine jo_aload 0 d_X12_mondayComes_52 rfl rfl ?_
      refine jo_iload 1 d_X12_mondayComes_53 rfl rfl ?_
      refine jo_iload 2 d_X12_mondayComes_54 rfl rfl ?_
      refine jo_callV (st := [ji (M2 168 (jw (r1 + 4)).toNat), ji (r1 + 4), .ref 168]) (m_X12_isIn hs n v1 v2 M2) ok_X12_isIn (And.intro (Nat.le_of_ble_eq_true rfl) (Nat.le_of_ble_eq_true rfl)) lm_X12_315 in_X12_isIn se_X12_isIn rfl kc_167 rfl rfl (And.intro (Nat.zero_le _) (Nat.zero_le _)) rfl (Nat.le_of_ble_eq_true rfl) d_X12_mondayComes_55 (fun r3 M4 => ?_)
      refine jo_if_eq 65 d_X12_mondayComes_58 (by decide) ?_ ?_
      · skip
        refine jo_iconst 0 d_X12_mondayComes_65 ?_
        exact jO.sub (t_X12_mondayComes_L66 hs n (f_X12_mondayComes_L30 n k) ih v1 v2 (r1 + 4) (M2 168 (jw (r1 + 4)).toNat) 0 M4) (And.intro rfl (And.intro rfl (And.intro rfl True.intro)))
      · skip
        refine jo_iconst 1 d_X12_mondayComes_61 ?_
        refine jo_goto 66 d_X12_mondayComes_62 (by decide) ?_
        exact jO.sub (t_X12_mondayComes_L66 hs n (f_X12_mondayComes_L30 n k) ih v1 v2 (r1 + 4) (M2 168 (jw (r1 + 4)).toNat) 1 M4) (And.intro rfl (And.intro rfl (And.intro rfl True.intro)))
def f_X12_mondayComes_L23 (n : Nat) (M : JMem) : Option (Int × JMem) := bnd (f_X12_lateNow n M) fun r1 M2 => letv r1 fun y3 => letv 0 fun y4 => f_X12_mondayComes_L30 n n y3 y4 M2
set_option maxRecDepth 4000 in
theorem t_X12_mondayComes_L23 {g : JG} {ad : Nat → Nat} (hs : jStr g ad) (n : Nat) (M : JMem) : jB g D_X12_mondayComes ad 23 [some (.ref 167), none, none] [] M (f_X12_mondayComes_L23 n M) := by
  unfold f_X12_mondayComes_L23
  refine jo_aload 0 d_X12_mondayComes_23 rfl rfl ?_
  refine jo_callV (st := []) (m_X12_lateNow hs n M) ok_X12_lateNow (And.intro (Nat.le_of_ble_eq_true rfl) (Nat.le_of_ble_eq_true rfl)) lm_X12_335 in_X12_lateNow se_X12_lateNow rfl kc_167 rfl rfl (And.intro (Nat.zero_le _) (Nat.zero_le _)) rfl (Nat.le_of_ble_eq_true rfl) d_X12_mondayComes_24 (fun r1 M2 => ?_)
  refine jo_istore 1 d_X12_mondayComes_27 rfl (Nat.le_of_ble_eq_true rfl) (fun y3 => ?_)
  refine jo_iconst 0 d_X12_mondayComes_28 ?_
  refine jo_istore 2 d_X12_mondayComes_29 rfl (Nat.le_of_ble_eq_true rfl) (fun y4 => ?_)
  exact jO.sub (t_X12_mondayComes_L30 hs n n y3 y4 M2) (And.intro rfl (And.intro rfl (And.intro rfl True.intro)))
def f_X12_mondayComes_L2 (n : Nat) : Nat → Int → JMem → Option (Int × JMem)
  | 0, _, _ => none
  | k + 1, v1, M => chk (jin 2 3160) <| if jw (M 168 (jw 2).toNat) ≤ jw v1 then (f_X12_mondayComes_L23 n M) else (bnd (f_X12_getsOff n v1 M) fun _ M2 => letv (v1 + 1) fun y3 => (f_X12_mondayComes_L2 n k) y3 M2)
set_option maxRecDepth 4000 in
theorem t_X12_mondayComes_L2 {g : JG} {ad : Nat → Nat} (hs : jStr g ad) (n : Nat) : ∀ (k : Nat) (v1 : Int) (M : JMem), jB g D_X12_mondayComes ad 2 [some (.ref 167), some (ji v1), none] [] M (f_X12_mondayComes_L2 n k v1 M) := by
  intro k
  induction k with
  | zero => intro v1 M; exact jO.none
  | succ k ih =>
    intro v1 M
    rw [f_X12_mondayComes_L2]
    refine jo_iload 1 d_X12_mondayComes_2 rfl rfl ?_
    refine jo_aload 0 d_X12_mondayComes_3 rfl rfl ?_
    refine jo_getR (k := 0) cl_12 (Nat.le_of_ble_eq_true rfl) lk_X12_7 rfl kc_167 kr_167_0 d_X12_mondayComes_4 ?_
    refine jo_iconst 2 d_X12_mondayComes_7 ?_
    refine jo_iald (N := 3160) kc_168 d_X12_mondayComes_8 ?_
    refine jo_icmp_ge 23 d_X12_mondayComes_9 (by decide) ?_ ?_
    · skip
      exact jO.sub (t_X12_mondayComes_L23 hs n M) (And.intro rfl True.intro)
    · skip
      refine jo_aload 0 d_X12_mondayComes_12 rfl rfl ?_
      refine jo_iload 1 d_X12_mondayComes_13 rfl rfl ?_
      refine jo_callV (st := []) (m_X12_getsOff hs n v1 M) ok_X12_getsOff (And.intro (Nat.le_of_ble_eq_true rfl) (Nat.le_of_ble_eq_true rfl)) lm_X12_318 in_X12_getsOff se_X12_getsOff rfl kc_167 rfl rfl (And.intro (Nat.zero_le _) (Nat.zero_le _)) rfl (Nat.le_of_ble_eq_true rfl) d_X12_mondayComes_14 (fun _ M2 => ?_)
      refine jo_iinc 1 d_X12_mondayComes_17 rfl (Nat.le_of_ble_eq_true rfl) (fun y3 => ?_)
      refine jo_goto 2 d_X12_mondayComes_20 (by decide) ?_
      exact jO.sub (ih y3 M2) (And.intro rfl (And.intro rfl True.intro))
def f_X12_mondayComes (n : Nat) (M : JMem) : Option (Int × JMem) := letv 0 fun y1 => f_X12_mondayComes_L2 n n y1 M
set_option maxRecDepth 4000 in
theorem t_X12_mondayComes {g : JG} {ad : Nat → Nat} (hs : jStr g ad) (n : Nat) (M : JMem) : jB g D_X12_mondayComes ad 0 [some (.ref 167), none, none] [] M (f_X12_mondayComes n M) := by
  unfold f_X12_mondayComes
  refine jo_iconst 0 d_X12_mondayComes_0 ?_
  refine jo_istore 1 d_X12_mondayComes_1 rfl (Nat.le_of_ble_eq_true rfl) (fun y1 => ?_)
  exact jO.sub (t_X12_mondayComes_L2 hs n n y1 M) (And.intro rfl (And.intro rfl True.intro))
theorem m_X12_mondayComes {g : JG} {ad : Nat → Nat} (hs : jStr g ad) (n : Nat) (M : JMem) : jMet g jNN ad jR D_X12_mondayComes yX12_mondayComes [.ref 167] M (f_X12_mondayComes n M) :=
  jMet.of (lo0 := [some (.ref 167), none, none]) (by decide) rfl rfl (Nat.le_of_ble_eq_true rfl) (And.intro rfl True.intro) (t_X12_mondayComes hs n M)
/-! CageLeaveModel.mondayBy()Z -/
def D_X12_mondayBy : JD := (RX12, cX12_mondayBy, 1, some .boolean, "mondayBy", { frames := 6, cells := 0, slots := 0, locals := 128 })
theorem ok_X12_mondayBy : jOk D_X12_mondayBy yX12_mondayBy 0 := ⟨jTW_mem (k := 2051) (by decide +kernel) rfl, jTW_mem (k := 151) (by decide +kernel) rfl, ⟨by decide +kernel, by decide +kernel⟩, by decide +kernel, rfl, rfl⟩
theorem in_X12_mondayBy : Cond.instanceMethod yX12_mondayBy ∈ jTW := jTW_mem (k := 2050) (by decide +kernel) rfl
theorem se_X12_mondayBy : Cond.selects yX12_mondayBy.cls yX12_mondayBy yX12_mondayBy ∈ jTW := jTW_mem (k := 126) (by decide +kernel) rfl
theorem lm_X12_341 : Cond.methodLink RX12 341 yX12_isMonday ∈ jTW := jTW_mem (k := 1810) (by decide +kernel) rfl
theorem lm_X12_344 : Cond.methodLink RX12 344 yX12_mondayComes ∈ jTW := jTW_mem (k := 1814) (by decide +kernel) rfl
theorem d_X12_mondayBy_0 : decode (D_X12_mondayBy).2.1 0 = .ok (.aload_n 0, 1) := by decide +kernel
theorem d_X12_mondayBy_1 : decode (D_X12_mondayBy).2.1 1 = .ok (.invokevirtual 341, 3) := by decide +kernel
theorem d_X12_mondayBy_4 : decode (D_X12_mondayBy).2.1 4 = .ok (.ifCond .ne 5, 3) := by decide +kernel
theorem d_X12_mondayBy_7 : decode (D_X12_mondayBy).2.1 7 = .ok (.iconst 0, 1) := by decide +kernel
theorem d_X12_mondayBy_8 : decode (D_X12_mondayBy).2.1 8 = .ok (.ireturn, 1) := by decide +kernel
theorem d_X12_mondayBy_9 : decode (D_X12_mondayBy).2.1 9 = .ok (.aload_n 0, 1) := by decide +kernel
theorem d_X12_mondayBy_10 : decode (D_X12_mondayBy).2.1 10 = .ok (.getfield 71, 3) := by decide +kernel
theorem d_X12_mondayBy_13 : decode (D_X12_mondayBy).2.1 13 = .ok (.iconst 3, 1) := by decide +kernel
theorem d_X12_mondayBy_14 : decode (D_X12_mondayBy).2.1 14 = .ok (.dup2, 1) := by decide +kernel
theorem d_X12_mondayBy_15 : decode (D_X12_mondayBy).2.1 15 = .ok (.iaload, 1) := by decide +kernel
theorem d_X12_mondayBy_16 : decode (D_X12_mondayBy).2.1 16 = .ok (.aload_n 0, 1) := by decide +kernel
theorem d_X12_mondayBy_17 : decode (D_X12_mondayBy).2.1 17 = .ok (.invokevirtual 344, 3) := by decide +kernel
theorem d_X12_mondayBy_20 : decode (D_X12_mondayBy).2.1 20 = .ok (.invokestatic 338, 3) := by decide +kernel
theorem d_X12_mondayBy_23 : decode (D_X12_mondayBy).2.1 23 = .ok (.iadd, 1) := by decide +kernel
theorem d_X12_mondayBy_24 : decode (D_X12_mondayBy).2.1 24 = .ok (.iastore, 1) := by decide +kernel
theorem d_X12_mondayBy_25 : decode (D_X12_mondayBy).2.1 25 = .ok (.iconst 1, 1) := by decide +kernel
theorem d_X12_mondayBy_26 : decode (D_X12_mondayBy).2.1 26 = .ok (.ireturn, 1) := by decide +kernel
def f_X12_mondayBy (n : Nat) (M : JMem) : Option (Int × JMem) := bnd (f_X12_isMonday n M) fun r1 M2 => if jw r1 = 0 then (some (0, M2)) else (chk (jin 3 5) <| bnd (f_X12_mondayComes n M2) fun r3 M4 => bnd (f_X12_bits n r3 M4) fun r5 M6 => chk (jin 3 5) <| letm (jup M6 184 (jw 3).toNat ((M2 184 (jw 3).toNat) + r5)) fun M7 => some (1, M7))
set_option maxRecDepth 4000 in
theorem t_X12_mondayBy {g : JG} {ad : Nat → Nat} (hs : jStr g ad) (n : Nat) (M : JMem) : jB g D_X12_mondayBy ad 0 [some (.ref 167)] [] M (f_X12_mondayBy n M) := by
  unfold f_X12_mondayBy
  refine jo_aload 0 d_X12_mondayBy_0 rfl rfl ?_
  refine jo_callV (st := []) (m_X12_isMonday hs n M) ok_X12_isMonday (And.intro (Nat.le_of_ble_eq_true rfl) (Nat.le_of_ble_eq_true rfl)) lm_X12_341 in_X12_isMonday se_X12_isMonday rfl kc_167 rfl rfl (And.intro (Nat.zero_le _) (Nat.zero_le _)) rfl (Nat.le_of_ble_eq_true rfl) d_X12_mondayBy_1 (fun r1 M2 => ?_)
  refine jo_if_ne 9 d_X12_mondayBy_4 (by decide) ?_ ?_
  · skip
    refine jo_aload 0 d_X12_mondayBy_9 rfl rfl ?_
    refine jo_getR (k := 35) cl_12 (Nat.le_of_ble_eq_true rfl) lk_X12_71 rfl kc_167 kr_167_35 d_X12_mondayBy_10 ?_
    refine jo_iconst 3 d_X12_mondayBy_13 ?_
    refine jo_dup2 d_X12_mondayBy_14 rfl rfl ?_
    refine jo_iald (N := 5) kc_184 d_X12_mondayBy_15 ?_
    refine jo_aload 0 d_X12_mondayBy_16 rfl rfl ?_
    refine jo_callV (st := [ji (M2 184 (jw 3).toNat), ji 3, .ref 184]) (m_X12_mondayComes hs n M2) ok_X12_mondayComes (And.intro (Nat.le_of_ble_eq_true rfl) (Nat.le_of_ble_eq_true rfl)) lm_X12_344 in_X12_mondayComes se_X12_mondayComes rfl kc_167 rfl rfl (And.intro (Nat.zero_le _) (Nat.zero_le _)) rfl (Nat.le_of_ble_eq_true rfl) d_X12_mondayBy_17 (fun r3 M4 => ?_)
    refine jo_callS (st := [ji (M2 184 (jw 3).toNat), ji 3, .ref 184]) (m_X12_bits hs n r3 M4) ok_X12_bits (And.intro (Nat.le_of_ble_eq_true rfl) (Nat.le_of_ble_eq_true rfl)) lm_X12_338 st_X12_bits rfl (And.intro (Nat.zero_le _) (Nat.zero_le _)) rfl (Nat.le_of_ble_eq_true rfl) d_X12_mondayBy_20 (fun r5 M6 => ?_)
    refine jo_iadd d_X12_mondayBy_23 ?_
    refine jo_iast (N := 5) kc_184 d_X12_mondayBy_24 (fun M7 => ?_)
    refine jo_iconst 1 d_X12_mondayBy_25 ?_
    exact jo_zret rfl (by decide) d_X12_mondayBy_26
  · skip
    refine jo_iconst 0 d_X12_mondayBy_7 ?_
    exact jo_zret rfl (by decide) d_X12_mondayBy_8
theorem m_X12_mondayBy {g : JG} {ad : Nat → Nat} (hs : jStr g ad) (n : Nat) (M : JMem) : jMet g jNN ad jR D_X12_mondayBy yX12_mondayBy [.ref 167] M (f_X12_mondayBy n M) :=
  jMet.of (lo0 := [some (.ref 167)]) (by decide) rfl rfl (Nat.le_of_ble_eq_true rfl) (And.intro rfl True.intro) (t_X12_mondayBy hs n M)
/-! CageLeaveModel.turnsBy(III)Z -/
def D_X12_turnsBy : JD := (RX12, cX12_turnsBy, 4, some .boolean, "turnsBy", { frames := 3, cells := 0, slots := 0, locals := 63 })
theorem ok_X12_turnsBy : jOk D_X12_turnsBy yX12_turnsBy 3 := ⟨jTW_mem (k := 2055) (by decide +kernel) rfl, jTW_mem (k := 151) (by decide +kernel) rfl, ⟨by decide +kernel, by decide +kernel⟩, by decide +kernel, rfl, rfl⟩
theorem in_X12_turnsBy : Cond.instanceMethod yX12_turnsBy ∈ jTW := jTW_mem (k := 2054) (by decide +kernel) rfl
theorem se_X12_turnsBy : Cond.selects yX12_turnsBy.cls yX12_turnsBy yX12_turnsBy ∈ jTW := jTW_mem (k := 127) (by decide +kernel) rfl
theorem d_X12_turnsBy_0 : decode (D_X12_turnsBy).2.1 0 = .ok (.aload_n 0, 1) := by decide +kernel
theorem d_X12_turnsBy_1 : decode (D_X12_turnsBy).2.1 1 = .ok (.iload_n 1, 1) := by decide +kernel
theorem d_X12_turnsBy_2 : decode (D_X12_turnsBy).2.1 2 = .ok (.invokevirtual 279, 3) := by decide +kernel
theorem d_X12_turnsBy_5 : decode (D_X12_turnsBy).2.1 5 = .ok (.ifCond .eq 5, 3) := by decide +kernel
theorem d_X12_turnsBy_8 : decode (D_X12_turnsBy).2.1 8 = .ok (.iconst 0, 1) := by decide +kernel
theorem d_X12_turnsBy_9 : decode (D_X12_turnsBy).2.1 9 = .ok (.ireturn, 1) := by decide +kernel
theorem d_X12_turnsBy_10 : decode (D_X12_turnsBy).2.1 10 = .ok (.aload_n 0, 1) := by decide +kernel
theorem d_X12_turnsBy_11 : decode (D_X12_turnsBy).2.1 11 = .ok (.getfield 7, 3) := by decide +kernel
theorem d_X12_turnsBy_14 : decode (D_X12_turnsBy).2.1 14 = .ok (.iload_n 1, 1) := by decide +kernel
theorem d_X12_turnsBy_15 : decode (D_X12_turnsBy).2.1 15 = .ok (.invokestatic 270, 3) := by decide +kernel
theorem d_X12_turnsBy_18 : decode (D_X12_turnsBy).2.1 18 = .ok (.iload_n 2, 1) := by decide +kernel
theorem d_X12_turnsBy_19 : decode (D_X12_turnsBy).2.1 19 = .ok (.iadd, 1) := by decide +kernel
theorem d_X12_turnsBy_20 : decode (D_X12_turnsBy).2.1 20 = .ok (.dup2, 1) := by decide +kernel
theorem d_X12_turnsBy_21 : decode (D_X12_turnsBy).2.1 21 = .ok (.iaload, 1) := by decide +kernel
theorem d_X12_turnsBy_22 : decode (D_X12_turnsBy).2.1 22 = .ok (.iload_n 3, 1) := by decide +kernel
theorem d_X12_turnsBy_23 : decode (D_X12_turnsBy).2.1 23 = .ok (.ixor, 1) := by decide +kernel
theorem d_X12_turnsBy_24 : decode (D_X12_turnsBy).2.1 24 = .ok (.iastore, 1) := by decide +kernel
theorem d_X12_turnsBy_25 : decode (D_X12_turnsBy).2.1 25 = .ok (.iconst 1, 1) := by decide +kernel
theorem d_X12_turnsBy_26 : decode (D_X12_turnsBy).2.1 26 = .ok (.ireturn, 1) := by decide +kernel
def f_X12_turnsBy (n : Nat) (x1 : Int) (x2 : Int) (x3 : Int) (M : JMem) : Option (Int × JMem) := bnd (f_X12_isEaten n x1 M) fun r1 M2 => if jw r1 = 0 then (bnd (f_X12_beastRow n x1 M2) fun r3 M4 => chk (jin (r3 + x2) 3160) <| chk (jin (r3 + x2) 3160) <| letm (jup M4 168 (jw (r3 + x2)).toNat (jxor (M4 168 (jw (r3 + x2)).toNat) x3)) fun M5 => some (1, M5)) else (some (0, M2))
set_option maxRecDepth 4000 in
theorem t_X12_turnsBy {g : JG} {ad : Nat → Nat} (hs : jStr g ad) (n : Nat) (x1 : Int) (x2 : Int) (x3 : Int) (M : JMem) : jB g D_X12_turnsBy ad 0 [some (.ref 167), some (ji x1), some (ji x2), some (ji x3)] [] M (f_X12_turnsBy n x1 x2 x3 M) := by
  unfold f_X12_turnsBy
  refine jo_aload 0 d_X12_turnsBy_0 rfl rfl ?_
  refine jo_iload 1 d_X12_turnsBy_1 rfl rfl ?_
  refine jo_callV (st := []) (m_X12_isEaten hs n x1 M) ok_X12_isEaten (And.intro (Nat.le_of_ble_eq_true rfl) (Nat.le_of_ble_eq_true rfl)) lm_X12_279 in_X12_isEaten se_X12_isEaten rfl kc_167 rfl rfl (And.intro (Nat.zero_le _) (Nat.zero_le _)) rfl (Nat.le_of_ble_eq_true rfl) d_X12_turnsBy_2 (fun r1 M2 => ?_)
  refine jo_if_eq 10 d_X12_turnsBy_5 (by decide) ?_ ?_
  · skip
    refine jo_aload 0 d_X12_turnsBy_10 rfl rfl ?_
    refine jo_getR (k := 0) cl_12 (Nat.le_of_ble_eq_true rfl) lk_X12_7 rfl kc_167 kr_167_0 d_X12_turnsBy_11 ?_
    refine jo_iload 1 d_X12_turnsBy_14 rfl rfl ?_
    refine jo_callS (st := [.ref 168]) (m_X12_beastRow hs n x1 M2) ok_X12_beastRow (And.intro (Nat.le_of_ble_eq_true rfl) (Nat.le_of_ble_eq_true rfl)) lm_X12_270 st_X12_beastRow rfl (And.intro (Nat.zero_le _) (Nat.zero_le _)) rfl (Nat.le_of_ble_eq_true rfl) d_X12_turnsBy_15 (fun r3 M4 => ?_)
    refine jo_iload 2 d_X12_turnsBy_18 rfl rfl ?_
    refine jo_iadd d_X12_turnsBy_19 ?_
    refine jo_dup2 d_X12_turnsBy_20 rfl rfl ?_
    refine jo_iald (N := 3160) kc_168 d_X12_turnsBy_21 ?_
    refine jo_iload 3 d_X12_turnsBy_22 rfl rfl ?_
    refine jo_ixor d_X12_turnsBy_23 ?_
    refine jo_iast (N := 3160) kc_168 d_X12_turnsBy_24 (fun M5 => ?_)
    refine jo_iconst 1 d_X12_turnsBy_25 ?_
    exact jo_zret rfl (by decide) d_X12_turnsBy_26
  · skip
    refine jo_iconst 0 d_X12_turnsBy_8 ?_
    exact jo_zret rfl (by decide) d_X12_turnsBy_9
theorem m_X12_turnsBy {g : JG} {ad : Nat → Nat} (hs : jStr g ad) (n : Nat) (x1 : Int) (x2 : Int) (x3 : Int) (M : JMem) : jMet g jNN ad jR D_X12_turnsBy yX12_turnsBy [.ref 167, ji x1, ji x2, ji x3] M (f_X12_turnsBy n x1 x2 x3 M) :=
  jMet.of (lo0 := [some (.ref 167), some (ji x1), some (ji x2), some (ji x3)]) (by decide) rfl rfl (Nat.le_of_ble_eq_true rfl) (And.intro rfl (And.intro rfl (And.intro rfl (And.intro rfl True.intro)))) (t_X12_turnsBy hs n x1 x2 x3 M)
/-! CageLeaveModel.haltsBy(I)Z -/
def D_X12_haltsBy : JD := (RX12, cX12_haltsBy, 2, some .boolean, "haltsBy", { frames := 1, cells := 0, slots := 0, locals := 20 })
theorem ok_X12_haltsBy : jOk D_X12_haltsBy yX12_haltsBy 1 := ⟨jTW_mem (k := 2059) (by decide +kernel) rfl, jTW_mem (k := 151) (by decide +kernel) rfl, ⟨by decide +kernel, by decide +kernel⟩, by decide +kernel, rfl, rfl⟩
theorem in_X12_haltsBy : Cond.instanceMethod yX12_haltsBy ∈ jTW := jTW_mem (k := 2058) (by decide +kernel) rfl
theorem se_X12_haltsBy : Cond.selects yX12_haltsBy.cls yX12_haltsBy yX12_haltsBy ∈ jTW := jTW_mem (k := 128) (by decide +kernel) rfl
theorem d_X12_haltsBy_0 : decode (D_X12_haltsBy).2.1 0 = .ok (.aload_n 0, 1) := by decide +kernel
theorem d_X12_haltsBy_1 : decode (D_X12_haltsBy).2.1 1 = .ok (.getfield 7, 3) := by decide +kernel
theorem d_X12_haltsBy_4 : decode (D_X12_haltsBy).2.1 4 = .ok (.iload_n 1, 1) := by decide +kernel
theorem d_X12_haltsBy_5 : decode (D_X12_haltsBy).2.1 5 = .ok (.invokestatic 273, 3) := by decide +kernel
theorem d_X12_haltsBy_8 : decode (D_X12_haltsBy).2.1 8 = .ok (.iconst 5, 1) := by decide +kernel
theorem d_X12_haltsBy_9 : decode (D_X12_haltsBy).2.1 9 = .ok (.iadd, 1) := by decide +kernel
theorem d_X12_haltsBy_10 : decode (D_X12_haltsBy).2.1 10 = .ok (.dup2, 1) := by decide +kernel
theorem d_X12_haltsBy_11 : decode (D_X12_haltsBy).2.1 11 = .ok (.iaload, 1) := by decide +kernel
theorem d_X12_haltsBy_12 : decode (D_X12_haltsBy).2.1 12 = .ok (.iconst 1, 1) := by decide +kernel
theorem d_X12_haltsBy_13 : decode (D_X12_haltsBy).2.1 13 = .ok (.ixor, 1) := by decide +kernel
theorem d_X12_haltsBy_14 : decode (D_X12_haltsBy).2.1 14 = .ok (.iastore, 1) := by decide +kernel
theorem d_X12_haltsBy_15 : decode (D_X12_haltsBy).2.1 15 = .ok (.iconst 1, 1) := by decide +kernel
theorem d_X12_haltsBy_16 : decode (D_X12_haltsBy).2.1 16 = .ok (.ireturn, 1) := by decide +kernel
def f_X12_haltsBy (n : Nat) (x1 : Int) (M : JMem) : Option (Int × JMem) := bnd (f_X12_trainRow n x1 M) fun r1 M2 => chk (jin (r1 + 5) 3160) <| chk (jin (r1 + 5) 3160) <| letm (jup M2 168 (jw (r1 + 5)).toNat (jxor (M2 168 (jw (r1 + 5)).toNat) 1)) fun M3 => some (1, M3)
set_option maxRecDepth 4000 in
theorem t_X12_haltsBy {g : JG} {ad : Nat → Nat} (hs : jStr g ad) (n : Nat) (x1 : Int) (M : JMem) : jB g D_X12_haltsBy ad 0 [some (.ref 167), some (ji x1)] [] M (f_X12_haltsBy n x1 M) := by
  unfold f_X12_haltsBy
  refine jo_aload 0 d_X12_haltsBy_0 rfl rfl ?_
  refine jo_getR (k := 0) cl_12 (Nat.le_of_ble_eq_true rfl) lk_X12_7 rfl kc_167 kr_167_0 d_X12_haltsBy_1 ?_
  refine jo_iload 1 d_X12_haltsBy_4 rfl rfl ?_
  refine jo_callS (st := [.ref 168]) (m_X12_trainRow hs n x1 M) ok_X12_trainRow (And.intro (Nat.le_of_ble_eq_true rfl) (Nat.le_of_ble_eq_true rfl)) lm_X12_273 st_X12_trainRow rfl (And.intro (Nat.zero_le _) (Nat.zero_le _)) rfl (Nat.le_of_ble_eq_true rfl) d_X12_haltsBy_5 (fun r1 M2 => ?_)
  refine jo_iconst 5 d_X12_haltsBy_8 ?_
  refine jo_iadd d_X12_haltsBy_9 ?_
  refine jo_dup2 d_X12_haltsBy_10 rfl rfl ?_
  refine jo_iald (N := 3160) kc_168 d_X12_haltsBy_11 ?_
  refine jo_iconst 1 d_X12_haltsBy_12 ?_
  refine jo_ixor d_X12_haltsBy_13 ?_
  refine jo_iast (N := 3160) kc_168 d_X12_haltsBy_14 (fun M3 => ?_)
  refine jo_iconst 1 d_X12_haltsBy_15 ?_
  exact jo_zret rfl (by decide) d_X12_haltsBy_16
theorem m_X12_haltsBy {g : JG} {ad : Nat → Nat} (hs : jStr g ad) (n : Nat) (x1 : Int) (M : JMem) : jMet g jNN ad jR D_X12_haltsBy yX12_haltsBy [.ref 167, ji x1] M (f_X12_haltsBy n x1 M) :=
  jMet.of (lo0 := [some (.ref 167), some (ji x1)]) (by decide) rfl rfl (Nat.le_of_ble_eq_true rfl) (And.intro rfl (And.intro rfl True.intro)) (t_X12_haltsBy hs n x1 M)
/-! CageLeaveModel.draw(I)I -/
def D_X12_draw : JD := (RX12, cX12_draw, 2, some .int, "draw", { frames := 0, cells := 0, slots := 0, locals := 0 })
theorem ok_X12_draw : jOk D_X12_draw yX12_draw 1 := ⟨jTW_mem (k := 2067) (by decide +kernel) rfl, jTW_mem (k := 151) (by decide +kernel) rfl, ⟨by decide +kernel, by decide +kernel⟩, by decide +kernel, rfl, rfl⟩
theorem in_X12_draw : Cond.instanceMethod yX12_draw ∈ jTW := jTW_mem (k := 2066) (by decide +kernel) rfl
theorem se_X12_draw : Cond.selects yX12_draw.cls yX12_draw yX12_draw ∈ jTW := jTW_mem (k := 130) (by decide +kernel) rfl
theorem lk_X12_419 : Cond.fieldLink RX12 419 (TX12 32).1 (TX12 32).2.1 (TX12 32).2.2.1 ∈ jTW := jTW_mem (k := 1408) (by decide +kernel) rfl
theorem lc_X12_422 : Cond.constant RX12 422 (Int32.ofInt 65536) ∈ jTW := jTW_mem (k := 2068) (by decide +kernel) rfl
theorem d_X12_draw_0 : decode (D_X12_draw).2.1 0 = .ok (.aload_n 0, 1) := by decide +kernel
theorem d_X12_draw_1 : decode (D_X12_draw).2.1 1 = .ok (.aload_n 0, 1) := by decide +kernel
theorem d_X12_draw_2 : decode (D_X12_draw).2.1 2 = .ok (.getfield 419, 3) := by decide +kernel
theorem d_X12_draw_5 : decode (D_X12_draw).2.1 5 = .ok (.sipush 3089, 3) := by decide +kernel
theorem d_X12_draw_8 : decode (D_X12_draw).2.1 8 = .ok (.imul, 1) := by decide +kernel
theorem d_X12_draw_9 : decode (D_X12_draw).2.1 9 = .ok (.sipush 11317, 3) := by decide +kernel
theorem d_X12_draw_12 : decode (D_X12_draw).2.1 12 = .ok (.iadd, 1) := by decide +kernel
theorem d_X12_draw_13 : decode (D_X12_draw).2.1 13 = .ok (.ldc_w 422, 3) := by decide +kernel
theorem d_X12_draw_16 : decode (D_X12_draw).2.1 16 = .ok (.irem, 1) := by decide +kernel
theorem d_X12_draw_17 : decode (D_X12_draw).2.1 17 = .ok (.putfield 419, 3) := by decide +kernel
theorem d_X12_draw_20 : decode (D_X12_draw).2.1 20 = .ok (.aload_n 0, 1) := by decide +kernel
theorem d_X12_draw_21 : decode (D_X12_draw).2.1 21 = .ok (.getfield 419, 3) := by decide +kernel
theorem d_X12_draw_24 : decode (D_X12_draw).2.1 24 = .ok (.bipush 8, 2) := by decide +kernel
theorem d_X12_draw_26 : decode (D_X12_draw).2.1 26 = .ok (.idiv, 1) := by decide +kernel
theorem d_X12_draw_27 : decode (D_X12_draw).2.1 27 = .ok (.iload_n 1, 1) := by decide +kernel
theorem d_X12_draw_28 : decode (D_X12_draw).2.1 28 = .ok (.irem, 1) := by decide +kernel
theorem d_X12_draw_29 : decode (D_X12_draw).2.1 29 = .ok (.ireturn, 1) := by decide +kernel
def f_X12_draw (n : Nat) (x1 : Int) (M : JMem) : Option (Int × JMem) := letm (jup M 167 32 (jrem (((M 167 32) * 3089) + 11317) 65536)) fun M1 => chk (¬ jw x1 = 0) <| some ((jrem (jdiv (M1 167 32) 8) x1), M1)
set_option maxRecDepth 4000 in
theorem t_X12_draw {g : JG} {ad : Nat → Nat} (hs : jStr g ad) (n : Nat) (x1 : Int) (M : JMem) : jB g D_X12_draw ad 0 [some (.ref 167), some (ji x1)] [] M (f_X12_draw n x1 M) := by
  unfold f_X12_draw
  refine jo_aload 0 d_X12_draw_0 rfl rfl ?_
  refine jo_aload 0 d_X12_draw_1 rfl rfl ?_
  refine jo_getI (k := 32) cl_12 (Nat.le_of_ble_eq_true rfl) lk_X12_419 (Or.inl rfl) kc_167 d_X12_draw_2 ?_
  refine jo_sipush 3089 d_X12_draw_5 (by decide) ?_
  refine jo_imul d_X12_draw_8 ?_
  refine jo_sipush 11317 d_X12_draw_9 (by decide) ?_
  refine jo_iadd d_X12_draw_12 ?_
  refine jo_ldcw 65536 lc_X12_422 d_X12_draw_13 ?_
  refine jo_irem d_X12_draw_16 (by decide) ?_
  refine jo_putI (k := 32) cl_12 (Nat.le_of_ble_eq_true rfl) lk_X12_419 rfl rfl kc_167 d_X12_draw_17 (fun M1 => ?_)
  refine jo_aload 0 d_X12_draw_20 rfl rfl ?_
  refine jo_getI (k := 32) cl_12 (Nat.le_of_ble_eq_true rfl) lk_X12_419 (Or.inl rfl) kc_167 d_X12_draw_21 ?_
  refine jo_bipush 8 d_X12_draw_24 (by decide) ?_
  refine jo_idiv d_X12_draw_26 (by decide) ?_
  refine jo_iload 1 d_X12_draw_27 rfl rfl ?_
  refine jo_iremq d_X12_draw_28 ?_
  exact jo_iret rfl d_X12_draw_29
theorem m_X12_draw {g : JG} {ad : Nat → Nat} (hs : jStr g ad) (n : Nat) (x1 : Int) (M : JMem) : jMet g jNN ad jR D_X12_draw yX12_draw [.ref 167, ji x1] M (f_X12_draw n x1 M) :=
  jMet.of (lo0 := [some (.ref 167), some (ji x1)]) (by decide) rfl rfl (Nat.le_of_ble_eq_true rfl) (And.intro rfl (And.intro rfl True.intro)) (t_X12_draw hs n x1 M)
/-! CageLeaveModel.snowsAny()Z -/
def D_X12_snowsAny : JD := (RX12, cX12_snowsAny, 2, some .boolean, "snowsAny", { frames := 1, cells := 0, slots := 0, locals := 21 })
theorem ok_X12_snowsAny : jOk D_X12_snowsAny yX12_snowsAny 0 := ⟨jTW_mem (k := 2063) (by decide +kernel) rfl, jTW_mem (k := 151) (by decide +kernel) rfl, ⟨by decide +kernel, by decide +kernel⟩, by decide +kernel, rfl, rfl⟩
theorem in_X12_snowsAny : Cond.instanceMethod yX12_snowsAny ∈ jTW := jTW_mem (k := 2062) (by decide +kernel) rfl
theorem se_X12_snowsAny : Cond.selects yX12_snowsAny.cls yX12_snowsAny yX12_snowsAny ∈ jTW := jTW_mem (k := 129) (by decide +kernel) rfl
theorem lm_X12_423 : Cond.methodLink RX12 423 yX12_draw ∈ jTW := jTW_mem (k := 2064) (by decide +kernel) rfl
theorem d_X12_snowsAny_0 : decode (D_X12_snowsAny).2.1 0 = .ok (.iconst 0, 1) := by decide +kernel
theorem d_X12_snowsAny_1 : decode (D_X12_snowsAny).2.1 1 = .ok (.istore_n 1, 1) := by decide +kernel
theorem d_X12_snowsAny_2 : decode (D_X12_snowsAny).2.1 2 = .ok (.iload_n 1, 1) := by decide +kernel
theorem d_X12_snowsAny_3 : decode (D_X12_snowsAny).2.1 3 = .ok (.aload_n 0, 1) := by decide +kernel
theorem d_X12_snowsAny_4 : decode (D_X12_snowsAny).2.1 4 = .ok (.getfield 7, 3) := by decide +kernel
theorem d_X12_snowsAny_7 : decode (D_X12_snowsAny).2.1 7 = .ok (.iconst 1, 1) := by decide +kernel
theorem d_X12_snowsAny_8 : decode (D_X12_snowsAny).2.1 8 = .ok (.iaload, 1) := by decide +kernel
theorem d_X12_snowsAny_9 : decode (D_X12_snowsAny).2.1 9 = .ok (.if_icmp .ge 40, 3) := by decide +kernel
theorem d_X12_snowsAny_12 : decode (D_X12_snowsAny).2.1 12 = .ok (.aload_n 0, 1) := by decide +kernel
theorem d_X12_snowsAny_13 : decode (D_X12_snowsAny).2.1 13 = .ok (.getfield 7, 3) := by decide +kernel
theorem d_X12_snowsAny_16 : decode (D_X12_snowsAny).2.1 16 = .ok (.iload_n 1, 1) := by decide +kernel
theorem d_X12_snowsAny_17 : decode (D_X12_snowsAny).2.1 17 = .ok (.invokestatic 273, 3) := by decide +kernel
theorem d_X12_snowsAny_20 : decode (D_X12_snowsAny).2.1 20 = .ok (.iconst 5, 1) := by decide +kernel
theorem d_X12_snowsAny_21 : decode (D_X12_snowsAny).2.1 21 = .ok (.iadd, 1) := by decide +kernel
theorem d_X12_snowsAny_22 : decode (D_X12_snowsAny).2.1 22 = .ok (.aload_n 0, 1) := by decide +kernel
theorem d_X12_snowsAny_23 : decode (D_X12_snowsAny).2.1 23 = .ok (.bipush 16, 2) := by decide +kernel
theorem d_X12_snowsAny_25 : decode (D_X12_snowsAny).2.1 25 = .ok (.invokevirtual 423, 3) := by decide +kernel
theorem d_X12_snowsAny_28 : decode (D_X12_snowsAny).2.1 28 = .ok (.aload_n 0, 1) := by decide +kernel
theorem d_X12_snowsAny_29 : decode (D_X12_snowsAny).2.1 29 = .ok (.getfield 7, 3) := by decide +kernel
theorem d_X12_snowsAny_32 : decode (D_X12_snowsAny).2.1 32 = .ok (.iconst 3, 1) := by decide +kernel
theorem d_X12_snowsAny_33 : decode (D_X12_snowsAny).2.1 33 = .ok (.iaload, 1) := by decide +kernel
theorem d_X12_snowsAny_34 : decode (D_X12_snowsAny).2.1 34 = .ok (.if_icmp .ge 7, 3) := by decide +kernel
theorem d_X12_snowsAny_37 : decode (D_X12_snowsAny).2.1 37 = .ok (.iconst 1, 1) := by decide +kernel
theorem d_X12_snowsAny_38 : decode (D_X12_snowsAny).2.1 38 = .ok (.goto 4, 3) := by decide +kernel
theorem d_X12_snowsAny_41 : decode (D_X12_snowsAny).2.1 41 = .ok (.iconst 0, 1) := by decide +kernel
theorem d_X12_snowsAny_42 : decode (D_X12_snowsAny).2.1 42 = .ok (.iastore, 1) := by decide +kernel
theorem d_X12_snowsAny_43 : decode (D_X12_snowsAny).2.1 43 = .ok (.iinc 1 1, 3) := by decide +kernel
theorem d_X12_snowsAny_46 : decode (D_X12_snowsAny).2.1 46 = .ok (.goto (-44), 3) := by decide +kernel
theorem d_X12_snowsAny_49 : decode (D_X12_snowsAny).2.1 49 = .ok (.aload_n 0, 1) := by decide +kernel
theorem d_X12_snowsAny_50 : decode (D_X12_snowsAny).2.1 50 = .ok (.getfield 7, 3) := by decide +kernel
theorem d_X12_snowsAny_53 : decode (D_X12_snowsAny).2.1 53 = .ok (.iconst 1, 1) := by decide +kernel
theorem d_X12_snowsAny_54 : decode (D_X12_snowsAny).2.1 54 = .ok (.iaload, 1) := by decide +kernel
theorem d_X12_snowsAny_55 : decode (D_X12_snowsAny).2.1 55 = .ok (.ifCond .le 7, 3) := by decide +kernel
theorem d_X12_snowsAny_58 : decode (D_X12_snowsAny).2.1 58 = .ok (.iconst 1, 1) := by decide +kernel
theorem d_X12_snowsAny_59 : decode (D_X12_snowsAny).2.1 59 = .ok (.goto 4, 3) := by decide +kernel
theorem d_X12_snowsAny_62 : decode (D_X12_snowsAny).2.1 62 = .ok (.iconst 0, 1) := by decide +kernel
theorem d_X12_snowsAny_63 : decode (D_X12_snowsAny).2.1 63 = .ok (.ireturn, 1) := by decide +kernel
def f_X12_snowsAny_L42 (n : Nat) (r2 : Int → JMem → Option (Int × JMem)) (v1 w1 w2 : Int) (M : JMem) : Option (Int × JMem) := chk (jin w1 3160) <| letm (jup M 168 (jw w1).toNat w2) fun M1 => letv (v1 + 1) fun y2 => r2 y2 M1
set_option maxRecDepth 4000 in
theorem t_X12_snowsAny_L42 {g : JG} {ad : Nat → Nat} (hs : jStr g ad) (n : Nat) (r2 : Int → JMem → Option (Int × JMem)) (hr2 : ∀ (v1 : Int) (M : JMem), jB g D_X12_snowsAny ad 2 [some (.ref 167), some (ji v1)] [] M (r2 v1 M)) (v1 w1 w2 : Int) (M : JMem) : jB g D_X12_snowsAny ad 42 [some (.ref 167), some (ji v1)] [ji w2, ji w1, .ref 168] M (f_X12_snowsAny_L42 n r2 v1 w1 w2 M) := by
  unfold f_X12_snowsAny_L42
  refine jo_iast (N := 3160) kc_168 d_X12_snowsAny_42 (fun M1 => ?_)
  refine jo_iinc 1 d_X12_snowsAny_43 rfl (Nat.le_of_ble_eq_true rfl) (fun y2 => ?_)
  refine jo_goto 2 d_X12_snowsAny_46 (by decide) ?_
  exact jO.sub (hr2 y2 M1) (And.intro rfl (And.intro rfl True.intro))
def f_X12_snowsAny_L49 (n : Nat) (M : JMem) : Option (Int × JMem) := chk (jin 1 3160) <| if jw (M 168 (jw 1).toNat) ≤ 0 then (some (0, M)) else (some (1, M))
set_option maxRecDepth 4000 in
theorem t_X12_snowsAny_L49 {g : JG} {ad : Nat → Nat} (hs : jStr g ad) (n : Nat) (M : JMem) : jB g D_X12_snowsAny ad 49 [some (.ref 167), none] [] M (f_X12_snowsAny_L49 n M) := by
  unfold f_X12_snowsAny_L49
  refine jo_aload 0 d_X12_snowsAny_49 rfl rfl ?_
  refine jo_getR (k := 0) cl_12 (Nat.le_of_ble_eq_true rfl) lk_X12_7 rfl kc_167 kr_167_0 d_X12_snowsAny_50 ?_
  refine jo_iconst 1 d_X12_snowsAny_53 ?_
  refine jo_iald (N := 3160) kc_168 d_X12_snowsAny_54 ?_
  refine jo_if_le 62 d_X12_snowsAny_55 (by decide) ?_ ?_
  · skip
    refine jo_iconst 0 d_X12_snowsAny_62 ?_
    exact jo_zret rfl (by decide) d_X12_snowsAny_63
  · skip
    refine jo_iconst 1 d_X12_snowsAny_58 ?_
    refine jo_goto 63 d_X12_snowsAny_59 (by decide) ?_
    exact jo_zret rfl (by decide) d_X12_snowsAny_63
def f_X12_snowsAny_L2 (n : Nat) : Nat → Int → JMem → Option (Int × JMem)
  | 0, _, _ => none
  | k + 1, v1, M => chk (jin 1 3160) <| if jw (M 168 (jw 1).toNat) ≤ jw v1 then (f_X12_snowsAny_L49 n M) else (bnd (f_X12_trainRow n v1 M) fun r1 M2 => bnd (f_X12_draw n 16 M2) fun r3 M4 => chk (jin 3 3160) <| if jw (M4 168 (jw 3).toNat) ≤ jw r3 then (f_X12_snowsAny_L42 n (f_X12_snowsAny_L2 n k) v1 (r1 + 5) 0 M4) else (f_X12_snowsAny_L42 n (f_X12_snowsAny_L2 n k) v1 (r1 + 5) 1 M4))
set_option maxRecDepth 4000 in
theorem t_X12_snowsAny_L2 {g : JG} {ad : Nat → Nat} (hs : jStr g ad) (n : Nat) : ∀ (k : Nat) (v1 : Int) (M : JMem), jB g D_X12_snowsAny ad 2 [some (.ref 167), some (ji v1)] [] M (f_X12_snowsAny_L2 n k v1 M) := by
  intro k
  induction k with
  | zero => intro v1 M; exact jO.none
  | succ k ih =>
    intro v1 M
    rw [f_X12_snowsAny_L2]
    refine jo_iload 1 d_X12_snowsAny_2 rfl rfl ?_
    refine jo_aload 0 d_X12_snowsAny_3 rfl rfl ?_
    refine jo_getR (k := 0) cl_12 (Nat.le_of_ble_eq_true rfl) lk_X12_7 rfl kc_167 kr_167_0 d_X12_snowsAny_4 ?_
    refine jo_iconst 1 d_X12_snowsAny_7 ?_
    refine jo_iald (N := 3160) kc_168 d_X12_snowsAny_8 ?_
    refine jo_icmp_ge 49 d_X12_snowsAny_9 (by decide) ?_ ?_
    · skip
      exact jO.sub (t_X12_snowsAny_L49 hs n M) (And.intro rfl True.intro)
    · skip
      refine jo_aload 0 d_X12_snowsAny_12 rfl rfl ?_
      refine jo_getR (k := 0) cl_12 (Nat.le_of_ble_eq_true rfl) lk_X12_7 rfl kc_167 kr_167_0 d_X12_snowsAny_13 ?_
      refine jo_iload 1 d_X12_snowsAny_16 rfl rfl ?_
      refine jo_callS (st := [.ref 168]) (m_X12_trainRow hs n v1 M) ok_X12_trainRow (And.intro (Nat.le_of_ble_eq_true rfl) (Nat.le_of_ble_eq_true rfl)) lm_X12_273 st_X12_trainRow rfl (And.intro (Nat.zero_le _) (Nat.zero_le _)) rfl (Nat.le_of_ble_eq_true rfl) d_X12_snowsAny_17 (fun r1 M2 => ?_)
      refine jo_iconst 5 d_X12_snowsAny_20 ?_
      refine jo_iadd d_X12_snowsAny_21 ?_
      refine jo_aload 0 d_X12_snowsAny_22 rfl rfl ?_
      refine jo_bipush 16 d_X12_snowsAny_23 (by decide) ?_
      refine jo_callV (st := [ji (r1 + 5), .ref 168]) (m_X12_draw hs n 16 M2) ok_X12_draw (And.intro (Nat.le_of_ble_eq_true rfl) (Nat.le_of_ble_eq_true rfl)) lm_X12_423 in_X12_draw se_X12_draw rfl kc_167 rfl rfl (And.intro (Nat.zero_le _) (Nat.zero_le _)) rfl (Nat.le_of_ble_eq_true rfl) d_X12_snowsAny_25 (fun r3 M4 => ?_)
      refine jo_aload 0 d_X12_snowsAny_28 rfl rfl ?_
      refine jo_getR (k := 0) cl_12 (Nat.le_of_ble_eq_true rfl) lk_X12_7 rfl kc_167 kr_167_0 d_X12_snowsAny_29 ?_
      refine jo_iconst 3 d_X12_snowsAny_32 ?_
      refine jo_iald (N := 3160) kc_168 d_X12_snowsAny_33 ?_
      refine jo_icmp_ge 41 d_X12_snowsAny_34 (by decide) ?_ ?_
      · skip
        refine jo_iconst 0 d_X12_snowsAny_41 ?_
        exact jO.sub (t_X12_snowsAny_L42 hs n (f_X12_snowsAny_L2 n k) ih v1 (r1 + 5) 0 M4) (And.intro rfl (And.intro rfl True.intro))
      · skip
        refine jo_iconst 1 d_X12_snowsAny_37 ?_
        refine jo_goto 42 d_X12_snowsAny_38 (by decide) ?_
        exact jO.sub (t_X12_snowsAny_L42 hs n (f_X12_snowsAny_L2 n k) ih v1 (r1 + 5) 1 M4) (And.intro rfl (And.intro rfl True.intro))
def f_X12_snowsAny (n : Nat) (M : JMem) : Option (Int × JMem) := letv 0 fun y1 => f_X12_snowsAny_L2 n n y1 M
set_option maxRecDepth 4000 in
theorem t_X12_snowsAny {g : JG} {ad : Nat → Nat} (hs : jStr g ad) (n : Nat) (M : JMem) : jB g D_X12_snowsAny ad 0 [some (.ref 167), none] [] M (f_X12_snowsAny n M) := by
  unfold f_X12_snowsAny
  refine jo_iconst 0 d_X12_snowsAny_0 ?_
  refine jo_istore 1 d_X12_snowsAny_1 rfl (Nat.le_of_ble_eq_true rfl) (fun y1 => ?_)
  exact jO.sub (t_X12_snowsAny_L2 hs n n y1 M) (And.intro rfl (And.intro rfl True.intro))
theorem m_X12_snowsAny {g : JG} {ad : Nat → Nat} (hs : jStr g ad) (n : Nat) (M : JMem) : jMet g jNN ad jR D_X12_snowsAny yX12_snowsAny [.ref 167] M (f_X12_snowsAny n M) :=
  jMet.of (lo0 := [some (.ref 167), none]) (by decide) rfl rfl (Nat.le_of_ble_eq_true rfl) (And.intro rfl True.intro) (t_X12_snowsAny hs n M)
/-! CageLeaveModel.does(I)Z -/
def D_X12_does : JD := (RX12, cX12_does, 3, some .boolean, "does", { frames := 9, cells := 0, slots := 0, locals := 195 })
theorem ok_X12_does : jOk D_X12_does yX12_does 1 := ⟨jTW_mem (k := 2043) (by decide +kernel) rfl, jTW_mem (k := 151) (by decide +kernel) rfl, ⟨by decide +kernel, by decide +kernel⟩, by decide +kernel, rfl, rfl⟩
theorem in_X12_does : Cond.instanceMethod yX12_does ∈ jTW := jTW_mem (k := 2042) (by decide +kernel) rfl
theorem se_X12_does : Cond.selects yX12_does.cls yX12_does yX12_does ∈ jTW := jTW_mem (k := 124) (by decide +kernel) rfl
theorem lm_X12_426 : Cond.methodLink RX12 426 yX12_hoursBy ∈ jTW := jTW_mem (k := 2044) (by decide +kernel) rfl
theorem lm_X12_429 : Cond.methodLink RX12 429 yX12_mondayBy ∈ jTW := jTW_mem (k := 2048) (by decide +kernel) rfl
theorem lm_X12_432 : Cond.methodLink RX12 432 yX12_turnsBy ∈ jTW := jTW_mem (k := 2052) (by decide +kernel) rfl
theorem lm_X12_435 : Cond.methodLink RX12 435 yX12_haltsBy ∈ jTW := jTW_mem (k := 2056) (by decide +kernel) rfl
theorem lm_X12_438 : Cond.methodLink RX12 438 yX12_snowsAny ∈ jTW := jTW_mem (k := 2060) (by decide +kernel) rfl
theorem d_X12_does_0 : decode (D_X12_does).2.1 0 = .ok (.aload_n 0, 1) := by decide +kernel
theorem d_X12_does_1 : decode (D_X12_does).2.1 1 = .ok (.getfield 7, 3) := by decide +kernel
theorem d_X12_does_4 : decode (D_X12_does).2.1 4 = .ok (.iload_n 1, 1) := by decide +kernel
theorem d_X12_does_5 : decode (D_X12_does).2.1 5 = .ok (.iconst 1, 1) := by decide +kernel
theorem d_X12_does_6 : decode (D_X12_does).2.1 6 = .ok (.iadd, 1) := by decide +kernel
theorem d_X12_does_7 : decode (D_X12_does).2.1 7 = .ok (.iaload, 1) := by decide +kernel
theorem d_X12_does_8 : decode (D_X12_does).2.1 8 = .ok (.istore_n 2, 1) := by decide +kernel
theorem d_X12_does_9 : decode (D_X12_does).2.1 9 = .ok (.aload_n 0, 1) := by decide +kernel
theorem d_X12_does_10 : decode (D_X12_does).2.1 10 = .ok (.getfield 7, 3) := by decide +kernel
theorem d_X12_does_13 : decode (D_X12_does).2.1 13 = .ok (.iload_n 1, 1) := by decide +kernel
theorem d_X12_does_14 : decode (D_X12_does).2.1 14 = .ok (.iaload, 1) := by decide +kernel
theorem d_X12_does_15 : decode (D_X12_does).2.1 15 = .ok (.tableswitch 84 14 19 #[37, 43, 48, 65, 73, 79], 37) := by decide +kernel
theorem d_X12_does_52 : decode (D_X12_does).2.1 52 = .ok (.aload_n 0, 1) := by decide +kernel
theorem d_X12_does_53 : decode (D_X12_does).2.1 53 = .ok (.iload_n 2, 1) := by decide +kernel
theorem d_X12_does_54 : decode (D_X12_does).2.1 54 = .ok (.invokevirtual 426, 3) := by decide +kernel
theorem d_X12_does_57 : decode (D_X12_does).2.1 57 = .ok (.ireturn, 1) := by decide +kernel
theorem d_X12_does_58 : decode (D_X12_does).2.1 58 = .ok (.aload_n 0, 1) := by decide +kernel
theorem d_X12_does_59 : decode (D_X12_does).2.1 59 = .ok (.invokevirtual 429, 3) := by decide +kernel
theorem d_X12_does_62 : decode (D_X12_does).2.1 62 = .ok (.ireturn, 1) := by decide +kernel
theorem d_X12_does_63 : decode (D_X12_does).2.1 63 = .ok (.aload_n 0, 1) := by decide +kernel
theorem d_X12_does_64 : decode (D_X12_does).2.1 64 = .ok (.iload_n 2, 1) := by decide +kernel
theorem d_X12_does_65 : decode (D_X12_does).2.1 65 = .ok (.iconst 5, 1) := by decide +kernel
theorem d_X12_does_66 : decode (D_X12_does).2.1 66 = .ok (.iconst 1, 1) := by decide +kernel
theorem d_X12_does_67 : decode (D_X12_does).2.1 67 = .ok (.aload_n 0, 1) := by decide +kernel
theorem d_X12_does_68 : decode (D_X12_does).2.1 68 = .ok (.getfield 7, 3) := by decide +kernel
theorem d_X12_does_71 : decode (D_X12_does).2.1 71 = .ok (.iload_n 1, 1) := by decide +kernel
theorem d_X12_does_72 : decode (D_X12_does).2.1 72 = .ok (.iconst 2, 1) := by decide +kernel
theorem d_X12_does_73 : decode (D_X12_does).2.1 73 = .ok (.iadd, 1) := by decide +kernel
theorem d_X12_does_74 : decode (D_X12_does).2.1 74 = .ok (.iaload, 1) := by decide +kernel
theorem d_X12_does_75 : decode (D_X12_does).2.1 75 = .ok (.ishl, 1) := by decide +kernel
theorem d_X12_does_76 : decode (D_X12_does).2.1 76 = .ok (.invokevirtual 432, 3) := by decide +kernel
theorem d_X12_does_79 : decode (D_X12_does).2.1 79 = .ok (.ireturn, 1) := by decide +kernel
theorem d_X12_does_80 : decode (D_X12_does).2.1 80 = .ok (.aload_n 0, 1) := by decide +kernel
theorem d_X12_does_81 : decode (D_X12_does).2.1 81 = .ok (.iload_n 2, 1) := by decide +kernel
theorem d_X12_does_82 : decode (D_X12_does).2.1 82 = .ok (.iconst 2, 1) := by decide +kernel
theorem d_X12_does_83 : decode (D_X12_does).2.1 83 = .ok (.iconst 1, 1) := by decide +kernel
theorem d_X12_does_84 : decode (D_X12_does).2.1 84 = .ok (.invokevirtual 432, 3) := by decide +kernel
theorem d_X12_does_87 : decode (D_X12_does).2.1 87 = .ok (.ireturn, 1) := by decide +kernel
theorem d_X12_does_88 : decode (D_X12_does).2.1 88 = .ok (.aload_n 0, 1) := by decide +kernel
theorem d_X12_does_89 : decode (D_X12_does).2.1 89 = .ok (.iload_n 2, 1) := by decide +kernel
theorem d_X12_does_90 : decode (D_X12_does).2.1 90 = .ok (.invokevirtual 435, 3) := by decide +kernel
theorem d_X12_does_93 : decode (D_X12_does).2.1 93 = .ok (.ireturn, 1) := by decide +kernel
theorem d_X12_does_94 : decode (D_X12_does).2.1 94 = .ok (.aload_n 0, 1) := by decide +kernel
theorem d_X12_does_95 : decode (D_X12_does).2.1 95 = .ok (.invokevirtual 438, 3) := by decide +kernel
theorem d_X12_does_98 : decode (D_X12_does).2.1 98 = .ok (.ireturn, 1) := by decide +kernel
theorem d_X12_does_99 : decode (D_X12_does).2.1 99 = .ok (.iconst 1, 1) := by decide +kernel
theorem d_X12_does_100 : decode (D_X12_does).2.1 100 = .ok (.ireturn, 1) := by decide +kernel
def f_X12_does (n : Nat) (x1 : Int) (M : JMem) : Option (Int × JMem) := chk (jin (x1 + 1) 3160) <| letv (M 168 (jw (x1 + 1)).toNat) fun y1 => chk (jin x1 3160) <| if jw (M 168 (jw x1).toNat) = 14 then (bnd (f_X12_hoursBy n y1 M) fun r3 M4 => chk (jw r3 = 0 ∨ jw r3 = 1) (some (r3, M4))) else (if jw (M 168 (jw x1).toNat) = 15 then (bnd (f_X12_mondayBy n M) fun r5 M6 => chk (jw r5 = 0 ∨ jw r5 = 1) (some (r5, M6))) else (if jw (M 168 (jw x1).toNat) = 16 then (chk (jin (x1 + 2) 3160) <| bnd (f_X12_turnsBy n y1 5 (jshl 1 (M 168 (jw (x1 + 2)).toNat)) M) fun r7 M8 => chk (jw r7 = 0 ∨ jw r7 = 1) (some (r7, M8))) else (if jw (M 168 (jw x1).toNat) = 17 then (bnd (f_X12_turnsBy n y1 2 1 M) fun r9 M10 => chk (jw r9 = 0 ∨ jw r9 = 1) (some (r9, M10))) else (if jw (M 168 (jw x1).toNat) = 18 then (bnd (f_X12_haltsBy n y1 M) fun r11 M12 => chk (jw r11 = 0 ∨ jw r11 = 1) (some (r11, M12))) else (if jw (M 168 (jw x1).toNat) = 19 then (bnd (f_X12_snowsAny n M) fun r13 M14 => chk (jw r13 = 0 ∨ jw r13 = 1) (some (r13, M14))) else (some (1, M)))))))
set_option maxRecDepth 4000 in
theorem t_X12_does {g : JG} {ad : Nat → Nat} (hs : jStr g ad) (n : Nat) (x1 : Int) (M : JMem) : jB g D_X12_does ad 0 [some (.ref 167), some (ji x1), none] [] M (f_X12_does n x1 M) := by
  unfold f_X12_does
  refine jo_aload 0 d_X12_does_0 rfl rfl ?_
  refine jo_getR (k := 0) cl_12 (Nat.le_of_ble_eq_true rfl) lk_X12_7 rfl kc_167 kr_167_0 d_X12_does_1 ?_
  refine jo_iload 1 d_X12_does_4 rfl rfl ?_
  refine jo_iconst 1 d_X12_does_5 ?_
  refine jo_iadd d_X12_does_6 ?_
  refine jo_iald (N := 3160) kc_168 d_X12_does_7 ?_
  refine jo_istore 2 d_X12_does_8 rfl (Nat.le_of_ble_eq_true rfl) (fun y1 => ?_)
  refine jo_aload 0 d_X12_does_9 rfl rfl ?_
  refine jo_getR (k := 0) cl_12 (Nat.le_of_ble_eq_true rfl) lk_X12_7 rfl kc_167 kr_167_0 d_X12_does_10 ?_
  refine jo_iload 1 d_X12_does_13 rfl rfl ?_
  refine jo_iald (N := 3160) kc_168 d_X12_does_14 ?_
  refine jo_if (fun c2_14 => ?_) (fun c2_14 => ?_)
  · skip
    refine jo_tabIn 52 d_X12_does_15 14 c2_14 (by decide) (by decide) rfl (by decide) ?_
    refine jo_aload 0 d_X12_does_52 rfl rfl ?_
    refine jo_iload 2 d_X12_does_53 rfl rfl ?_
    refine jo_callV (st := []) (m_X12_hoursBy hs n y1 M) ok_X12_hoursBy (And.intro (Nat.le_of_ble_eq_true rfl) (Nat.le_of_ble_eq_true rfl)) lm_X12_426 in_X12_hoursBy se_X12_hoursBy rfl kc_167 rfl rfl (And.intro (Nat.zero_le _) (Nat.zero_le _)) rfl (Nat.le_of_ble_eq_true rfl) d_X12_does_54 (fun r3 M4 => ?_)
    exact jo_zretq rfl d_X12_does_57
  refine jo_if (fun c2_15 => ?_) (fun c2_15 => ?_)
  · skip
    refine jo_tabIn 58 d_X12_does_15 15 c2_15 (by decide) (by decide) rfl (by decide) ?_
    refine jo_aload 0 d_X12_does_58 rfl rfl ?_
    refine jo_callV (st := []) (m_X12_mondayBy hs n M) ok_X12_mondayBy (And.intro (Nat.le_of_ble_eq_true rfl) (Nat.le_of_ble_eq_true rfl)) lm_X12_429 in_X12_mondayBy se_X12_mondayBy rfl kc_167 rfl rfl (And.intro (Nat.zero_le _) (Nat.zero_le _)) rfl (Nat.le_of_ble_eq_true rfl) d_X12_does_59 (fun r5 M6 => ?_)
    exact jo_zretq rfl d_X12_does_62
  refine jo_if (fun c2_16 => ?_) (fun c2_16 => ?_)
  · skip
    refine jo_tabIn 63 d_X12_does_15 16 c2_16 (by decide) (by decide) rfl (by decide) ?_
    refine jo_aload 0 d_X12_does_63 rfl rfl ?_
    refine jo_iload 2 d_X12_does_64 rfl rfl ?_
    refine jo_iconst 5 d_X12_does_65 ?_
    refine jo_iconst 1 d_X12_does_66 ?_
    refine jo_aload 0 d_X12_does_67 rfl rfl ?_
    refine jo_getR (k := 0) cl_12 (Nat.le_of_ble_eq_true rfl) lk_X12_7 rfl kc_167 kr_167_0 d_X12_does_68 ?_
    refine jo_iload 1 d_X12_does_71 rfl rfl ?_
    refine jo_iconst 2 d_X12_does_72 ?_
    refine jo_iadd d_X12_does_73 ?_
    refine jo_iald (N := 3160) kc_168 d_X12_does_74 ?_
    refine jo_ishl d_X12_does_75 ?_
    refine jo_callV (st := []) (m_X12_turnsBy hs n y1 5 (jshl 1 (M 168 (jw (x1 + 2)).toNat)) M) ok_X12_turnsBy (And.intro (Nat.le_of_ble_eq_true rfl) (Nat.le_of_ble_eq_true rfl)) lm_X12_432 in_X12_turnsBy se_X12_turnsBy rfl kc_167 rfl rfl (And.intro (Nat.zero_le _) (Nat.zero_le _)) rfl (Nat.le_of_ble_eq_true rfl) d_X12_does_76 (fun r7 M8 => ?_)
    exact jo_zretq rfl d_X12_does_79
  refine jo_if (fun c2_17 => ?_) (fun c2_17 => ?_)
  · skip
    refine jo_tabIn 80 d_X12_does_15 17 c2_17 (by decide) (by decide) rfl (by decide) ?_
    refine jo_aload 0 d_X12_does_80 rfl rfl ?_
    refine jo_iload 2 d_X12_does_81 rfl rfl ?_
    refine jo_iconst 2 d_X12_does_82 ?_
    refine jo_iconst 1 d_X12_does_83 ?_
    refine jo_callV (st := []) (m_X12_turnsBy hs n y1 2 1 M) ok_X12_turnsBy (And.intro (Nat.le_of_ble_eq_true rfl) (Nat.le_of_ble_eq_true rfl)) lm_X12_432 in_X12_turnsBy se_X12_turnsBy rfl kc_167 rfl rfl (And.intro (Nat.zero_le _) (Nat.zero_le _)) rfl (Nat.le_of_ble_eq_true rfl) d_X12_does_84 (fun r9 M10 => ?_)
    exact jo_zretq rfl d_X12_does_87
  refine jo_if (fun c2_18 => ?_) (fun c2_18 => ?_)
  · skip
    refine jo_tabIn 88 d_X12_does_15 18 c2_18 (by decide) (by decide) rfl (by decide) ?_
    refine jo_aload 0 d_X12_does_88 rfl rfl ?_
    refine jo_iload 2 d_X12_does_89 rfl rfl ?_
    refine jo_callV (st := []) (m_X12_haltsBy hs n y1 M) ok_X12_haltsBy (And.intro (Nat.le_of_ble_eq_true rfl) (Nat.le_of_ble_eq_true rfl)) lm_X12_435 in_X12_haltsBy se_X12_haltsBy rfl kc_167 rfl rfl (And.intro (Nat.zero_le _) (Nat.zero_le _)) rfl (Nat.le_of_ble_eq_true rfl) d_X12_does_90 (fun r11 M12 => ?_)
    exact jo_zretq rfl d_X12_does_93
  refine jo_if (fun c2_19 => ?_) (fun c2_19 => ?_)
  · skip
    refine jo_tabIn 94 d_X12_does_15 19 c2_19 (by decide) (by decide) rfl (by decide) ?_
    refine jo_aload 0 d_X12_does_94 rfl rfl ?_
    refine jo_callV (st := []) (m_X12_snowsAny hs n M) ok_X12_snowsAny (And.intro (Nat.le_of_ble_eq_true rfl) (Nat.le_of_ble_eq_true rfl)) lm_X12_438 in_X12_snowsAny se_X12_snowsAny rfl kc_167 rfl rfl (And.intro (Nat.zero_le _) (Nat.zero_le _)) rfl (Nat.le_of_ble_eq_true rfl) d_X12_does_95 (fun r13 M14 => ?_)
    exact jo_zretq rfl d_X12_does_98
  refine jo_tabOut 99 d_X12_does_15 (by omega) (by decide) ?_
  refine jo_iconst 1 d_X12_does_99 ?_
  exact jo_zret rfl (by decide) d_X12_does_100
theorem m_X12_does {g : JG} {ad : Nat → Nat} (hs : jStr g ad) (n : Nat) (x1 : Int) (M : JMem) : jMet g jNN ad jR D_X12_does yX12_does [.ref 167, ji x1] M (f_X12_does n x1 M) :=
  jMet.of (lo0 := [some (.ref 167), some (ji x1), none]) (by decide) rfl rfl (Nat.le_of_ble_eq_true rfl) (And.intro rfl (And.intro rfl True.intro)) (t_X12_does hs n x1 M)
/-! CageLeaveModel.keeps(I)V -/
def D_X12_keeps : JD := (RX12, cX12_keeps, 3, none, "keeps", { frames := 0, cells := 0, slots := 0, locals := 0 })
theorem ok_X12_keeps : jOk D_X12_keeps yX12_keeps 1 := ⟨jTW_mem (k := 1870) (by decide +kernel) rfl, jTW_mem (k := 151) (by decide +kernel) rfl, ⟨by decide +kernel, by decide +kernel⟩, by decide +kernel, rfl, rfl⟩
theorem in_X12_keeps : Cond.instanceMethod yX12_keeps ∈ jTW := jTW_mem (k := 1869) (by decide +kernel) rfl
theorem se_X12_keeps : Cond.selects yX12_keeps.cls yX12_keeps yX12_keeps ∈ jTW := jTW_mem (k := 106) (by decide +kernel) rfl
theorem d_X12_keeps_0 : decode (D_X12_keeps).2.1 0 = .ok (.iconst 0, 1) := by decide +kernel
theorem d_X12_keeps_1 : decode (D_X12_keeps).2.1 1 = .ok (.istore_n 2, 1) := by decide +kernel
theorem d_X12_keeps_2 : decode (D_X12_keeps).2.1 2 = .ok (.iload_n 2, 1) := by decide +kernel
theorem d_X12_keeps_3 : decode (D_X12_keeps).2.1 3 = .ok (.sipush 136, 3) := by decide +kernel
theorem d_X12_keeps_6 : decode (D_X12_keeps).2.1 6 = .ok (.if_icmp .ge 23, 3) := by decide +kernel
theorem d_X12_keeps_9 : decode (D_X12_keeps).2.1 9 = .ok (.aload_n 0, 1) := by decide +kernel
theorem d_X12_keeps_10 : decode (D_X12_keeps).2.1 10 = .ok (.getfield 7, 3) := by decide +kernel
theorem d_X12_keeps_13 : decode (D_X12_keeps).2.1 13 = .ok (.iload_n 1, 1) := by decide +kernel
theorem d_X12_keeps_14 : decode (D_X12_keeps).2.1 14 = .ok (.iload_n 2, 1) := by decide +kernel
theorem d_X12_keeps_15 : decode (D_X12_keeps).2.1 15 = .ok (.iadd, 1) := by decide +kernel
theorem d_X12_keeps_16 : decode (D_X12_keeps).2.1 16 = .ok (.aload_n 0, 1) := by decide +kernel
theorem d_X12_keeps_17 : decode (D_X12_keeps).2.1 17 = .ok (.getfield 7, 3) := by decide +kernel
theorem d_X12_keeps_20 : decode (D_X12_keeps).2.1 20 = .ok (.iload_n 2, 1) := by decide +kernel
theorem d_X12_keeps_21 : decode (D_X12_keeps).2.1 21 = .ok (.iaload, 1) := by decide +kernel
theorem d_X12_keeps_22 : decode (D_X12_keeps).2.1 22 = .ok (.iastore, 1) := by decide +kernel
theorem d_X12_keeps_23 : decode (D_X12_keeps).2.1 23 = .ok (.iinc 2 1, 3) := by decide +kernel
theorem d_X12_keeps_26 : decode (D_X12_keeps).2.1 26 = .ok (.goto (-24), 3) := by decide +kernel
theorem d_X12_keeps_29 : decode (D_X12_keeps).2.1 29 = .ok (.return_, 1) := by decide +kernel
def f_X12_keeps_L2 (n : Nat) : Nat → Int → Int → JMem → Option (Int × JMem)
  | 0, _, _, _ => none
  | k + 1, v1, v2, M => if jw 136 ≤ jw v2 then (some (0, M)) else (chk (jin v2 3160) <| chk (jin (v1 + v2) 3160) <| letm (jup M 168 (jw (v1 + v2)).toNat (M 168 (jw v2).toNat)) fun M1 => letv (v2 + 1) fun y2 => (f_X12_keeps_L2 n k) v1 y2 M1)
set_option maxRecDepth 4000 in
theorem t_X12_keeps_L2 {g : JG} {ad : Nat → Nat} (hs : jStr g ad) (n : Nat) : ∀ (k : Nat) (v1 v2 : Int) (M : JMem), jB g D_X12_keeps ad 2 [some (.ref 167), some (ji v1), some (ji v2)] [] M (f_X12_keeps_L2 n k v1 v2 M) := by
  intro k
  induction k with
  | zero => intro v1 v2 M; exact jO.none
  | succ k ih =>
    intro v1 v2 M
    rw [f_X12_keeps_L2]
    refine jo_iload 2 d_X12_keeps_2 rfl rfl ?_
    refine jo_sipush 136 d_X12_keeps_3 (by decide) ?_
    refine jo_icmp_ge 29 d_X12_keeps_6 (by decide) ?_ ?_
    · skip
      exact jo_vret rfl d_X12_keeps_29
    · skip
      refine jo_aload 0 d_X12_keeps_9 rfl rfl ?_
      refine jo_getR (k := 0) cl_12 (Nat.le_of_ble_eq_true rfl) lk_X12_7 rfl kc_167 kr_167_0 d_X12_keeps_10 ?_
      refine jo_iload 1 d_X12_keeps_13 rfl rfl ?_
      refine jo_iload 2 d_X12_keeps_14 rfl rfl ?_
      refine jo_iadd d_X12_keeps_15 ?_
      refine jo_aload 0 d_X12_keeps_16 rfl rfl ?_
      refine jo_getR (k := 0) cl_12 (Nat.le_of_ble_eq_true rfl) lk_X12_7 rfl kc_167 kr_167_0 d_X12_keeps_17 ?_
      refine jo_iload 2 d_X12_keeps_20 rfl rfl ?_
      refine jo_iald (N := 3160) kc_168 d_X12_keeps_21 ?_
      refine jo_iast (N := 3160) kc_168 d_X12_keeps_22 (fun M1 => ?_)
      refine jo_iinc 2 d_X12_keeps_23 rfl (Nat.le_of_ble_eq_true rfl) (fun y2 => ?_)
      refine jo_goto 2 d_X12_keeps_26 (by decide) ?_
      exact jO.sub (ih v1 y2 M1) (And.intro rfl (And.intro rfl (And.intro rfl True.intro)))
def f_X12_keeps (n : Nat) (x1 : Int) (M : JMem) : Option (Int × JMem) := letv 0 fun y1 => f_X12_keeps_L2 n n x1 y1 M
set_option maxRecDepth 4000 in
theorem t_X12_keeps {g : JG} {ad : Nat → Nat} (hs : jStr g ad) (n : Nat) (x1 : Int) (M : JMem) : jB g D_X12_keeps ad 0 [some (.ref 167), some (ji x1), none] [] M (f_X12_keeps n x1 M) := by
  unfold f_X12_keeps
  refine jo_iconst 0 d_X12_keeps_0 ?_
  refine jo_istore 2 d_X12_keeps_1 rfl (Nat.le_of_ble_eq_true rfl) (fun y1 => ?_)
  exact jO.sub (t_X12_keeps_L2 hs n n x1 y1 M) (And.intro rfl (And.intro rfl (And.intro rfl True.intro)))
theorem m_X12_keeps {g : JG} {ad : Nat → Nat} (hs : jStr g ad) (n : Nat) (x1 : Int) (M : JMem) : jMet g jNN ad jR D_X12_keeps yX12_keeps [.ref 167, ji x1] M (f_X12_keeps n x1 M) :=
  jMet.of (lo0 := [some (.ref 167), some (ji x1), none]) (by decide) rfl rfl (Nat.le_of_ble_eq_true rfl) (And.intro rfl (And.intro rfl True.intro)) (t_X12_keeps hs n x1 M)
/-! CageLeaveModel.restores(I)V -/
def D_X12_restores : JD := (RX12, cX12_restores, 3, none, "restores", { frames := 0, cells := 0, slots := 0, locals := 0 })
theorem ok_X12_restores : jOk D_X12_restores yX12_restores 1 := ⟨jTW_mem (k := 1878) (by decide +kernel) rfl, jTW_mem (k := 151) (by decide +kernel) rfl, ⟨by decide +kernel, by decide +kernel⟩, by decide +kernel, rfl, rfl⟩
theorem in_X12_restores : Cond.instanceMethod yX12_restores ∈ jTW := jTW_mem (k := 1877) (by decide +kernel) rfl
theorem se_X12_restores : Cond.selects yX12_restores.cls yX12_restores yX12_restores ∈ jTW := jTW_mem (k := 108) (by decide +kernel) rfl
theorem d_X12_restores_0 : decode (D_X12_restores).2.1 0 = .ok (.iconst 0, 1) := by decide +kernel
theorem d_X12_restores_1 : decode (D_X12_restores).2.1 1 = .ok (.istore_n 2, 1) := by decide +kernel
theorem d_X12_restores_2 : decode (D_X12_restores).2.1 2 = .ok (.iload_n 2, 1) := by decide +kernel
theorem d_X12_restores_3 : decode (D_X12_restores).2.1 3 = .ok (.sipush 136, 3) := by decide +kernel
theorem d_X12_restores_6 : decode (D_X12_restores).2.1 6 = .ok (.if_icmp .ge 23, 3) := by decide +kernel
theorem d_X12_restores_9 : decode (D_X12_restores).2.1 9 = .ok (.aload_n 0, 1) := by decide +kernel
theorem d_X12_restores_10 : decode (D_X12_restores).2.1 10 = .ok (.getfield 7, 3) := by decide +kernel
theorem d_X12_restores_13 : decode (D_X12_restores).2.1 13 = .ok (.iload_n 2, 1) := by decide +kernel
theorem d_X12_restores_14 : decode (D_X12_restores).2.1 14 = .ok (.aload_n 0, 1) := by decide +kernel
theorem d_X12_restores_15 : decode (D_X12_restores).2.1 15 = .ok (.getfield 7, 3) := by decide +kernel
theorem d_X12_restores_18 : decode (D_X12_restores).2.1 18 = .ok (.iload_n 1, 1) := by decide +kernel
theorem d_X12_restores_19 : decode (D_X12_restores).2.1 19 = .ok (.iload_n 2, 1) := by decide +kernel
theorem d_X12_restores_20 : decode (D_X12_restores).2.1 20 = .ok (.iadd, 1) := by decide +kernel
theorem d_X12_restores_21 : decode (D_X12_restores).2.1 21 = .ok (.iaload, 1) := by decide +kernel
theorem d_X12_restores_22 : decode (D_X12_restores).2.1 22 = .ok (.iastore, 1) := by decide +kernel
theorem d_X12_restores_23 : decode (D_X12_restores).2.1 23 = .ok (.iinc 2 1, 3) := by decide +kernel
theorem d_X12_restores_26 : decode (D_X12_restores).2.1 26 = .ok (.goto (-24), 3) := by decide +kernel
theorem d_X12_restores_29 : decode (D_X12_restores).2.1 29 = .ok (.return_, 1) := by decide +kernel
def f_X12_restores_L2 (n : Nat) : Nat → Int → Int → JMem → Option (Int × JMem)
  | 0, _, _, _ => none
  | k + 1, v1, v2, M => if jw 136 ≤ jw v2 then (some (0, M)) else (chk (jin (v1 + v2) 3160) <| chk (jin v2 3160) <| letm (jup M 168 (jw v2).toNat (M 168 (jw (v1 + v2)).toNat)) fun M1 => letv (v2 + 1) fun y2 => (f_X12_restores_L2 n k) v1 y2 M1)
set_option maxRecDepth 4000 in
theorem t_X12_restores_L2 {g : JG} {ad : Nat → Nat} (hs : jStr g ad) (n : Nat) : ∀ (k : Nat) (v1 v2 : Int) (M : JMem), jB g D_X12_restores ad 2 [some (.ref 167), some (ji v1), some (ji v2)] [] M (f_X12_restores_L2 n k v1 v2 M) := by
  intro k
  induction k with
  | zero => intro v1 v2 M; exact jO.none
  | succ k ih =>
    intro v1 v2 M
    rw [f_X12_restores_L2]
    refine jo_iload 2 d_X12_restores_2 rfl rfl ?_
    refine jo_sipush 136 d_X12_restores_3 (by decide) ?_
    refine jo_icmp_ge 29 d_X12_restores_6 (by decide) ?_ ?_
    · skip
      exact jo_vret rfl d_X12_restores_29
    · skip
      refine jo_aload 0 d_X12_restores_9 rfl rfl ?_
      refine jo_getR (k := 0) cl_12 (Nat.le_of_ble_eq_true rfl) lk_X12_7 rfl kc_167 kr_167_0 d_X12_restores_10 ?_
      refine jo_iload 2 d_X12_restores_13 rfl rfl ?_
      refine jo_aload 0 d_X12_restores_14 rfl rfl ?_
      refine jo_getR (k := 0) cl_12 (Nat.le_of_ble_eq_true rfl) lk_X12_7 rfl kc_167 kr_167_0 d_X12_restores_15 ?_
      refine jo_iload 1 d_X12_restores_18 rfl rfl ?_
      refine jo_iload 2 d_X12_restores_19 rfl rfl ?_
      refine jo_iadd d_X12_restores_20 ?_
      refine jo_iald (N := 3160) kc_168 d_X12_restores_21 ?_
      refine jo_iast (N := 3160) kc_168 d_X12_restores_22 (fun M1 => ?_)
      refine jo_iinc 2 d_X12_restores_23 rfl (Nat.le_of_ble_eq_true rfl) (fun y2 => ?_)
      refine jo_goto 2 d_X12_restores_26 (by decide) ?_
      exact jO.sub (ih v1 y2 M1) (And.intro rfl (And.intro rfl (And.intro rfl True.intro)))
def f_X12_restores (n : Nat) (x1 : Int) (M : JMem) : Option (Int × JMem) := letv 0 fun y1 => f_X12_restores_L2 n n x1 y1 M
set_option maxRecDepth 4000 in
theorem t_X12_restores {g : JG} {ad : Nat → Nat} (hs : jStr g ad) (n : Nat) (x1 : Int) (M : JMem) : jB g D_X12_restores ad 0 [some (.ref 167), some (ji x1), none] [] M (f_X12_restores n x1 M) := by
  unfold f_X12_restores
  refine jo_iconst 0 d_X12_restores_0 ?_
  refine jo_istore 2 d_X12_restores_1 rfl (Nat.le_of_ble_eq_true rfl) (fun y1 => ?_)
  exact jO.sub (t_X12_restores_L2 hs n n x1 y1 M) (And.intro rfl (And.intro rfl (And.intro rfl True.intro)))
theorem m_X12_restores {g : JG} {ad : Nat → Nat} (hs : jStr g ad) (n : Nat) (x1 : Int) (M : JMem) : jMet g jNN ad jR D_X12_restores yX12_restores [.ref 167, ji x1] M (f_X12_restores n x1 M) :=
  jMet.of (lo0 := [some (.ref 167), some (ji x1), none]) (by decide) rfl rfl (Nat.le_of_ble_eq_true rfl) (And.intro rfl (And.intro rfl True.intro)) (t_X12_restores hs n x1 M)
/-! CageLeaveModel.laysOn()I -/
def D_X12_laysOn : JD := (RX12, cX12_laysOn, 5, some .int, "laysOn", { frames := 7, cells := 0, slots := 0, locals := 151 })
theorem ok_X12_laysOn : jOk D_X12_laysOn yX12_laysOn 0 := ⟨jTW_mem (k := 1874) (by decide +kernel) rfl, jTW_mem (k := 151) (by decide +kernel) rfl, ⟨by decide +kernel, by decide +kernel⟩, by decide +kernel, rfl, rfl⟩
theorem in_X12_laysOn : Cond.instanceMethod yX12_laysOn ∈ jTW := jTW_mem (k := 1873) (by decide +kernel) rfl
theorem se_X12_laysOn : Cond.selects yX12_laysOn.cls yX12_laysOn yX12_laysOn ∈ jTW := jTW_mem (k := 107) (by decide +kernel) rfl
theorem lk_X12_47 : Cond.fieldLink RX12 47 (TX12 24).1 (TX12 24).2.1 (TX12 24).2.2.1 ∈ jTW := jTW_mem (k := 1400) (by decide +kernel) rfl
theorem lk_X12_50 : Cond.fieldLink RX12 50 (TX12 25).1 (TX12 25).2.1 (TX12 25).2.2.1 ∈ jTW := jTW_mem (k := 1401) (by decide +kernel) rfl
theorem lk_X12_53 : Cond.fieldLink RX12 53 (TX12 26).1 (TX12 26).2.1 (TX12 26).2.2.1 ∈ jTW := jTW_mem (k := 1402) (by decide +kernel) rfl
theorem lk_X12_351 : Cond.fieldLink RX12 351 (TX12 27).1 (TX12 27).2.1 (TX12 27).2.2.1 ∈ jTW := jTW_mem (k := 1403) (by decide +kernel) rfl
theorem lm_X12_354 : Cond.methodLink RX12 354 yX12_restores ∈ jTW := jTW_mem (k := 1875) (by decide +kernel) rfl
theorem d_X12_laysOn_0 : decode (D_X12_laysOn).2.1 0 = .ok (.iconst 0, 1) := by decide +kernel
theorem d_X12_laysOn_1 : decode (D_X12_laysOn).2.1 1 = .ok (.istore_n 1, 1) := by decide +kernel
theorem d_X12_laysOn_2 : decode (D_X12_laysOn).2.1 2 = .ok (.iload_n 1, 1) := by decide +kernel
theorem d_X12_laysOn_3 : decode (D_X12_laysOn).2.1 3 = .ok (.bipush 8, 2) := by decide +kernel
theorem d_X12_laysOn_5 : decode (D_X12_laysOn).2.1 5 = .ok (.if_icmp .ge 23, 3) := by decide +kernel
theorem d_X12_laysOn_8 : decode (D_X12_laysOn).2.1 8 = .ok (.aload_n 0, 1) := by decide +kernel
theorem d_X12_laysOn_9 : decode (D_X12_laysOn).2.1 9 = .ok (.getfield 50, 3) := by decide +kernel
theorem d_X12_laysOn_12 : decode (D_X12_laysOn).2.1 12 = .ok (.iload_n 1, 1) := by decide +kernel
theorem d_X12_laysOn_13 : decode (D_X12_laysOn).2.1 13 = .ok (.iconst (-1), 1) := by decide +kernel
theorem d_X12_laysOn_14 : decode (D_X12_laysOn).2.1 14 = .ok (.iastore, 1) := by decide +kernel
theorem d_X12_laysOn_15 : decode (D_X12_laysOn).2.1 15 = .ok (.aload_n 0, 1) := by decide +kernel
theorem d_X12_laysOn_16 : decode (D_X12_laysOn).2.1 16 = .ok (.getfield 53, 3) := by decide +kernel
theorem d_X12_laysOn_19 : decode (D_X12_laysOn).2.1 19 = .ok (.iload_n 1, 1) := by decide +kernel
theorem d_X12_laysOn_20 : decode (D_X12_laysOn).2.1 20 = .ok (.iconst (-1), 1) := by decide +kernel
theorem d_X12_laysOn_21 : decode (D_X12_laysOn).2.1 21 = .ok (.iastore, 1) := by decide +kernel
theorem d_X12_laysOn_22 : decode (D_X12_laysOn).2.1 22 = .ok (.iinc 1 1, 3) := by decide +kernel
theorem d_X12_laysOn_25 : decode (D_X12_laysOn).2.1 25 = .ok (.goto (-23), 3) := by decide +kernel
theorem d_X12_laysOn_28 : decode (D_X12_laysOn).2.1 28 = .ok (.iconst 0, 1) := by decide +kernel
theorem d_X12_laysOn_29 : decode (D_X12_laysOn).2.1 29 = .ok (.istore_n 1, 1) := by decide +kernel
theorem d_X12_laysOn_30 : decode (D_X12_laysOn).2.1 30 = .ok (.iconst 0, 1) := by decide +kernel
theorem d_X12_laysOn_31 : decode (D_X12_laysOn).2.1 31 = .ok (.istore_n 2, 1) := by decide +kernel
theorem d_X12_laysOn_32 : decode (D_X12_laysOn).2.1 32 = .ok (.iload_n 2, 1) := by decide +kernel
theorem d_X12_laysOn_33 : decode (D_X12_laysOn).2.1 33 = .ok (.aload_n 0, 1) := by decide +kernel
theorem d_X12_laysOn_34 : decode (D_X12_laysOn).2.1 34 = .ok (.getfield 7, 3) := by decide +kernel
theorem d_X12_laysOn_37 : decode (D_X12_laysOn).2.1 37 = .ok (.iconst 2, 1) := by decide +kernel
theorem d_X12_laysOn_38 : decode (D_X12_laysOn).2.1 38 = .ok (.iaload, 1) := by decide +kernel
theorem d_X12_laysOn_39 : decode (D_X12_laysOn).2.1 39 = .ok (.if_icmp .ge 30, 3) := by decide +kernel
theorem d_X12_laysOn_42 : decode (D_X12_laysOn).2.1 42 = .ok (.aload_n 0, 1) := by decide +kernel
theorem d_X12_laysOn_43 : decode (D_X12_laysOn).2.1 43 = .ok (.getfield 47, 3) := by decide +kernel
theorem d_X12_laysOn_46 : decode (D_X12_laysOn).2.1 46 = .ok (.bipush 8, 2) := by decide +kernel
theorem d_X12_laysOn_48 : decode (D_X12_laysOn).2.1 48 = .ok (.aload_n 0, 1) := by decide +kernel
theorem d_X12_laysOn_49 : decode (D_X12_laysOn).2.1 49 = .ok (.getfield 7, 3) := by decide +kernel
theorem d_X12_laysOn_52 : decode (D_X12_laysOn).2.1 52 = .ok (.iconst 5, 1) := by decide +kernel
theorem d_X12_laysOn_53 : decode (D_X12_laysOn).2.1 53 = .ok (.iaload, 1) := by decide +kernel
theorem d_X12_laysOn_54 : decode (D_X12_laysOn).2.1 54 = .ok (.imul, 1) := by decide +kernel
theorem d_X12_laysOn_55 : decode (D_X12_laysOn).2.1 55 = .ok (.iload_n 2, 1) := by decide +kernel
theorem d_X12_laysOn_56 : decode (D_X12_laysOn).2.1 56 = .ok (.iadd, 1) := by decide +kernel
theorem d_X12_laysOn_57 : decode (D_X12_laysOn).2.1 57 = .ok (.aload_n 0, 1) := by decide +kernel
theorem d_X12_laysOn_58 : decode (D_X12_laysOn).2.1 58 = .ok (.iload_n 2, 1) := by decide +kernel
theorem d_X12_laysOn_59 : decode (D_X12_laysOn).2.1 59 = .ok (.invokevirtual 282, 3) := by decide +kernel
theorem d_X12_laysOn_62 : decode (D_X12_laysOn).2.1 62 = .ok (.iastore, 1) := by decide +kernel
theorem d_X12_laysOn_63 : decode (D_X12_laysOn).2.1 63 = .ok (.iinc 2 1, 3) := by decide +kernel
theorem d_X12_laysOn_66 : decode (D_X12_laysOn).2.1 66 = .ok (.goto (-34), 3) := by decide +kernel
theorem d_X12_laysOn_69 : decode (D_X12_laysOn).2.1 69 = .ok (.aload_n 0, 1) := by decide +kernel
theorem d_X12_laysOn_70 : decode (D_X12_laysOn).2.1 70 = .ok (.getfield 7, 3) := by decide +kernel
theorem d_X12_laysOn_73 : decode (D_X12_laysOn).2.1 73 = .ok (.iconst 5, 1) := by decide +kernel
theorem d_X12_laysOn_74 : decode (D_X12_laysOn).2.1 74 = .ok (.iaload, 1) := by decide +kernel
theorem d_X12_laysOn_75 : decode (D_X12_laysOn).2.1 75 = .ok (.bipush 64, 2) := by decide +kernel
theorem d_X12_laysOn_77 : decode (D_X12_laysOn).2.1 77 = .ok (.if_icmp .ne 6, 3) := by decide +kernel
theorem d_X12_laysOn_80 : decode (D_X12_laysOn).2.1 80 = .ok (.goto 78, 3) := by decide +kernel
theorem d_X12_laysOn_83 : decode (D_X12_laysOn).2.1 83 = .ok (.aload_n 0, 1) := by decide +kernel
theorem d_X12_laysOn_84 : decode (D_X12_laysOn).2.1 84 = .ok (.getfield 7, 3) := by decide +kernel
theorem d_X12_laysOn_87 : decode (D_X12_laysOn).2.1 87 = .ok (.iconst 5, 1) := by decide +kernel
theorem d_X12_laysOn_88 : decode (D_X12_laysOn).2.1 88 = .ok (.iaload, 1) := by decide +kernel
theorem d_X12_laysOn_89 : decode (D_X12_laysOn).2.1 89 = .ok (.istore_n 2, 1) := by decide +kernel
theorem d_X12_laysOn_90 : decode (D_X12_laysOn).2.1 90 = .ok (.aload_n 0, 1) := by decide +kernel
theorem d_X12_laysOn_91 : decode (D_X12_laysOn).2.1 91 = .ok (.invokevirtual 327, 3) := by decide +kernel
theorem d_X12_laysOn_94 : decode (D_X12_laysOn).2.1 94 = .ok (.istore_n 3, 1) := by decide +kernel
theorem d_X12_laysOn_95 : decode (D_X12_laysOn).2.1 95 = .ok (.iload_n 1, 1) := by decide +kernel
theorem d_X12_laysOn_96 : decode (D_X12_laysOn).2.1 96 = .ok (.iload_n 3, 1) := by decide +kernel
theorem d_X12_laysOn_97 : decode (D_X12_laysOn).2.1 97 = .ok (.ior, 1) := by decide +kernel
theorem d_X12_laysOn_98 : decode (D_X12_laysOn).2.1 98 = .ok (.istore_n 1, 1) := by decide +kernel
theorem d_X12_laysOn_99 : decode (D_X12_laysOn).2.1 99 = .ok (.iconst 0, 1) := by decide +kernel
theorem d_X12_laysOn_100 : decode (D_X12_laysOn).2.1 100 = .ok (.istore 4, 2) := by decide +kernel
theorem d_X12_laysOn_102 : decode (D_X12_laysOn).2.1 102 = .ok (.iload 4, 2) := by decide +kernel
theorem d_X12_laysOn_104 : decode (D_X12_laysOn).2.1 104 = .ok (.aload_n 0, 1) := by decide +kernel
theorem d_X12_laysOn_105 : decode (D_X12_laysOn).2.1 105 = .ok (.getfield 7, 3) := by decide +kernel
theorem d_X12_laysOn_108 : decode (D_X12_laysOn).2.1 108 = .ok (.iconst 2, 1) := by decide +kernel
theorem d_X12_laysOn_109 : decode (D_X12_laysOn).2.1 109 = .ok (.iaload, 1) := by decide +kernel
theorem d_X12_laysOn_110 : decode (D_X12_laysOn).2.1 110 = .ok (.if_icmp .ge 45, 3) := by decide +kernel
theorem d_X12_laysOn_113 : decode (D_X12_laysOn).2.1 113 = .ok (.aload_n 0, 1) := by decide +kernel
theorem d_X12_laysOn_114 : decode (D_X12_laysOn).2.1 114 = .ok (.iload_n 3, 1) := by decide +kernel
theorem d_X12_laysOn_115 : decode (D_X12_laysOn).2.1 115 = .ok (.iload 4, 2) := by decide +kernel
theorem d_X12_laysOn_117 : decode (D_X12_laysOn).2.1 117 = .ok (.invokevirtual 315, 3) := by decide +kernel
theorem d_X12_laysOn_120 : decode (D_X12_laysOn).2.1 120 = .ok (.ifCond .ne 6, 3) := by decide +kernel
theorem d_X12_laysOn_123 : decode (D_X12_laysOn).2.1 123 = .ok (.goto 26, 3) := by decide +kernel
theorem d_X12_laysOn_126 : decode (D_X12_laysOn).2.1 126 = .ok (.aload_n 0, 1) := by decide +kernel
theorem d_X12_laysOn_127 : decode (D_X12_laysOn).2.1 127 = .ok (.getfield 50, 3) := by decide +kernel
theorem d_X12_laysOn_130 : decode (D_X12_laysOn).2.1 130 = .ok (.iload 4, 2) := by decide +kernel
theorem d_X12_laysOn_132 : decode (D_X12_laysOn).2.1 132 = .ok (.iload_n 2, 1) := by decide +kernel
theorem d_X12_laysOn_133 : decode (D_X12_laysOn).2.1 133 = .ok (.iastore, 1) := by decide +kernel
theorem d_X12_laysOn_134 : decode (D_X12_laysOn).2.1 134 = .ok (.aload_n 0, 1) := by decide +kernel
theorem d_X12_laysOn_135 : decode (D_X12_laysOn).2.1 135 = .ok (.getfield 53, 3) := by decide +kernel
theorem d_X12_laysOn_138 : decode (D_X12_laysOn).2.1 138 = .ok (.iload 4, 2) := by decide +kernel
theorem d_X12_laysOn_140 : decode (D_X12_laysOn).2.1 140 = .ok (.aload_n 0, 1) := by decide +kernel
theorem d_X12_laysOn_141 : decode (D_X12_laysOn).2.1 141 = .ok (.iload 4, 2) := by decide +kernel
theorem d_X12_laysOn_143 : decode (D_X12_laysOn).2.1 143 = .ok (.bipush 9, 2) := by decide +kernel
theorem d_X12_laysOn_145 : decode (D_X12_laysOn).2.1 145 = .ok (.invokevirtual 276, 3) := by decide +kernel
theorem d_X12_laysOn_148 : decode (D_X12_laysOn).2.1 148 = .ok (.iastore, 1) := by decide +kernel
theorem d_X12_laysOn_149 : decode (D_X12_laysOn).2.1 149 = .ok (.iinc 4 1, 3) := by decide +kernel
theorem d_X12_laysOn_152 : decode (D_X12_laysOn).2.1 152 = .ok (.goto (-50), 3) := by decide +kernel
theorem d_X12_laysOn_155 : decode (D_X12_laysOn).2.1 155 = .ok (.goto (-125), 3) := by decide +kernel
theorem d_X12_laysOn_158 : decode (D_X12_laysOn).2.1 158 = .ok (.iconst 0, 1) := by decide +kernel
theorem d_X12_laysOn_159 : decode (D_X12_laysOn).2.1 159 = .ok (.istore_n 2, 1) := by decide +kernel
theorem d_X12_laysOn_160 : decode (D_X12_laysOn).2.1 160 = .ok (.iload_n 2, 1) := by decide +kernel
theorem d_X12_laysOn_161 : decode (D_X12_laysOn).2.1 161 = .ok (.aload_n 0, 1) := by decide +kernel
theorem d_X12_laysOn_162 : decode (D_X12_laysOn).2.1 162 = .ok (.getfield 7, 3) := by decide +kernel
theorem d_X12_laysOn_165 : decode (D_X12_laysOn).2.1 165 = .ok (.iconst 2, 1) := by decide +kernel
theorem d_X12_laysOn_166 : decode (D_X12_laysOn).2.1 166 = .ok (.iaload, 1) := by decide +kernel
theorem d_X12_laysOn_167 : decode (D_X12_laysOn).2.1 167 = .ok (.if_icmp .ge 14, 3) := by decide +kernel
theorem d_X12_laysOn_170 : decode (D_X12_laysOn).2.1 170 = .ok (.aload_n 0, 1) := by decide +kernel
theorem d_X12_laysOn_171 : decode (D_X12_laysOn).2.1 171 = .ok (.iload_n 2, 1) := by decide +kernel
theorem d_X12_laysOn_172 : decode (D_X12_laysOn).2.1 172 = .ok (.invokevirtual 318, 3) := by decide +kernel
theorem d_X12_laysOn_175 : decode (D_X12_laysOn).2.1 175 = .ok (.iinc 2 1, 3) := by decide +kernel
theorem d_X12_laysOn_178 : decode (D_X12_laysOn).2.1 178 = .ok (.goto (-18), 3) := by decide +kernel
theorem d_X12_laysOn_181 : decode (D_X12_laysOn).2.1 181 = .ok (.aload_n 0, 1) := by decide +kernel
theorem d_X12_laysOn_182 : decode (D_X12_laysOn).2.1 182 = .ok (.aload_n 0, 1) := by decide +kernel
theorem d_X12_laysOn_183 : decode (D_X12_laysOn).2.1 183 = .ok (.invokevirtual 335, 3) := by decide +kernel
theorem d_X12_laysOn_186 : decode (D_X12_laysOn).2.1 186 = .ok (.putfield 351, 3) := by decide +kernel
theorem d_X12_laysOn_189 : decode (D_X12_laysOn).2.1 189 = .ok (.aload_n 0, 1) := by decide +kernel
theorem d_X12_laysOn_190 : decode (D_X12_laysOn).2.1 190 = .ok (.sipush 3024, 3) := by decide +kernel
theorem d_X12_laysOn_193 : decode (D_X12_laysOn).2.1 193 = .ok (.invokevirtual 354, 3) := by decide +kernel
theorem d_X12_laysOn_196 : decode (D_X12_laysOn).2.1 196 = .ok (.iload_n 1, 1) := by decide +kernel
theorem d_X12_laysOn_197 : decode (D_X12_laysOn).2.1 197 = .ok (.ireturn, 1) := by decide +kernel
def f_X12_laysOn_L181 (n : Nat) (v1 : Int) (M : JMem) : Option (Int × JMem) := bnd (f_X12_lateNow n M) fun r1 M2 => letm (jup M2 167 27 r1) fun M3 => bnd (f_X12_restores n 3024 M3) fun _ M5 => some (v1, M5)
set_option maxRecDepth 4000 in
theorem t_X12_laysOn_L181 {g : JG} {ad : Nat → Nat} (hs : jStr g ad) (n : Nat) (v1 : Int) (M : JMem) : jB g D_X12_laysOn ad 181 [some (.ref 167), some (ji v1), none, none, none] [] M (f_X12_laysOn_L181 n v1 M) := by
  unfold f_X12_laysOn_L181
  refine jo_aload 0 d_X12_laysOn_181 rfl rfl ?_
  refine jo_aload 0 d_X12_laysOn_182 rfl rfl ?_
  refine jo_callV (st := [.ref 167]) (m_X12_lateNow hs n M) ok_X12_lateNow (And.intro (Nat.le_of_ble_eq_true rfl) (Nat.le_of_ble_eq_true rfl)) lm_X12_335 in_X12_lateNow se_X12_lateNow rfl kc_167 rfl rfl (And.intro (Nat.zero_le _) (Nat.zero_le _)) rfl (Nat.le_of_ble_eq_true rfl) d_X12_laysOn_183 (fun r1 M2 => ?_)
  refine jo_putI (k := 27) cl_12 (Nat.le_of_ble_eq_true rfl) lk_X12_351 rfl rfl kc_167 d_X12_laysOn_186 (fun M3 => ?_)
  refine jo_aload 0 d_X12_laysOn_189 rfl rfl ?_
  refine jo_sipush 3024 d_X12_laysOn_190 (by decide) ?_
  refine jo_callV (st := []) (m_X12_restores hs n 3024 M3) ok_X12_restores (And.intro (Nat.le_of_ble_eq_true rfl) (Nat.le_of_ble_eq_true rfl)) lm_X12_354 in_X12_restores se_X12_restores rfl kc_167 rfl rfl (And.intro (Nat.zero_le _) (Nat.zero_le _)) rfl (Nat.le_of_ble_eq_true rfl) d_X12_laysOn_193 (fun _ M5 => ?_)
  refine jo_iload 1 d_X12_laysOn_196 rfl rfl ?_
  exact jo_iret rfl d_X12_laysOn_197
def f_X12_laysOn_L160 (n : Nat) : Nat → Int → Int → JMem → Option (Int × JMem)
  | 0, _, _, _ => none
  | k + 1, v1, v2, M => chk (jin 2 3160) <| if jw (M 168 (jw 2).toNat) ≤ jw v2 then (f_X12_laysOn_L181 n v1 M) else (bnd (f_X12_getsOff n v2 M) fun _ M2 => letv (v2 + 1) fun y3 => (f_X12_laysOn_L160 n k) v1 y3 M2)
set_option maxRecDepth 4000 in
theorem t_X12_laysOn_L160 {g : JG} {ad : Nat → Nat} (hs : jStr g ad) (n : Nat) : ∀ (k : Nat) (v1 v2 : Int) (M : JMem), jB g D_X12_laysOn ad 160 [some (.ref 167), some (ji v1), some (ji v2), none, none] [] M (f_X12_laysOn_L160 n k v1 v2 M) := by
  intro k
  induction k with
  | zero => intro v1 v2 M; exact jO.none
  | succ k ih =>
    intro v1 v2 M
    rw [f_X12_laysOn_L160]
    refine jo_iload 2 d_X12_laysOn_160 rfl rfl ?_
    refine jo_aload 0 d_X12_laysOn_161 rfl rfl ?_
    refine jo_getR (k := 0) cl_12 (Nat.le_of_ble_eq_true rfl) lk_X12_7 rfl kc_167 kr_167_0 d_X12_laysOn_162 ?_
    refine jo_iconst 2 d_X12_laysOn_165 ?_
    refine jo_iald (N := 3160) kc_168 d_X12_laysOn_166 ?_
    refine jo_icmp_ge 181 d_X12_laysOn_167 (by decide) ?_ ?_
    · skip
      exact jO.sub (t_X12_laysOn_L181 hs n v1 M) (And.intro rfl (And.intro rfl True.intro))
    · skip
      refine jo_aload 0 d_X12_laysOn_170 rfl rfl ?_
      refine jo_iload 2 d_X12_laysOn_171 rfl rfl ?_
      refine jo_callV (st := []) (m_X12_getsOff hs n v2 M) ok_X12_getsOff (And.intro (Nat.le_of_ble_eq_true rfl) (Nat.le_of_ble_eq_true rfl)) lm_X12_318 in_X12_getsOff se_X12_getsOff rfl kc_167 rfl rfl (And.intro (Nat.zero_le _) (Nat.zero_le _)) rfl (Nat.le_of_ble_eq_true rfl) d_X12_laysOn_172 (fun _ M2 => ?_)
      refine jo_iinc 2 d_X12_laysOn_175 rfl (Nat.le_of_ble_eq_true rfl) (fun y3 => ?_)
      refine jo_goto 160 d_X12_laysOn_178 (by decide) ?_
      exact jO.sub (ih v1 y3 M2) (And.intro rfl (And.intro rfl (And.intro rfl True.intro)))
def f_X12_laysOn_L80 (n : Nat) (v1 : Int) (M : JMem) : Option (Int × JMem) := letv 0 fun y1 => f_X12_laysOn_L160 n n v1 y1 M
set_option maxRecDepth 4000 in
theorem t_X12_laysOn_L80 {g : JG} {ad : Nat → Nat} (hs : jStr g ad) (n : Nat) (v1 : Int) (M : JMem) : jB g D_X12_laysOn ad 80 [some (.ref 167), some (ji v1), none, none, none] [] M (f_X12_laysOn_L80 n v1 M) := by
  unfold f_X12_laysOn_L80
  refine jo_goto 158 d_X12_laysOn_80 (by decide) ?_
  refine jo_iconst 0 d_X12_laysOn_158 ?_
  refine jo_istore 2 d_X12_laysOn_159 rfl (Nat.le_of_ble_eq_true rfl) (fun y1 => ?_)
  exact jO.sub (t_X12_laysOn_L160 hs n n v1 y1 M) (And.intro rfl (And.intro rfl (And.intro rfl True.intro)))
def f_X12_laysOn_L149 (n : Nat) (r30 : Int → JMem → Option (Int × JMem)) (r102 : Int → Int → Int → Int → JMem → Option (Int × JMem)) (v1 v2 v3 v4 : Int) (M : JMem) : Option (Int × JMem) := letv (v4 + 1) fun y1 => r102 v1 v2 v3 y1 M
set_option maxRecDepth 4000 in
theorem t_X12_laysOn_L149 {g : JG} {ad : Nat → Nat} (hs : jStr g ad) (n : Nat) (r30 : Int → JMem → Option (Int × JMem)) (r102 : Int → Int → Int → Int → JMem → Option (Int × JMem)) (hr30 : ∀ (v1 : Int) (M : JMem), jB g D_X12_laysOn ad 30 [some (.ref 167), some (ji v1), none, none, none] [] M (r30 v1 M)) (hr102 : ∀ (v1 v2 v3 v4 : Int) (M : JMem), jB g D_X12_laysOn ad 102 [some (.ref 167), some (ji v1), some (ji v2), some (ji v3), some (ji v4)] [] M (r102 v1 v2 v3 v4 M)) (v1 v2 v3 v4 : Int) (M : JMem) : jB g D_X12_laysOn ad 149 [some (.ref 167), some (ji v1), some (ji v2), some (ji v3), some (ji v4)] [] M (f_X12_laysOn_L149 n r30 r102 v1 v2 v3 v4 M) := by
  unfold f_X12_laysOn_L149
  refine jo_iinc 4 d_X12_laysOn_149 rfl (Nat.le_of_ble_eq_true rfl) (fun y1 => ?_)
  refine jo_goto 102 d_X12_laysOn_152 (by decide) ?_
  exact jO.sub (hr102 v1 v2 v3 y1 M) (And.intro rfl (And.intro rfl (And.intro rfl (And.intro rfl (And.intro rfl True.intro)))))
def f_X12_laysOn_L155 (n : Nat) (r30 : Int → JMem → Option (Int × JMem)) (v1 : Int) (M : JMem) : Option (Int × JMem) := r30 v1 M
set_option maxRecDepth 4000 in
theorem t_X12_laysOn_L155 {g : JG} {ad : Nat → Nat} (hs : jStr g ad) (n : Nat) (r30 : Int → JMem → Option (Int × JMem)) (hr30 : ∀ (v1 : Int) (M : JMem), jB g D_X12_laysOn ad 30 [some (.ref 167), some (ji v1), none, none, none] [] M (r30 v1 M)) (v1 : Int) (M : JMem) : jB g D_X12_laysOn ad 155 [some (.ref 167), some (ji v1), none, none, none] [] M (f_X12_laysOn_L155 n r30 v1 M) := by
  unfold f_X12_laysOn_L155
  refine jo_goto 30 d_X12_laysOn_155 (by decide) ?_
  exact jO.sub (hr30 v1 M) (And.intro rfl (And.intro rfl True.intro))
def f_X12_laysOn_L102 (n : Nat) (r30 : Int → JMem → Option (Int × JMem)) : Nat → Int → Int → Int → Int → JMem → Option (Int × JMem)
  | 0, _, _, _, _, _ => none
  | k + 1, v1, v2, v3, v4, M => chk (jin 2 3160) <| if jw (M 168 (jw 2).toNat) ≤ jw v4 then (f_X12_laysOn_L155 n r30 v1 M) else (bnd (f_X12_isIn n v3 v4 M) fun r1 M2 => if jw r1 = 0 then (f_X12_laysOn_L149 n r30 (f_X12_laysOn_L102 n r30 k) v1 v2 v3 v4 M2) else (chk (jin v4 8) <| letm (jup M2 177 (jw v4).toNat v2) fun M3 => bnd (f_X12_beastOf n v4 9 M3) fun r4 M5 => chk (jin v4 8) <| letm (jup M5 178 (jw v4).toNat r4) fun M6 => f_X12_laysOn_L149 n r30 (f_X12_laysOn_L102 n r30 k) v1 v2 v3 v4 M6))
set_option maxRecDepth 4000 in
theorem t_X12_laysOn_L102 {g : JG} {ad : Nat → Nat} (hs : jStr g ad) (n : Nat) (r30 : Int → JMem → Option (Int × JMem)) (hr30 : ∀ (v1 : Int) (M : JMem), jB g D_X12_laysOn ad 30 [some (.ref 167), some (ji v1), none, none, none] [] M (r30 v1 M)) : ∀ (k : Nat) (v1 v2 v3 v4 : Int) (M : JMem), jB g D_X12_laysOn ad 102 [some (.ref 167), some (ji v1), some (ji v2), some (ji v3), some (ji v4)] [] M (f_X12_laysOn_L102 n r30 k v1 v2 v3 v4 M) := by
  intro k
  induction k with
  | zero => intro v1 v2 v3 v4 M; exact jO.none
  | succ k ih =>
    intro v1 v2 v3 v4 M
    rw [f_X12_laysOn_L102]
    refine jo_iloadW 4 d_X12_laysOn_102 rfl ?_
    refine jo_aload 0 d_X12_laysOn_104 rfl rfl ?_
    refine jo_getR (k := 0) cl_12 (Nat.le_of_ble_eq_true rfl) lk_X12_7 rfl kc_167 kr_167_0 d_X12_laysOn_105 ?_
    refine jo_iconst 2 d_X12_laysOn_108 ?_
    refine jo_iald (N := 3160) kc_168 d_X12_laysOn_109 ?_
    refine jo_icmp_ge 155 d_X12_laysOn_110 (by decide) ?_ ?_
    · skip
      exact jO.sub (t_X12_laysOn_L155 hs n r30 hr30 v1 M) (And.intro rfl (And.intro rfl True.intro))
    · skip
      refine jo_aload 0 d_X12_laysOn_113 rfl rfl ?_
      refine jo_iload 3 d_X12_laysOn_114 rfl rfl ?_
      refine jo_iloadW 4 d_X12_laysOn_115 rfl ?_
      refine jo_callV (st := []) (m_X12_isIn hs n v3 v4 M) ok_X12_isIn (And.intro (Nat.le_of_ble_eq_true rfl) (Nat.le_of_ble_eq_true rfl)) lm_X12_315 in_X12_isIn se_X12_isIn rfl kc_167 rfl rfl (And.intro (Nat.zero_le _) (Nat.zero_le _)) rfl (Nat.le_of_ble_eq_true rfl) d_X12_laysOn_117 (fun r1 M2 => ?_)
      refine jo_if_ne 126 d_X12_laysOn_120 (by decide) ?_ ?_
      · skip
        refine jo_aload 0 d_X12_laysOn_126 rfl rfl ?_
        refine jo_getR (k := 25) cl_12 (Nat.le_of_ble_eq_true rfl) lk_X12_50 rfl kc_167 kr_167_25 d_X12_laysOn_127 ?_
        refine jo_iloadW 4 d_X12_laysOn_130 rfl ?_
        refine jo_iload 2 d_X12_laysOn_132 rfl rfl ?_
        refine jo_iast (N := 8) kc_177 d_X12_laysOn_133 (fun M3 => ?_)
        refine jo_aload 0 d_X12_laysOn_134 rfl rfl ?_
        refine jo_getR (k := 26) cl_12 (Nat.le_of_ble_eq_true rfl) lk_X12_53 rfl kc_167 kr_167_26 d_X12_laysOn_135 ?_
        refine jo_iloadW 4 d_X12_laysOn_138 rfl ?_
        refine jo_aload 0 d_X12_laysOn_140 rfl rfl ?_
        refine jo_iloadW 4 d_X12_laysOn_141 rfl ?_
        refine jo_bipush 9 d_X12_laysOn_143 (by decide) ?_
        refine jo_callV (st := [ji v4, .ref 178]) (m_X12_beastOf hs n v4 9 M3) ok_X12_beastOf (And.intro (Nat.le_of_ble_eq_true rfl) (Nat.le_of_ble_eq_true rfl)) lm_X12_276 in_X12_beastOf se_X12_beastOf rfl kc_167 rfl rfl (And.intro (Nat.zero_le _) (Nat.zero_le _)) rfl (Nat.le_of_ble_eq_true rfl) d_X12_laysOn_145 (fun r4 M5 => ?_)
        refine jo_iast (N := 8) kc_178 d_X12_laysOn_148 (fun M6 => ?_)
        exact jO.sub (t_X12_laysOn_L149 hs n r30 (f_X12_laysOn_L102 n r30 k) hr30 ih v1 v2 v3 v4 M6) (And.intro rfl (And.intro rfl (And.intro rfl (And.intro rfl (And.intro rfl True.intro)))))
      · skip
        refine jo_goto 149 d_X12_laysOn_123 (by decide) ?_
        exact jO.sub (t_X12_laysOn_L149 hs n r30 (f_X12_laysOn_L102 n r30 k) hr30 ih v1 v2 v3 v4 M2) (And.intro rfl (And.intro rfl (And.intro rfl (And.intro rfl (And.intro rfl True.intro)))))
def f_X12_laysOn_L69 (n : Nat) (r30 : Int → JMem → Option (Int × JMem)) (v1 : Int) (M : JMem) : Option (Int × JMem) := chk (jin 5 3160) <| if jw (M 168 (jw 5).toNat) = jw 64 then (f_X12_laysOn_L80 n v1 M) else (chk (jin 5 3160) <| letv (M 168 (jw 5).toNat) fun y1 => bnd (f_X12_hourGoes n M) fun r2 M3 => letv r2 fun y4 => letv (jor v1 y4) fun y5 => letv 0 fun y6 => f_X12_laysOn_L102 n r30 n y5 y1 y4 y6 M3)
set_option maxRecDepth 4000 in
theorem t_X12_laysOn_L69 {g : JG} {ad : Nat → Nat} (hs : jStr g ad) (n : Nat) (r30 : Int → JMem → Option (Int × JMem)) (hr30 : ∀ (v1 : Int) (M : JMem), jB g D_X12_laysOn ad 30 [some (.ref 167), some (ji v1), none, none, none] [] M (r30 v1 M)) (v1 : Int) (M : JMem) : jB g D_X12_laysOn ad 69 [some (.ref 167), some (ji v1), none, none, none] [] M (f_X12_laysOn_L69 n r30 v1 M) := by
  unfold f_X12_laysOn_L69
  refine jo_aload 0 d_X12_laysOn_69 rfl rfl ?_
  refine jo_getR (k := 0) cl_12 (Nat.le_of_ble_eq_true rfl) lk_X12_7 rfl kc_167 kr_167_0 d_X12_laysOn_70 ?_
  refine jo_iconst 5 d_X12_laysOn_73 ?_
  refine jo_iald (N := 3160) kc_168 d_X12_laysOn_74 ?_
  refine jo_bipush 64 d_X12_laysOn_75 (by decide) ?_
  refine jo_icmp_ne 83 d_X12_laysOn_77 (by decide) ?_ ?_
  · skip
    refine jo_aload 0 d_X12_laysOn_83 rfl rfl ?_
    refine jo_getR (k := 0) cl_12 (Nat.le_of_ble_eq_true rfl) lk_X12_7 rfl kc_167 kr_167_0 d_X12_laysOn_84 ?_
    refine jo_iconst 5 d_X12_laysOn_87 ?_
    refine jo_iald (N := 3160) kc_168 d_X12_laysOn_88 ?_
    refine jo_istore 2 d_X12_laysOn_89 rfl (Nat.le_of_ble_eq_true rfl) (fun y1 => ?_)
    refine jo_aload 0 d_X12_laysOn_90 rfl rfl ?_
    refine jo_callV (st := []) (m_X12_hourGoes hs n M) ok_X12_hourGoes (And.intro (Nat.le_of_ble_eq_true rfl) (Nat.le_of_ble_eq_true rfl)) lm_X12_327 in_X12_hourGoes se_X12_hourGoes rfl kc_167 rfl rfl (And.intro (Nat.zero_le _) (Nat.zero_le _)) rfl (Nat.le_of_ble_eq_true rfl) d_X12_laysOn_91 (fun r2 M3 => ?_)
    refine jo_istore 3 d_X12_laysOn_94 rfl (Nat.le_of_ble_eq_true rfl) (fun y4 => ?_)
    refine jo_iload 1 d_X12_laysOn_95 rfl rfl ?_
    refine jo_iload 3 d_X12_laysOn_96 rfl rfl ?_
    refine jo_ior d_X12_laysOn_97 ?_
    refine jo_istore 1 d_X12_laysOn_98 rfl (Nat.le_of_ble_eq_true rfl) (fun y5 => ?_)
    refine jo_iconst 0 d_X12_laysOn_99 ?_
    refine jo_istoreW 4 d_X12_laysOn_100 (Nat.le_of_ble_eq_true rfl) (fun y6 => ?_)
    exact jO.sub (t_X12_laysOn_L102 hs n r30 hr30 n y5 y1 y4 y6 M3) (And.intro rfl (And.intro rfl (And.intro rfl (And.intro rfl (And.intro rfl True.intro)))))
  · skip
    exact jO.sub (t_X12_laysOn_L80 hs n v1 M) (And.intro rfl (And.intro rfl True.intro))
def f_X12_laysOn_L32 (n : Nat) (r30 : Int → JMem → Option (Int × JMem)) : Nat → Int → Int → JMem → Option (Int × JMem)
  | 0, _, _, _ => none
  | k + 1, v1, v2, M => chk (jin 2 3160) <| if jw (M 168 (jw 2).toNat) ≤ jw v2 then (f_X12_laysOn_L69 n r30 v1 M) else (chk (jin 5 3160) <| bnd (f_X12_whereOf n v2 M) fun r1 M2 => chk (jin ((8 * (M 168 (jw 5).toNat)) + v2) 520) <| letm (jup M2 176 (jw ((8 * (M 168 (jw 5).toNat)) + v2)).toNat r1) fun M3 => letv (v2 + 1) fun y4 => (f_X12_laysOn_L32 n r30 k) v1 y4 M3)
set_option maxRecDepth 4000 in
theorem t_X12_laysOn_L32 {g : JG} {ad : Nat → Nat} (hs : jStr g ad) (n : Nat) (r30 : Int → JMem → Option (Int × JMem)) (hr30 : ∀ (v1 : Int) (M : JMem), jB g D_X12_laysOn ad 30 [some (.ref 167), some (ji v1), none, none, none] [] M (r30 v1 M)) : ∀ (k : Nat) (v1 v2 : Int) (M : JMem), jB g D_X12_laysOn ad 32 [some (.ref 167), some (ji v1), some (ji v2), none, none] [] M (f_X12_laysOn_L32 n r30 k v1 v2 M) := by
  intro k
  induction k with
  | zero => intro v1 v2 M; exact jO.none
  | succ k ih =>
    intro v1 v2 M
    rw [f_X12_laysOn_L32]
    refine jo_iload 2 d_X12_laysOn_32 rfl rfl ?_
    refine jo_aload 0 d_X12_laysOn_33 rfl rfl ?_
    refine jo_getR (k := 0) cl_12 (Nat.le_of_ble_eq_true rfl) lk_X12_7 rfl kc_167 kr_167_0 d_X12_laysOn_34 ?_
    refine jo_iconst 2 d_X12_laysOn_37 ?_
    refine jo_iald (N := 3160) kc_168 d_X12_laysOn_38 ?_
    refine jo_icmp_ge 69 d_X12_laysOn_39 (by decide) ?_ ?_
    · skip
      exact jO.sub (t_X12_laysOn_L69 hs n r30 hr30 v1 M) (And.intro rfl (And.intro rfl True.intro))
    · skip
      refine jo_aload 0 d_X12_laysOn_42 rfl rfl ?_
      refine jo_getR (k := 24) cl_12 (Nat.le_of_ble_eq_true rfl) lk_X12_47 rfl kc_167 kr_167_24 d_X12_laysOn_43 ?_
      refine jo_bipush 8 d_X12_laysOn_46 (by decide) ?_
      refine jo_aload 0 d_X12_laysOn_48 rfl rfl ?_
      refine jo_getR (k := 0) cl_12 (Nat.le_of_ble_eq_true rfl) lk_X12_7 rfl kc_167 kr_167_0 d_X12_laysOn_49 ?_
      refine jo_iconst 5 d_X12_laysOn_52 ?_
      refine jo_iald (N := 3160) kc_168 d_X12_laysOn_53 ?_
      refine jo_imul d_X12_laysOn_54 ?_
      refine jo_iload 2 d_X12_laysOn_55 rfl rfl ?_
      refine jo_iadd d_X12_laysOn_56 ?_
      refine jo_aload 0 d_X12_laysOn_57 rfl rfl ?_
      refine jo_iload 2 d_X12_laysOn_58 rfl rfl ?_
      refine jo_callV (st := [ji ((8 * (M 168 (jw 5).toNat)) + v2), .ref 176]) (m_X12_whereOf hs n v2 M) ok_X12_whereOf (And.intro (Nat.le_of_ble_eq_true rfl) (Nat.le_of_ble_eq_true rfl)) lm_X12_282 in_X12_whereOf se_X12_whereOf rfl kc_167 rfl rfl (And.intro (Nat.zero_le _) (Nat.zero_le _)) rfl (Nat.le_of_ble_eq_true rfl) d_X12_laysOn_59 (fun r1 M2 => ?_)
      refine jo_iast (N := 520) kc_176 d_X12_laysOn_62 (fun M3 => ?_)
      refine jo_iinc 2 d_X12_laysOn_63 rfl (Nat.le_of_ble_eq_true rfl) (fun y4 => ?_)
      refine jo_goto 32 d_X12_laysOn_66 (by decide) ?_
      exact jO.sub (ih v1 y4 M3) (And.intro rfl (And.intro rfl (And.intro rfl True.intro)))
def f_X12_laysOn_L30 (n : Nat) : Nat → Int → JMem → Option (Int × JMem)
  | 0, _, _ => none
  | k + 1, v1, M => letv 0 fun y1 => f_X12_laysOn_L32 n (f_X12_laysOn_L30 n k) n v1 y1 M
set_option maxRecDepth 4000 in
theorem t_X12_laysOn_L30 {g : JG} {ad : Nat → Nat} (hs : jStr g ad) (n : Nat) : ∀ (k : Nat) (v1 : Int) (M : JMem), jB g D_X12_laysOn ad 30 [some (.ref 167), some (ji v1), none, none, none] [] M (f_X12_laysOn_L30 n k v1 M) := by
  intro k
  induction k with
  | zero => intro v1 M; exact jO.none
  | succ k ih =>
    intro v1 M
    rw [f_X12_laysOn_L30]
    refine jo_iconst 0 d_X12_laysOn_30 ?_
    refine jo_istore 2 d_X12_laysOn_31 rfl (Nat.le_of_ble_eq_true rfl) (fun y1 => ?_)
    exact jO.sub (t_X12_laysOn_L32 hs n (f_X12_laysOn_L30 n k) ih n v1 y1 M) (And.intro rfl (And.intro rfl (And.intro rfl True.intro)))
def f_X12_laysOn_L28 (n : Nat) (M : JMem) : Option (Int × JMem) := letv 0 fun y1 => f_X12_laysOn_L30 n n y1 M
set_option maxRecDepth 4000 in
theorem t_X12_laysOn_L28 {g : JG} {ad : Nat → Nat} (hs : jStr g ad) (n : Nat) (M : JMem) : jB g D_X12_laysOn ad 28 [some (.ref 167), none, none, none, none] [] M (f_X12_laysOn_L28 n M) := by
  unfold f_X12_laysOn_L28
  refine jo_iconst 0 d_X12_laysOn_28 ?_
  refine jo_istore 1 d_X12_laysOn_29 rfl (Nat.le_of_ble_eq_true rfl) (fun y1 => ?_)
  exact jO.sub (t_X12_laysOn_L30 hs n n y1 M) (And.intro rfl (And.intro rfl True.intro))
def f_X12_laysOn_L2 (n : Nat) : Nat → Int → JMem → Option (Int × JMem)
  | 0, _, _ => none
  | k + 1, v1, M => if jw 8 ≤ jw v1 then (f_X12_laysOn_L28 n M) else (chk (jin v1 8) <| letm (jup M 177 (jw v1).toNat (-1)) fun M1 => chk (jin v1 8) <| letm (jup M1 178 (jw v1).toNat (-1)) fun M2 => letv (v1 + 1) fun y3 => (f_X12_laysOn_L2 n k) y3 M2)
set_option maxRecDepth 4000 in
theorem t_X12_laysOn_L2 {g : JG} {ad : Nat → Nat} (hs : jStr g ad) (n : Nat) : ∀ (k : Nat) (v1 : Int) (M : JMem), jB g D_X12_laysOn ad 2 [some (.ref 167), some (ji v1), none, none, none] [] M (f_X12_laysOn_L2 n k v1 M) := by
  intro k
  induction k with
  | zero => intro v1 M; exact jO.none
  | succ k ih =>
    intro v1 M
    rw [f_X12_laysOn_L2]
    refine jo_iload 1 d_X12_laysOn_2 rfl rfl ?_
    refine jo_bipush 8 d_X12_laysOn_3 (by decide) ?_
    refine jo_icmp_ge 28 d_X12_laysOn_5 (by decide) ?_ ?_
    · skip
      exact jO.sub (t_X12_laysOn_L28 hs n M) (And.intro rfl True.intro)
    · skip
      refine jo_aload 0 d_X12_laysOn_8 rfl rfl ?_
      refine jo_getR (k := 25) cl_12 (Nat.le_of_ble_eq_true rfl) lk_X12_50 rfl kc_167 kr_167_25 d_X12_laysOn_9 ?_
      refine jo_iload 1 d_X12_laysOn_12 rfl rfl ?_
      refine jo_iconst (-1) d_X12_laysOn_13 ?_
      refine jo_iast (N := 8) kc_177 d_X12_laysOn_14 (fun M1 => ?_)
      refine jo_aload 0 d_X12_laysOn_15 rfl rfl ?_
      refine jo_getR (k := 26) cl_12 (Nat.le_of_ble_eq_true rfl) lk_X12_53 rfl kc_167 kr_167_26 d_X12_laysOn_16 ?_
      refine jo_iload 1 d_X12_laysOn_19 rfl rfl ?_
      refine jo_iconst (-1) d_X12_laysOn_20 ?_
      refine jo_iast (N := 8) kc_178 d_X12_laysOn_21 (fun M2 => ?_)
      refine jo_iinc 1 d_X12_laysOn_22 rfl (Nat.le_of_ble_eq_true rfl) (fun y3 => ?_)
      refine jo_goto 2 d_X12_laysOn_25 (by decide) ?_
      exact jO.sub (ih y3 M2) (And.intro rfl (And.intro rfl True.intro))
def f_X12_laysOn (n : Nat) (M : JMem) : Option (Int × JMem) := letv 0 fun y1 => f_X12_laysOn_L2 n n y1 M
set_option maxRecDepth 4000 in
theorem t_X12_laysOn {g : JG} {ad : Nat → Nat} (hs : jStr g ad) (n : Nat) (M : JMem) : jB g D_X12_laysOn ad 0 [some (.ref 167), none, none, none, none] [] M (f_X12_laysOn n M) := by
  unfold f_X12_laysOn
  refine jo_iconst 0 d_X12_laysOn_0 ?_
  refine jo_istore 1 d_X12_laysOn_1 rfl (Nat.le_of_ble_eq_true rfl) (fun y1 => ?_)
  exact jO.sub (t_X12_laysOn_L2 hs n n y1 M) (And.intro rfl (And.intro rfl True.intro))
theorem m_X12_laysOn {g : JG} {ad : Nat → Nat} (hs : jStr g ad) (n : Nat) (M : JMem) : jMet g jNN ad jR D_X12_laysOn yX12_laysOn [.ref 167] M (f_X12_laysOn n M) :=
  jMet.of (lo0 := [some (.ref 167), none, none, none, none]) (by decide) rfl rfl (Nat.le_of_ble_eq_true rfl) (And.intro rfl True.intro) (t_X12_laysOn hs n M)
/-! CageLeaveModel.laysWeek()V -/
def D_X12_laysWeek : JD := (RX12, cX12_laysWeek, 1, none, "laysWeek", { frames := 8, cells := 0, slots := 0, locals := 175 })
theorem ok_X12_laysWeek : jOk D_X12_laysWeek yX12_laysWeek 0 := ⟨jTW_mem (k := 1866) (by decide +kernel) rfl, jTW_mem (k := 151) (by decide +kernel) rfl, ⟨by decide +kernel, by decide +kernel⟩, by decide +kernel, rfl, rfl⟩
theorem in_X12_laysWeek : Cond.instanceMethod yX12_laysWeek ∈ jTW := jTW_mem (k := 1865) (by decide +kernel) rfl
theorem se_X12_laysWeek : Cond.selects yX12_laysWeek.cls yX12_laysWeek yX12_laysWeek ∈ jTW := jTW_mem (k := 105) (by decide +kernel) rfl
theorem lm_X12_357 : Cond.methodLink RX12 357 yX12_keeps ∈ jTW := jTW_mem (k := 1867) (by decide +kernel) rfl
theorem lm_X12_360 : Cond.methodLink RX12 360 yX12_laysOn ∈ jTW := jTW_mem (k := 1871) (by decide +kernel) rfl
theorem d_X12_laysWeek_0 : decode (D_X12_laysWeek).2.1 0 = .ok (.aload_n 0, 1) := by decide +kernel
theorem d_X12_laysWeek_1 : decode (D_X12_laysWeek).2.1 1 = .ok (.sipush 3024, 3) := by decide +kernel
theorem d_X12_laysWeek_4 : decode (D_X12_laysWeek).2.1 4 = .ok (.invokevirtual 357, 3) := by decide +kernel
theorem d_X12_laysWeek_7 : decode (D_X12_laysWeek).2.1 7 = .ok (.aload_n 0, 1) := by decide +kernel
theorem d_X12_laysWeek_8 : decode (D_X12_laysWeek).2.1 8 = .ok (.invokevirtual 360, 3) := by decide +kernel
theorem d_X12_laysWeek_11 : decode (D_X12_laysWeek).2.1 11 = .ok (.pop, 1) := by decide +kernel
theorem d_X12_laysWeek_12 : decode (D_X12_laysWeek).2.1 12 = .ok (.return_, 1) := by decide +kernel
def f_X12_laysWeek (n : Nat) (M : JMem) : Option (Int × JMem) := bnd (f_X12_keeps n 3024 M) fun _ M2 => bnd (f_X12_laysOn n M2) fun r3 M4 => some (0, M4)
set_option maxRecDepth 4000 in
theorem t_X12_laysWeek {g : JG} {ad : Nat → Nat} (hs : jStr g ad) (n : Nat) (M : JMem) : jB g D_X12_laysWeek ad 0 [some (.ref 167)] [] M (f_X12_laysWeek n M) := by
  unfold f_X12_laysWeek
  refine jo_aload 0 d_X12_laysWeek_0 rfl rfl ?_
  refine jo_sipush 3024 d_X12_laysWeek_1 (by decide) ?_
  refine jo_callV (st := []) (m_X12_keeps hs n 3024 M) ok_X12_keeps (And.intro (Nat.le_of_ble_eq_true rfl) (Nat.le_of_ble_eq_true rfl)) lm_X12_357 in_X12_keeps se_X12_keeps rfl kc_167 rfl rfl (And.intro (Nat.zero_le _) (Nat.zero_le _)) rfl (Nat.le_of_ble_eq_true rfl) d_X12_laysWeek_4 (fun _ M2 => ?_)
  refine jo_aload 0 d_X12_laysWeek_7 rfl rfl ?_
  refine jo_callV (st := []) (m_X12_laysOn hs n M2) ok_X12_laysOn (And.intro (Nat.le_of_ble_eq_true rfl) (Nat.le_of_ble_eq_true rfl)) lm_X12_360 in_X12_laysOn se_X12_laysOn rfl kc_167 rfl rfl (And.intro (Nat.zero_le _) (Nat.zero_le _)) rfl (Nat.le_of_ble_eq_true rfl) d_X12_laysWeek_8 (fun r3 M4 => ?_)
  refine jo_pop d_X12_laysWeek_11 rfl ?_
  exact jo_vret rfl d_X12_laysWeek_12
theorem m_X12_laysWeek {g : JG} {ad : Nat → Nat} (hs : jStr g ad) (n : Nat) (M : JMem) : jMet g jNN ad jR D_X12_laysWeek yX12_laysWeek [.ref 167] M (f_X12_laysWeek n M) :=
  jMet.of (lo0 := [some (.ref 167)]) (by decide) rfl rfl (Nat.le_of_ble_eq_true rfl) (And.intro rfl True.intro) (t_X12_laysWeek hs n M)
/-! CageLeaveModel.eatenAt(I)I -/
def D_X12_eatenAt : JD := (RX12, cX12_eatenAt, 2, some .int, "eatenAt", { frames := 9, cells := 0, slots := 0, locals := 195 })
theorem ok_X12_eatenAt : jOk D_X12_eatenAt yX12_eatenAt 1 := ⟨jTW_mem (k := 1882) (by decide +kernel) rfl, jTW_mem (k := 151) (by decide +kernel) rfl, ⟨by decide +kernel, by decide +kernel⟩, by decide +kernel, rfl, rfl⟩
theorem in_X12_eatenAt : Cond.instanceMethod yX12_eatenAt ∈ jTW := jTW_mem (k := 1880) (by decide +kernel) rfl
theorem se_X12_eatenAt : Cond.selects yX12_eatenAt.cls yX12_eatenAt yX12_eatenAt ∈ jTW := jTW_mem (k := 1881) (by decide +kernel) rfl
theorem lm_X12_363 : Cond.methodLink RX12 363 yX12_laysWeek ∈ jTW := jTW_mem (k := 1863) (by decide +kernel) rfl
theorem d_X12_eatenAt_0 : decode (D_X12_eatenAt).2.1 0 = .ok (.aload_n 0, 1) := by decide +kernel
theorem d_X12_eatenAt_1 : decode (D_X12_eatenAt).2.1 1 = .ok (.iload_n 1, 1) := by decide +kernel
theorem d_X12_eatenAt_2 : decode (D_X12_eatenAt).2.1 2 = .ok (.invokevirtual 263, 3) := by decide +kernel
theorem d_X12_eatenAt_5 : decode (D_X12_eatenAt).2.1 5 = .ok (.ifCond .ne 9, 3) := by decide +kernel
theorem d_X12_eatenAt_8 : decode (D_X12_eatenAt).2.1 8 = .ok (.aload_n 0, 1) := by decide +kernel
theorem d_X12_eatenAt_9 : decode (D_X12_eatenAt).2.1 9 = .ok (.iconst 1, 1) := by decide +kernel
theorem d_X12_eatenAt_10 : decode (D_X12_eatenAt).2.1 10 = .ok (.invokevirtual 87, 3) := by decide +kernel
theorem d_X12_eatenAt_13 : decode (D_X12_eatenAt).2.1 13 = .ok (.ireturn, 1) := by decide +kernel
theorem d_X12_eatenAt_14 : decode (D_X12_eatenAt).2.1 14 = .ok (.aload_n 0, 1) := by decide +kernel
theorem d_X12_eatenAt_15 : decode (D_X12_eatenAt).2.1 15 = .ok (.invokevirtual 363, 3) := by decide +kernel
theorem d_X12_eatenAt_18 : decode (D_X12_eatenAt).2.1 18 = .ok (.aload_n 0, 1) := by decide +kernel
theorem d_X12_eatenAt_19 : decode (D_X12_eatenAt).2.1 19 = .ok (.aload_n 0, 1) := by decide +kernel
theorem d_X12_eatenAt_20 : decode (D_X12_eatenAt).2.1 20 = .ok (.getfield 50, 3) := by decide +kernel
theorem d_X12_eatenAt_23 : decode (D_X12_eatenAt).2.1 23 = .ok (.iload_n 1, 1) := by decide +kernel
theorem d_X12_eatenAt_24 : decode (D_X12_eatenAt).2.1 24 = .ok (.iaload, 1) := by decide +kernel
theorem d_X12_eatenAt_25 : decode (D_X12_eatenAt).2.1 25 = .ok (.invokevirtual 303, 3) := by decide +kernel
theorem d_X12_eatenAt_28 : decode (D_X12_eatenAt).2.1 28 = .ok (.ireturn, 1) := by decide +kernel
def f_X12_eatenAt (n : Nat) (x1 : Int) (M : JMem) : Option (Int × JMem) := bnd (f_X12_isBeast n x1 M) fun r1 M2 => if jw r1 = 0 then (bnd (f_X12_refuse n 1 M2) fun r7 M8 => some (r7, M8)) else (bnd (f_X12_laysWeek n M2) fun _ M4 => chk (jin x1 8) <| bnd (f_X12_orNone n (M4 177 (jw x1).toNat) M4) fun r5 M6 => some (r5, M6))
set_option maxRecDepth 4000 in
theorem t_X12_eatenAt {g : JG} {ad : Nat → Nat} (hs : jStr g ad) (n : Nat) (x1 : Int) (M : JMem) : jB g D_X12_eatenAt ad 0 [some (.ref 167), some (ji x1)] [] M (f_X12_eatenAt n x1 M) := by
  unfold f_X12_eatenAt
  refine jo_aload 0 d_X12_eatenAt_0 rfl rfl ?_
  refine jo_iload 1 d_X12_eatenAt_1 rfl rfl ?_
  refine jo_callV (st := []) (m_X12_isBeast hs n x1 M) ok_X12_isBeast (And.intro (Nat.le_of_ble_eq_true rfl) (Nat.le_of_ble_eq_true rfl)) lm_X12_263 in_X12_isBeast se_X12_isBeast rfl kc_167 rfl rfl (And.intro (Nat.zero_le _) (Nat.zero_le _)) rfl (Nat.le_of_ble_eq_true rfl) d_X12_eatenAt_2 (fun r1 M2 => ?_)
  refine jo_if_ne 14 d_X12_eatenAt_5 (by decide) ?_ ?_
  · skip
    refine jo_aload 0 d_X12_eatenAt_14 rfl rfl ?_
    refine jo_callV (st := []) (m_X12_laysWeek hs n M2) ok_X12_laysWeek (And.intro (Nat.le_of_ble_eq_true rfl) (Nat.le_of_ble_eq_true rfl)) lm_X12_363 in_X12_laysWeek se_X12_laysWeek rfl kc_167 rfl rfl (And.intro (Nat.zero_le _) (Nat.zero_le _)) rfl (Nat.le_of_ble_eq_true rfl) d_X12_eatenAt_15 (fun _ M4 => ?_)
    refine jo_aload 0 d_X12_eatenAt_18 rfl rfl ?_
    refine jo_aload 0 d_X12_eatenAt_19 rfl rfl ?_
    refine jo_getR (k := 25) cl_12 (Nat.le_of_ble_eq_true rfl) lk_X12_50 rfl kc_167 kr_167_25 d_X12_eatenAt_20 ?_
    refine jo_iload 1 d_X12_eatenAt_23 rfl rfl ?_
    refine jo_iald (N := 8) kc_177 d_X12_eatenAt_24 ?_
    refine jo_callV (st := []) (m_X12_orNone hs n (M4 177 (jw x1).toNat) M4) ok_X12_orNone (And.intro (Nat.le_of_ble_eq_true rfl) (Nat.le_of_ble_eq_true rfl)) lm_X12_303 in_X12_orNone se_X12_orNone rfl kc_167 rfl rfl (And.intro (Nat.zero_le _) (Nat.zero_le _)) rfl (Nat.le_of_ble_eq_true rfl) d_X12_eatenAt_25 (fun r5 M6 => ?_)
    exact jo_iret rfl d_X12_eatenAt_28
  · skip
    refine jo_aload 0 d_X12_eatenAt_8 rfl rfl ?_
    refine jo_iconst 1 d_X12_eatenAt_9 ?_
    refine jo_callV (st := []) (m_X12_refuse hs n 1 M2) ok_X12_refuse (And.intro (Nat.le_of_ble_eq_true rfl) (Nat.le_of_ble_eq_true rfl)) lm_X12_87 in_X12_refuse se_X12_refuse rfl kc_167 rfl rfl (And.intro (Nat.zero_le _) (Nat.zero_le _)) rfl (Nat.le_of_ble_eq_true rfl) d_X12_eatenAt_10 (fun r7 M8 => ?_)
    exact jo_iret rfl d_X12_eatenAt_13
theorem m_X12_eatenAt {g : JG} {ad : Nat → Nat} (hs : jStr g ad) (n : Nat) (x1 : Int) (M : JMem) : jMet g jNN ad jR D_X12_eatenAt yX12_eatenAt [.ref 167, ji x1] M (f_X12_eatenAt n x1 M) :=
  jMet.of (lo0 := [some (.ref 167), some (ji x1)]) (by decide) rfl rfl (Nat.le_of_ble_eq_true rfl) (And.intro rfl (And.intro rfl True.intro)) (t_X12_eatenAt hs n x1 M)
/-! CageLeaveModel.lettingOut(I)I -/
def D_X12_lettingOut : JD := (RX12, cX12_lettingOut, 3, some .int, "lettingOut", { frames := 8, cells := 0, slots := 0, locals := 175 })
theorem ok_X12_lettingOut : jOk D_X12_lettingOut yX12_lettingOut 1 := ⟨jTW_mem (k := 1910) (by decide +kernel) rfl, jTW_mem (k := 151) (by decide +kernel) rfl, ⟨by decide +kernel, by decide +kernel⟩, by decide +kernel, rfl, rfl⟩
theorem in_X12_lettingOut : Cond.instanceMethod yX12_lettingOut ∈ jTW := jTW_mem (k := 1909) (by decide +kernel) rfl
theorem se_X12_lettingOut : Cond.selects yX12_lettingOut.cls yX12_lettingOut yX12_lettingOut ∈ jTW := jTW_mem (k := 111) (by decide +kernel) rfl
theorem d_X12_lettingOut_0 : decode (D_X12_lettingOut).2.1 0 = .ok (.aload_n 0, 1) := by decide +kernel
theorem d_X12_lettingOut_1 : decode (D_X12_lettingOut).2.1 1 = .ok (.sipush 3024, 3) := by decide +kernel
theorem d_X12_lettingOut_4 : decode (D_X12_lettingOut).2.1 4 = .ok (.invokevirtual 357, 3) := by decide +kernel
theorem d_X12_lettingOut_7 : decode (D_X12_lettingOut).2.1 7 = .ok (.aload_n 0, 1) := by decide +kernel
theorem d_X12_lettingOut_8 : decode (D_X12_lettingOut).2.1 8 = .ok (.getfield 7, 3) := by decide +kernel
theorem d_X12_lettingOut_11 : decode (D_X12_lettingOut).2.1 11 = .ok (.iconst 5, 1) := by decide +kernel
theorem d_X12_lettingOut_12 : decode (D_X12_lettingOut).2.1 12 = .ok (.iconst 0, 1) := by decide +kernel
theorem d_X12_lettingOut_13 : decode (D_X12_lettingOut).2.1 13 = .ok (.iastore, 1) := by decide +kernel
theorem d_X12_lettingOut_14 : decode (D_X12_lettingOut).2.1 14 = .ok (.iconst 0, 1) := by decide +kernel
theorem d_X12_lettingOut_15 : decode (D_X12_lettingOut).2.1 15 = .ok (.istore_n 2, 1) := by decide +kernel
theorem d_X12_lettingOut_16 : decode (D_X12_lettingOut).2.1 16 = .ok (.iload_n 2, 1) := by decide +kernel
theorem d_X12_lettingOut_17 : decode (D_X12_lettingOut).2.1 17 = .ok (.aload_n 0, 1) := by decide +kernel
theorem d_X12_lettingOut_18 : decode (D_X12_lettingOut).2.1 18 = .ok (.getfield 7, 3) := by decide +kernel
theorem d_X12_lettingOut_21 : decode (D_X12_lettingOut).2.1 21 = .ok (.iconst 2, 1) := by decide +kernel
theorem d_X12_lettingOut_22 : decode (D_X12_lettingOut).2.1 22 = .ok (.iaload, 1) := by decide +kernel
theorem d_X12_lettingOut_23 : decode (D_X12_lettingOut).2.1 23 = .ok (.if_icmp .ge 47, 3) := by decide +kernel
theorem d_X12_lettingOut_26 : decode (D_X12_lettingOut).2.1 26 = .ok (.aload_n 0, 1) := by decide +kernel
theorem d_X12_lettingOut_27 : decode (D_X12_lettingOut).2.1 27 = .ok (.getfield 7, 3) := by decide +kernel
theorem d_X12_lettingOut_30 : decode (D_X12_lettingOut).2.1 30 = .ok (.iload_n 2, 1) := by decide +kernel
theorem d_X12_lettingOut_31 : decode (D_X12_lettingOut).2.1 31 = .ok (.invokestatic 270, 3) := by decide +kernel
theorem d_X12_lettingOut_34 : decode (D_X12_lettingOut).2.1 34 = .ok (.bipush 7, 2) := by decide +kernel
theorem d_X12_lettingOut_36 : decode (D_X12_lettingOut).2.1 36 = .ok (.iadd, 1) := by decide +kernel
theorem d_X12_lettingOut_37 : decode (D_X12_lettingOut).2.1 37 = .ok (.iconst 0, 1) := by decide +kernel
theorem d_X12_lettingOut_38 : decode (D_X12_lettingOut).2.1 38 = .ok (.iastore, 1) := by decide +kernel
theorem d_X12_lettingOut_39 : decode (D_X12_lettingOut).2.1 39 = .ok (.aload_n 0, 1) := by decide +kernel
theorem d_X12_lettingOut_40 : decode (D_X12_lettingOut).2.1 40 = .ok (.getfield 7, 3) := by decide +kernel
theorem d_X12_lettingOut_43 : decode (D_X12_lettingOut).2.1 43 = .ok (.iload_n 2, 1) := by decide +kernel
theorem d_X12_lettingOut_44 : decode (D_X12_lettingOut).2.1 44 = .ok (.invokestatic 270, 3) := by decide +kernel
theorem d_X12_lettingOut_47 : decode (D_X12_lettingOut).2.1 47 = .ok (.iconst 2, 1) := by decide +kernel
theorem d_X12_lettingOut_48 : decode (D_X12_lettingOut).2.1 48 = .ok (.iadd, 1) := by decide +kernel
theorem d_X12_lettingOut_49 : decode (D_X12_lettingOut).2.1 49 = .ok (.aload_n 0, 1) := by decide +kernel
theorem d_X12_lettingOut_50 : decode (D_X12_lettingOut).2.1 50 = .ok (.iload_n 1, 1) := by decide +kernel
theorem d_X12_lettingOut_51 : decode (D_X12_lettingOut).2.1 51 = .ok (.iload_n 2, 1) := by decide +kernel
theorem d_X12_lettingOut_52 : decode (D_X12_lettingOut).2.1 52 = .ok (.invokevirtual 315, 3) := by decide +kernel
theorem d_X12_lettingOut_55 : decode (D_X12_lettingOut).2.1 55 = .ok (.ifCond .eq 7, 3) := by decide +kernel
theorem d_X12_lettingOut_58 : decode (D_X12_lettingOut).2.1 58 = .ok (.iconst 1, 1) := by decide +kernel
theorem d_X12_lettingOut_59 : decode (D_X12_lettingOut).2.1 59 = .ok (.goto 4, 3) := by decide +kernel
theorem d_X12_lettingOut_62 : decode (D_X12_lettingOut).2.1 62 = .ok (.iconst 0, 1) := by decide +kernel
theorem d_X12_lettingOut_63 : decode (D_X12_lettingOut).2.1 63 = .ok (.iastore, 1) := by decide +kernel
theorem d_X12_lettingOut_64 : decode (D_X12_lettingOut).2.1 64 = .ok (.iinc 2 1, 3) := by decide +kernel
theorem d_X12_lettingOut_67 : decode (D_X12_lettingOut).2.1 67 = .ok (.goto (-51), 3) := by decide +kernel
theorem d_X12_lettingOut_70 : decode (D_X12_lettingOut).2.1 70 = .ok (.aload_n 0, 1) := by decide +kernel
theorem d_X12_lettingOut_71 : decode (D_X12_lettingOut).2.1 71 = .ok (.invokevirtual 360, 3) := by decide +kernel
theorem d_X12_lettingOut_74 : decode (D_X12_lettingOut).2.1 74 = .ok (.ireturn, 1) := by decide +kernel
def f_X12_lettingOut_L63 (n : Nat) (r16 : Int → Int → JMem → Option (Int × JMem)) (v1 v2 w1 w2 : Int) (M : JMem) : Option (Int × JMem) := chk (jin w1 3160) <| letm (jup M 168 (jw w1).toNat w2) fun M1 => letv (v2 + 1) fun y2 => r16 v1 y2 M1
set_option maxRecDepth 4000 in
theorem t_X12_lettingOut_L63 {g : JG} {ad : Nat → Nat} (hs : jStr g ad) (n : Nat) (r16 : Int → Int → JMem → Option (Int × JMem)) (hr16 : ∀ (v1 v2 : Int) (M : JMem), jB g D_X12_lettingOut ad 16 [some (.ref 167), some (ji v1), some (ji v2)] [] M (r16 v1 v2 M)) (v1 v2 w1 w2 : Int) (M : JMem) : jB g D_X12_lettingOut ad 63 [some (.ref 167), some (ji v1), some (ji v2)] [ji w2, ji w1, .ref 168] M (f_X12_lettingOut_L63 n r16 v1 v2 w1 w2 M) := by
  unfold f_X12_lettingOut_L63
  refine jo_iast (N := 3160) kc_168 d_X12_lettingOut_63 (fun M1 => ?_)
  refine jo_iinc 2 d_X12_lettingOut_64 rfl (Nat.le_of_ble_eq_true rfl) (fun y2 => ?_)
  refine jo_goto 16 d_X12_lettingOut_67 (by decide) ?_
  exact jO.sub (hr16 v1 y2 M1) (And.intro rfl (And.intro rfl (And.intro rfl True.intro)))
def f_X12_lettingOut_L70 (n : Nat) (M : JMem) : Option (Int × JMem) := bnd (f_X12_laysOn n M) fun r1 M2 => some (r1, M2)
set_option maxRecDepth 4000 in
theorem t_X12_lettingOut_L70 {g : JG} {ad : Nat → Nat} (hs : jStr g ad) (n : Nat) (M : JMem) : jB g D_X12_lettingOut ad 70 [some (.ref 167), none, none] [] M (f_X12_lettingOut_L70 n M) := by
  unfold f_X12_lettingOut_L70
  refine jo_aload 0 d_X12_lettingOut_70 rfl rfl ?_
  refine jo_callV (st := []) (m_X12_laysOn hs n M) ok_X12_laysOn (And.intro (Nat.le_of_ble_eq_true rfl) (Nat.le_of_ble_eq_true rfl)) lm_X12_360 in_X12_laysOn se_X12_laysOn rfl kc_167 rfl rfl (And.intro (Nat.zero_le _) (Nat.zero_le _)) rfl (Nat.le_of_ble_eq_true rfl) d_X12_lettingOut_71 (fun r1 M2 => ?_)
  exact jo_iret rfl d_X12_lettingOut_74
def f_X12_lettingOut_L16 (n : Nat) : Nat → Int → Int → JMem → Option (Int × JMem)
  | 0, _, _, _ => none
  | k + 1, v1, v2, M => chk (jin 2 3160) <| if jw (M 168 (jw 2).toNat) ≤ jw v2 then (f_X12_lettingOut_L70 n M) else (bnd (f_X12_beastRow n v2 M) fun r1 M2 => chk (jin (r1 + 7) 3160) <| letm (jup M2 168 (jw (r1 + 7)).toNat 0) fun M3 => bnd (f_X12_beastRow n v2 M3) fun r4 M5 => bnd (f_X12_isIn n v1 v2 M5) fun r6 M7 => if jw r6 = 0 then (f_X12_lettingOut_L63 n (f_X12_lettingOut_L16 n k) v1 v2 (r4 + 2) 0 M7) else (f_X12_lettingOut_L63 n (f_X12_lettingOut_L16 n k) v1 v2 (r4 + 2) 1 M7))
set_option maxRecDepth 4000 in
theorem t_X12_lettingOut_L16 {g : JG} {ad : Nat → Nat} (hs : jStr g ad) (n : Nat) : ∀ (k : Nat) (v1 v2 : Int) (M : JMem), jB g D_X12_lettingOut ad 16 [some (.ref 167), some (ji v1), some (ji v2)] [] M (f_X12_lettingOut_L16 n k v1 v2 M) := by
  intro k
  induction k with
  | zero => intro v1 v2 M; exact jO.none
  | succ k ih =>
    intro v1 v2 M
    rw [f_X12_lettingOut_L16]
    refine jo_iload 2 d_X12_lettingOut_16 rfl rfl ?_
    refine jo_aload 0 d_X12_lettingOut_17 rfl rfl ?_
    refine jo_getR (k := 0) cl_12 (Nat.le_of_ble_eq_true rfl) lk_X12_7 rfl kc_167 kr_167_0 d_X12_lettingOut_18 ?_
    refine jo_iconst 2 d_X12_lettingOut_21 ?_
    refine jo_iald (N := 3160) kc_168 d_X12_lettingOut_22 ?_
    refine jo_icmp_ge 70 d_X12_lettingOut_23 (by decide) ?_ ?_
    · skip
      exact jO.sub (t_X12_lettingOut_L70 hs n M) (And.intro rfl True.intro)
    · skip
      refine jo_aload 0 d_X12_lettingOut_26 rfl rfl ?_
      refine jo_getR (k := 0) cl_12 (Nat.le_of_ble_eq_true rfl) lk_X12_7 rfl kc_167 kr_167_0 d_X12_lettingOut_27 ?_
      refine jo_iload 2 d_X12_lettingOut_30 rfl rfl ?_
      refine jo_callS (st := [.ref 168]) (m_X12_beastRow hs n v2 M) ok_X12_beastRow (And.intro (Nat.le_of_ble_eq_true rfl) (Nat.le_of_ble_eq_true rfl)) lm_X12_270 st_X12_beastRow rfl (And.intro (Nat.zero_le _) (Nat.zero_le _)) rfl (Nat.le_of_ble_eq_true rfl) d_X12_lettingOut_31 (fun r1 M2 => ?_)
      refine jo_bipush 7 d_X12_lettingOut_34 (by decide) ?_
      refine jo_iadd d_X12_lettingOut_36 ?_
      refine jo_iconst 0 d_X12_lettingOut_37 ?_
      refine jo_iast (N := 3160) kc_168 d_X12_lettingOut_38 (fun M3 => ?_)
      refine jo_aload 0 d_X12_lettingOut_39 rfl rfl ?_
      refine jo_getR (k := 0) cl_12 (Nat.le_of_ble_eq_true rfl) lk_X12_7 rfl kc_167 kr_167_0 d_X12_lettingOut_40 ?_
      refine jo_iload 2 d_X12_lettingOut_43 rfl rfl ?_
      refine jo_callS (st := [.ref 168]) (m_X12_beastRow hs n v2 M3) ok_X12_beastRow (And.intro (Nat.le_of_ble_eq_true rfl) (Nat.le_of_ble_eq_true rfl)) lm_X12_270 st_X12_beastRow rfl (And.intro (Nat.zero_le _) (Nat.zero_le _)) rfl (Nat.le_of_ble_eq_true rfl) d_X12_lettingOut_44 (fun r4 M5 => ?_)
      refine jo_iconst 2 d_X12_lettingOut_47 ?_
      refine jo_iadd d_X12_lettingOut_48 ?_
      refine jo_aload 0 d_X12_lettingOut_49 rfl rfl ?_
      refine jo_iload 1 d_X12_lettingOut_50 rfl rfl ?_
      refine jo_iload 2 d_X12_lettingOut_51 rfl rfl ?_
      refine jo_callV (st := [ji (r4 + 2), .ref 168]) (m_X12_isIn hs n v1 v2 M5) ok_X12_isIn (And.intro (Nat.le_of_ble_eq_true rfl) (Nat.le_of_ble_eq_true rfl)) lm_X12_315 in_X12_isIn se_X12_isIn rfl kc_167 rfl rfl (And.intro (Nat.zero_le _) (Nat.zero_le _)) rfl (Nat.le_of_ble_eq_true rfl) d_X12_lettingOut_52 (fun r6 M7 => ?_)
      refine jo_if_eq 62 d_X12_lettingOut_55 (by decide) ?_ ?_
      · skip
        refine jo_iconst 0 d_X12_lettingOut_62 ?_
        exact jO.sub (t_X12_lettingOut_L63 hs n (f_X12_lettingOut_L16 n k) ih v1 v2 (r4 + 2) 0 M7) (And.intro rfl (And.intro rfl (And.intro rfl True.intro)))
      · skip
        refine jo_iconst 1 d_X12_lettingOut_58 ?_
        refine jo_goto 63 d_X12_lettingOut_59 (by decide) ?_
        exact jO.sub (t_X12_lettingOut_L63 hs n (f_X12_lettingOut_L16 n k) ih v1 v2 (r4 + 2) 1 M7) (And.intro rfl (And.intro rfl (And.intro rfl True.intro)))
def f_X12_lettingOut (n : Nat) (x1 : Int) (M : JMem) : Option (Int × JMem) := bnd (f_X12_keeps n 3024 M) fun _ M2 => chk (jin 5 3160) <| letm (jup M2 168 (jw 5).toNat 0) fun M3 => letv 0 fun y4 => f_X12_lettingOut_L16 n n x1 y4 M3
set_option maxRecDepth 4000 in
theorem t_X12_lettingOut {g : JG} {ad : Nat → Nat} (hs : jStr g ad) (n : Nat) (x1 : Int) (M : JMem) : jB g D_X12_lettingOut ad 0 [some (.ref 167), some (ji x1), none] [] M (f_X12_lettingOut n x1 M) := by
  unfold f_X12_lettingOut
  refine jo_aload 0 d_X12_lettingOut_0 rfl rfl ?_
  refine jo_sipush 3024 d_X12_lettingOut_1 (by decide) ?_
  refine jo_callV (st := []) (m_X12_keeps hs n 3024 M) ok_X12_keeps (And.intro (Nat.le_of_ble_eq_true rfl) (Nat.le_of_ble_eq_true rfl)) lm_X12_357 in_X12_keeps se_X12_keeps rfl kc_167 rfl rfl (And.intro (Nat.zero_le _) (Nat.zero_le _)) rfl (Nat.le_of_ble_eq_true rfl) d_X12_lettingOut_4 (fun _ M2 => ?_)
  refine jo_aload 0 d_X12_lettingOut_7 rfl rfl ?_
  refine jo_getR (k := 0) cl_12 (Nat.le_of_ble_eq_true rfl) lk_X12_7 rfl kc_167 kr_167_0 d_X12_lettingOut_8 ?_
  refine jo_iconst 5 d_X12_lettingOut_11 ?_
  refine jo_iconst 0 d_X12_lettingOut_12 ?_
  refine jo_iast (N := 3160) kc_168 d_X12_lettingOut_13 (fun M3 => ?_)
  refine jo_iconst 0 d_X12_lettingOut_14 ?_
  refine jo_istore 2 d_X12_lettingOut_15 rfl (Nat.le_of_ble_eq_true rfl) (fun y4 => ?_)
  exact jO.sub (t_X12_lettingOut_L16 hs n n x1 y4 M3) (And.intro rfl (And.intro rfl (And.intro rfl True.intro)))
theorem m_X12_lettingOut {g : JG} {ad : Nat → Nat} (hs : jStr g ad) (n : Nat) (x1 : Int) (M : JMem) : jMet g jNN ad jR D_X12_lettingOut yX12_lettingOut [.ref 167, ji x1] M (f_X12_lettingOut n x1 M) :=
  jMet.of (lo0 := [some (.ref 167), some (ji x1), none]) (by decide) rfl rfl (Nat.le_of_ble_eq_true rfl) (And.intro rfl (And.intro rfl True.intro)) (t_X12_lettingOut hs n x1 M)
/-! CageLeaveModel.eatenBy(I)I -/
def D_X12_eatenBy : JD := (RX12, cX12_eatenBy, 2, some .int, "eatenBy", { frames := 9, cells := 0, slots := 0, locals := 197 })
theorem ok_X12_eatenBy : jOk D_X12_eatenBy yX12_eatenBy 1 := ⟨jTW_mem (k := 1914) (by decide +kernel) rfl, jTW_mem (k := 151) (by decide +kernel) rfl, ⟨by decide +kernel, by decide +kernel⟩, by decide +kernel, rfl, rfl⟩
theorem in_X12_eatenBy : Cond.instanceMethod yX12_eatenBy ∈ jTW := jTW_mem (k := 1912) (by decide +kernel) rfl
theorem se_X12_eatenBy : Cond.selects yX12_eatenBy.cls yX12_eatenBy yX12_eatenBy ∈ jTW := jTW_mem (k := 1913) (by decide +kernel) rfl
theorem lm_X12_369 : Cond.methodLink RX12 369 yX12_areAlive ∈ jTW := jTW_mem (k := 1903) (by decide +kernel) rfl
theorem lm_X12_372 : Cond.methodLink RX12 372 yX12_lettingOut ∈ jTW := jTW_mem (k := 1907) (by decide +kernel) rfl
theorem d_X12_eatenBy_0 : decode (D_X12_eatenBy).2.1 0 = .ok (.aload_n 0, 1) := by decide +kernel
theorem d_X12_eatenBy_1 : decode (D_X12_eatenBy).2.1 1 = .ok (.iload_n 1, 1) := by decide +kernel
theorem d_X12_eatenBy_2 : decode (D_X12_eatenBy).2.1 2 = .ok (.invokevirtual 366, 3) := by decide +kernel
theorem d_X12_eatenBy_5 : decode (D_X12_eatenBy).2.1 5 = .ok (.ifCond .ne 9, 3) := by decide +kernel
theorem d_X12_eatenBy_8 : decode (D_X12_eatenBy).2.1 8 = .ok (.aload_n 0, 1) := by decide +kernel
theorem d_X12_eatenBy_9 : decode (D_X12_eatenBy).2.1 9 = .ok (.iconst 1, 1) := by decide +kernel
theorem d_X12_eatenBy_10 : decode (D_X12_eatenBy).2.1 10 = .ok (.invokevirtual 87, 3) := by decide +kernel
theorem d_X12_eatenBy_13 : decode (D_X12_eatenBy).2.1 13 = .ok (.ireturn, 1) := by decide +kernel
theorem d_X12_eatenBy_14 : decode (D_X12_eatenBy).2.1 14 = .ok (.aload_n 0, 1) := by decide +kernel
theorem d_X12_eatenBy_15 : decode (D_X12_eatenBy).2.1 15 = .ok (.iload_n 1, 1) := by decide +kernel
theorem d_X12_eatenBy_16 : decode (D_X12_eatenBy).2.1 16 = .ok (.invokevirtual 369, 3) := by decide +kernel
theorem d_X12_eatenBy_19 : decode (D_X12_eatenBy).2.1 19 = .ok (.ifCond .eq 15, 3) := by decide +kernel
theorem d_X12_eatenBy_22 : decode (D_X12_eatenBy).2.1 22 = .ok (.aload_n 0, 1) := by decide +kernel
theorem d_X12_eatenBy_23 : decode (D_X12_eatenBy).2.1 23 = .ok (.aload_n 0, 1) := by decide +kernel
theorem d_X12_eatenBy_24 : decode (D_X12_eatenBy).2.1 24 = .ok (.iload_n 1, 1) := by decide +kernel
theorem d_X12_eatenBy_25 : decode (D_X12_eatenBy).2.1 25 = .ok (.invokevirtual 372, 3) := by decide +kernel
theorem d_X12_eatenBy_28 : decode (D_X12_eatenBy).2.1 28 = .ok (.invokevirtual 91, 3) := by decide +kernel
theorem d_X12_eatenBy_31 : decode (D_X12_eatenBy).2.1 31 = .ok (.goto 9, 3) := by decide +kernel
theorem d_X12_eatenBy_34 : decode (D_X12_eatenBy).2.1 34 = .ok (.aload_n 0, 1) := by decide +kernel
theorem d_X12_eatenBy_35 : decode (D_X12_eatenBy).2.1 35 = .ok (.bipush 7, 2) := by decide +kernel
theorem d_X12_eatenBy_37 : decode (D_X12_eatenBy).2.1 37 = .ok (.invokevirtual 87, 3) := by decide +kernel
theorem d_X12_eatenBy_40 : decode (D_X12_eatenBy).2.1 40 = .ok (.ireturn, 1) := by decide +kernel
def f_X12_eatenBy (n : Nat) (x1 : Int) (M : JMem) : Option (Int × JMem) := bnd (f_X12_areBeasts n x1 M) fun r1 M2 => if jw r1 = 0 then (bnd (f_X12_refuse n 1 M2) fun r11 M12 => some (r11, M12)) else (bnd (f_X12_areAlive n x1 M2) fun r3 M4 => if jw r3 = 0 then (bnd (f_X12_refuse n 7 M4) fun r5 M6 => some (r5, M6)) else (bnd (f_X12_lettingOut n x1 M4) fun r7 M8 => bnd (f_X12_gives n r7 M8) fun r9 M10 => some (r9, M10)))
set_option maxRecDepth 4000 in
theorem t_X12_eatenBy {g : JG} {ad : Nat → Nat} (hs : jStr g ad) (n : Nat) (x1 : Int) (M : JMem) : jB g D_X12_eatenBy ad 0 [some (.ref 167), some (ji x1)] [] M (f_X12_eatenBy n x1 M) := by
  unfold f_X12_eatenBy
  refine jo_aload 0 d_X12_eatenBy_0 rfl rfl ?_
  refine jo_iload 1 d_X12_eatenBy_1 rfl rfl ?_
  refine jo_callV (st := []) (m_X12_areBeasts hs n x1 M) ok_X12_areBeasts (And.intro (Nat.le_of_ble_eq_true rfl) (Nat.le_of_ble_eq_true rfl)) lm_X12_366 in_X12_areBeasts se_X12_areBeasts rfl kc_167 rfl rfl (And.intro (Nat.zero_le _) (Nat.zero_le _)) rfl (Nat.le_of_ble_eq_true rfl) d_X12_eatenBy_2 (fun r1 M2 => ?_)
  refine jo_if_ne 14 d_X12_eatenBy_5 (by decide) ?_ ?_
  · skip
    refine jo_aload 0 d_X12_eatenBy_14 rfl rfl ?_
    refine jo_iload 1 d_X12_eatenBy_15 rfl rfl ?_
    refine jo_callV (st := []) (m_X12_areAlive hs n x1 M2) ok_X12_areAlive (And.intro (Nat.le_of_ble_eq_true rfl) (Nat.le_of_ble_eq_true rfl)) lm_X12_369 in_X12_areAlive se_X12_areAlive rfl kc_167 rfl rfl (And.intro (Nat.zero_le _) (Nat.zero_le _)) rfl (Nat.le_of_ble_eq_true rfl) d_X12_eatenBy_16 (fun r3 M4 => ?_)
    refine jo_if_eq 34 d_X12_eatenBy_19 (by decide) ?_ ?_
    · skip
      refine jo_aload 0 d_X12_eatenBy_34 rfl rfl ?_
      refine jo_bipush 7 d_X12_eatenBy_35 (by decide) ?_
      refine jo_callV (st := []) (m_X12_refuse hs n 7 M4) ok_X12_refuse (And.intro (Nat.le_of_ble_eq_true rfl) (Nat.le_of_ble_eq_true rfl)) lm_X12_87 in_X12_refuse se_X12_refuse rfl kc_167 rfl rfl (And.intro (Nat.zero_le _) (Nat.zero_le _)) rfl (Nat.le_of_ble_eq_true rfl) d_X12_eatenBy_37 (fun r5 M6 => ?_)
      exact jo_iret rfl d_X12_eatenBy_40
    · skip
      refine jo_aload 0 d_X12_eatenBy_22 rfl rfl ?_
      refine jo_aload 0 d_X12_eatenBy_23 rfl rfl ?_
      refine jo_iload 1 d_X12_eatenBy_24 rfl rfl ?_
      refine jo_callV (st := [.ref 167]) (m_X12_lettingOut hs n x1 M4) ok_X12_lettingOut (And.intro (Nat.le_of_ble_eq_true rfl) (Nat.le_of_ble_eq_true rfl)) lm_X12_372 in_X12_lettingOut se_X12_lettingOut rfl kc_167 rfl rfl (And.intro (Nat.zero_le _) (Nat.zero_le _)) rfl (Nat.le_of_ble_eq_true rfl) d_X12_eatenBy_25 (fun r7 M8 => ?_)
      refine jo_callV (st := []) (m_X12_gives hs n r7 M8) ok_X12_gives (And.intro (Nat.le_of_ble_eq_true rfl) (Nat.le_of_ble_eq_true rfl)) lm_X12_91 in_X12_gives se_X12_gives rfl kc_167 rfl rfl (And.intro (Nat.zero_le _) (Nat.zero_le _)) rfl (Nat.le_of_ble_eq_true rfl) d_X12_eatenBy_28 (fun r9 M10 => ?_)
      refine jo_goto 40 d_X12_eatenBy_31 (by decide) ?_
      exact jo_iret rfl d_X12_eatenBy_40
  · skip
    refine jo_aload 0 d_X12_eatenBy_8 rfl rfl ?_
    refine jo_iconst 1 d_X12_eatenBy_9 ?_
    refine jo_callV (st := []) (m_X12_refuse hs n 1 M2) ok_X12_refuse (And.intro (Nat.le_of_ble_eq_true rfl) (Nat.le_of_ble_eq_true rfl)) lm_X12_87 in_X12_refuse se_X12_refuse rfl kc_167 rfl rfl (And.intro (Nat.zero_le _) (Nat.zero_le _)) rfl (Nat.le_of_ble_eq_true rfl) d_X12_eatenBy_10 (fun r11 M12 => ?_)
    exact jo_iret rfl d_X12_eatenBy_13
theorem m_X12_eatenBy {g : JG} {ad : Nat → Nat} (hs : jStr g ad) (n : Nat) (x1 : Int) (M : JMem) : jMet g jNN ad jR D_X12_eatenBy yX12_eatenBy [.ref 167, ji x1] M (f_X12_eatenBy n x1 M) :=
  jMet.of (lo0 := [some (.ref 167), some (ji x1)]) (by decide) rfl rfl (Nat.le_of_ble_eq_true rfl) (And.intro rfl (And.intro rfl True.intro)) (t_X12_eatenBy hs n x1 M)
/-! CageLeaveModel.eater(I)I -/
def D_X12_eater : JD := (RX12, cX12_eater, 2, some .int, "eater", { frames := 9, cells := 0, slots := 0, locals := 195 })
theorem ok_X12_eater : jOk D_X12_eater yX12_eater 1 := ⟨jTW_mem (k := 1886) (by decide +kernel) rfl, jTW_mem (k := 151) (by decide +kernel) rfl, ⟨by decide +kernel, by decide +kernel⟩, by decide +kernel, rfl, rfl⟩
theorem in_X12_eater : Cond.instanceMethod yX12_eater ∈ jTW := jTW_mem (k := 1884) (by decide +kernel) rfl
theorem se_X12_eater : Cond.selects yX12_eater.cls yX12_eater yX12_eater ∈ jTW := jTW_mem (k := 1885) (by decide +kernel) rfl
theorem d_X12_eater_0 : decode (D_X12_eater).2.1 0 = .ok (.aload_n 0, 1) := by decide +kernel
theorem d_X12_eater_1 : decode (D_X12_eater).2.1 1 = .ok (.iload_n 1, 1) := by decide +kernel
theorem d_X12_eater_2 : decode (D_X12_eater).2.1 2 = .ok (.invokevirtual 263, 3) := by decide +kernel
theorem d_X12_eater_5 : decode (D_X12_eater).2.1 5 = .ok (.ifCond .ne 9, 3) := by decide +kernel
theorem d_X12_eater_8 : decode (D_X12_eater).2.1 8 = .ok (.aload_n 0, 1) := by decide +kernel
theorem d_X12_eater_9 : decode (D_X12_eater).2.1 9 = .ok (.iconst 1, 1) := by decide +kernel
theorem d_X12_eater_10 : decode (D_X12_eater).2.1 10 = .ok (.invokevirtual 87, 3) := by decide +kernel
theorem d_X12_eater_13 : decode (D_X12_eater).2.1 13 = .ok (.ireturn, 1) := by decide +kernel
theorem d_X12_eater_14 : decode (D_X12_eater).2.1 14 = .ok (.aload_n 0, 1) := by decide +kernel
theorem d_X12_eater_15 : decode (D_X12_eater).2.1 15 = .ok (.invokevirtual 363, 3) := by decide +kernel
theorem d_X12_eater_18 : decode (D_X12_eater).2.1 18 = .ok (.aload_n 0, 1) := by decide +kernel
theorem d_X12_eater_19 : decode (D_X12_eater).2.1 19 = .ok (.aload_n 0, 1) := by decide +kernel
theorem d_X12_eater_20 : decode (D_X12_eater).2.1 20 = .ok (.getfield 53, 3) := by decide +kernel
theorem d_X12_eater_23 : decode (D_X12_eater).2.1 23 = .ok (.iload_n 1, 1) := by decide +kernel
theorem d_X12_eater_24 : decode (D_X12_eater).2.1 24 = .ok (.iaload, 1) := by decide +kernel
theorem d_X12_eater_25 : decode (D_X12_eater).2.1 25 = .ok (.invokevirtual 303, 3) := by decide +kernel
theorem d_X12_eater_28 : decode (D_X12_eater).2.1 28 = .ok (.ireturn, 1) := by decide +kernel
def f_X12_eater (n : Nat) (x1 : Int) (M : JMem) : Option (Int × JMem) := bnd (f_X12_isBeast n x1 M) fun r1 M2 => if jw r1 = 0 then (bnd (f_X12_refuse n 1 M2) fun r7 M8 => some (r7, M8)) else (bnd (f_X12_laysWeek n M2) fun _ M4 => chk (jin x1 8) <| bnd (f_X12_orNone n (M4 178 (jw x1).toNat) M4) fun r5 M6 => some (r5, M6))
set_option maxRecDepth 4000 in
theorem t_X12_eater {g : JG} {ad : Nat → Nat} (hs : jStr g ad) (n : Nat) (x1 : Int) (M : JMem) : jB g D_X12_eater ad 0 [some (.ref 167), some (ji x1)] [] M (f_X12_eater n x1 M) := by
  unfold f_X12_eater
  refine jo_aload 0 d_X12_eater_0 rfl rfl ?_
  refine jo_iload 1 d_X12_eater_1 rfl rfl ?_
  refine jo_callV (st := []) (m_X12_isBeast hs n x1 M) ok_X12_isBeast (And.intro (Nat.le_of_ble_eq_true rfl) (Nat.le_of_ble_eq_true rfl)) lm_X12_263 in_X12_isBeast se_X12_isBeast rfl kc_167 rfl rfl (And.intro (Nat.zero_le _) (Nat.zero_le _)) rfl (Nat.le_of_ble_eq_true rfl) d_X12_eater_2 (fun r1 M2 => ?_)
  refine jo_if_ne 14 d_X12_eater_5 (by decide) ?_ ?_
  · skip
    refine jo_aload 0 d_X12_eater_14 rfl rfl ?_
    refine jo_callV (st := []) (m_X12_laysWeek hs n M2) ok_X12_laysWeek (And.intro (Nat.le_of_ble_eq_true rfl) (Nat.le_of_ble_eq_true rfl)) lm_X12_363 in_X12_laysWeek se_X12_laysWeek rfl kc_167 rfl rfl (And.intro (Nat.zero_le _) (Nat.zero_le _)) rfl (Nat.le_of_ble_eq_true rfl) d_X12_eater_15 (fun _ M4 => ?_)
    refine jo_aload 0 d_X12_eater_18 rfl rfl ?_
    refine jo_aload 0 d_X12_eater_19 rfl rfl ?_
    refine jo_getR (k := 26) cl_12 (Nat.le_of_ble_eq_true rfl) lk_X12_53 rfl kc_167 kr_167_26 d_X12_eater_20 ?_
    refine jo_iload 1 d_X12_eater_23 rfl rfl ?_
    refine jo_iald (N := 8) kc_178 d_X12_eater_24 ?_
    refine jo_callV (st := []) (m_X12_orNone hs n (M4 178 (jw x1).toNat) M4) ok_X12_orNone (And.intro (Nat.le_of_ble_eq_true rfl) (Nat.le_of_ble_eq_true rfl)) lm_X12_303 in_X12_orNone se_X12_orNone rfl kc_167 rfl rfl (And.intro (Nat.zero_le _) (Nat.zero_le _)) rfl (Nat.le_of_ble_eq_true rfl) d_X12_eater_25 (fun r5 M6 => ?_)
    exact jo_iret rfl d_X12_eater_28
  · skip
    refine jo_aload 0 d_X12_eater_8 rfl rfl ?_
    refine jo_iconst 1 d_X12_eater_9 ?_
    refine jo_callV (st := []) (m_X12_refuse hs n 1 M2) ok_X12_refuse (And.intro (Nat.le_of_ble_eq_true rfl) (Nat.le_of_ble_eq_true rfl)) lm_X12_87 in_X12_refuse se_X12_refuse rfl kc_167 rfl rfl (And.intro (Nat.zero_le _) (Nat.zero_le _)) rfl (Nat.le_of_ble_eq_true rfl) d_X12_eater_10 (fun r7 M8 => ?_)
    exact jo_iret rfl d_X12_eater_13
theorem m_X12_eater {g : JG} {ad : Nat → Nat} (hs : jStr g ad) (n : Nat) (x1 : Int) (M : JMem) : jMet g jNN ad jR D_X12_eater yX12_eater [.ref 167, ji x1] M (f_X12_eater n x1 M) :=
  jMet.of (lo0 := [some (.ref 167), some (ji x1)]) (by decide) rfl rfl (Nat.le_of_ble_eq_true rfl) (And.intro rfl (And.intro rfl True.intro)) (t_X12_eater hs n x1 M)
/-! CageLeaveModel.fault(I)I -/
def D_X12_fault : JD := (RX12, cX12_fault, 2, some .int, "fault", { frames := 0, cells := 0, slots := 0, locals := 0 })
theorem ok_X12_fault : jOk D_X12_fault yX12_fault 1 := ⟨jTW_mem (k := 1548) (by decide +kernel) rfl, jTW_mem (k := 151) (by decide +kernel) rfl, ⟨by decide +kernel, by decide +kernel⟩, by decide +kernel, rfl, rfl⟩
theorem in_X12_fault : Cond.instanceMethod yX12_fault ∈ jTW := jTW_mem (k := 1546) (by decide +kernel) rfl
theorem se_X12_fault : Cond.selects yX12_fault.cls yX12_fault yX12_fault ∈ jTW := jTW_mem (k := 1547) (by decide +kernel) rfl
theorem lk_X12_37 : Cond.fieldLink RX12 37 (TX12 16).1 (TX12 16).2.1 (TX12 16).2.2.1 ∈ jTW := jTW_mem (k := 1392) (by decide +kernel) rfl
theorem d_X12_fault_0 : decode (D_X12_fault).2.1 0 = .ok (.iload_n 1, 1) := by decide +kernel
theorem d_X12_fault_1 : decode (D_X12_fault).2.1 1 = .ok (.ifCond .ne 10, 3) := by decide +kernel
theorem d_X12_fault_4 : decode (D_X12_fault).2.1 4 = .ok (.aload_n 0, 1) := by decide +kernel
theorem d_X12_fault_5 : decode (D_X12_fault).2.1 5 = .ok (.getfield 37, 3) := by decide +kernel
theorem d_X12_fault_8 : decode (D_X12_fault).2.1 8 = .ok (.goto 16, 3) := by decide +kernel
theorem d_X12_fault_11 : decode (D_X12_fault).2.1 11 = .ok (.iload_n 1, 1) := by decide +kernel
theorem d_X12_fault_12 : decode (D_X12_fault).2.1 12 = .ok (.iconst 1, 1) := by decide +kernel
theorem d_X12_fault_13 : decode (D_X12_fault).2.1 13 = .ok (.if_icmp .ne 10, 3) := by decide +kernel
theorem d_X12_fault_16 : decode (D_X12_fault).2.1 16 = .ok (.aload_n 0, 1) := by decide +kernel
theorem d_X12_fault_17 : decode (D_X12_fault).2.1 17 = .ok (.getfield 41, 3) := by decide +kernel
theorem d_X12_fault_20 : decode (D_X12_fault).2.1 20 = .ok (.goto 4, 3) := by decide +kernel
theorem d_X12_fault_23 : decode (D_X12_fault).2.1 23 = .ok (.iconst (-1), 1) := by decide +kernel
theorem d_X12_fault_24 : decode (D_X12_fault).2.1 24 = .ok (.ireturn, 1) := by decide +kernel
def f_X12_fault (n : Nat) (x1 : Int) (M : JMem) : Option (Int × JMem) := if jw x1 = 0 then (some ((M 167 16), M)) else (if jw x1 = jw 1 then (some ((M 167 17), M)) else (some ((-1), M)))
set_option maxRecDepth 4000 in
theorem t_X12_fault {g : JG} {ad : Nat → Nat} (hs : jStr g ad) (n : Nat) (x1 : Int) (M : JMem) : jB g D_X12_fault ad 0 [some (.ref 167), some (ji x1)] [] M (f_X12_fault n x1 M) := by
  unfold f_X12_fault
  refine jo_iload 1 d_X12_fault_0 rfl rfl ?_
  refine jo_if_ne 11 d_X12_fault_1 (by decide) ?_ ?_
  · skip
    refine jo_iload 1 d_X12_fault_11 rfl rfl ?_
    refine jo_iconst 1 d_X12_fault_12 ?_
    refine jo_icmp_ne 23 d_X12_fault_13 (by decide) ?_ ?_
    · skip
      refine jo_iconst (-1) d_X12_fault_23 ?_
      exact jo_iret rfl d_X12_fault_24
    · skip
      refine jo_aload 0 d_X12_fault_16 rfl rfl ?_
      refine jo_getI (k := 17) cl_12 (Nat.le_of_ble_eq_true rfl) lk_X12_41 (Or.inl rfl) kc_167 d_X12_fault_17 ?_
      refine jo_goto 24 d_X12_fault_20 (by decide) ?_
      exact jo_iret rfl d_X12_fault_24
  · skip
    refine jo_aload 0 d_X12_fault_4 rfl rfl ?_
    refine jo_getI (k := 16) cl_12 (Nat.le_of_ble_eq_true rfl) lk_X12_37 (Or.inl rfl) kc_167 d_X12_fault_5 ?_
    refine jo_goto 24 d_X12_fault_8 (by decide) ?_
    exact jo_iret rfl d_X12_fault_24
theorem m_X12_fault {g : JG} {ad : Nat → Nat} (hs : jStr g ad) (n : Nat) (x1 : Int) (M : JMem) : jMet g jNN ad jR D_X12_fault yX12_fault [.ref 167, ji x1] M (f_X12_fault n x1 M) :=
  jMet.of (lo0 := [some (.ref 167), some (ji x1)]) (by decide) rfl rfl (Nat.le_of_ble_eq_true rfl) (And.intro rfl (And.intro rfl True.intro)) (t_X12_fault hs n x1 M)
/-! CageLeaveModel.four(I)V -/
def D_X12_four : JD := (RX12, cX12_four, 3, none, "four", { frames := 0, cells := 0, slots := 0, locals := 0 })
theorem ok_X12_four : jOk D_X12_four yX12_four 1 := ⟨jTW_mem (k := 1544) (by decide +kernel) rfl, jTW_mem (k := 151) (by decide +kernel) rfl, ⟨by decide +kernel, by decide +kernel⟩, by decide +kernel, rfl, rfl⟩
theorem in_X12_four : Cond.instanceMethod yX12_four ∈ jTW := jTW_mem (k := 1543) (by decide +kernel) rfl
theorem se_X12_four : Cond.selects yX12_four.cls yX12_four yX12_four ∈ jTW := jTW_mem (k := 51) (by decide +kernel) rfl
theorem d_X12_four_0 : decode (D_X12_four).2.1 0 = .ok (.bipush 24, 2) := by decide +kernel
theorem d_X12_four_2 : decode (D_X12_four).2.1 2 = .ok (.istore_n 2, 1) := by decide +kernel
theorem d_X12_four_3 : decode (D_X12_four).2.1 3 = .ok (.iload_n 2, 1) := by decide +kernel
theorem d_X12_four_4 : decode (D_X12_four).2.1 4 = .ok (.ifCond .lt 32, 3) := by decide +kernel
theorem d_X12_four_7 : decode (D_X12_four).2.1 7 = .ok (.aload_n 0, 1) := by decide +kernel
theorem d_X12_four_8 : decode (D_X12_four).2.1 8 = .ok (.getfield 30, 3) := by decide +kernel
theorem d_X12_four_11 : decode (D_X12_four).2.1 11 = .ok (.aload_n 0, 1) := by decide +kernel
theorem d_X12_four_12 : decode (D_X12_four).2.1 12 = .ok (.getfield 111, 3) := by decide +kernel
theorem d_X12_four_15 : decode (D_X12_four).2.1 15 = .ok (.iload_n 1, 1) := by decide +kernel
theorem d_X12_four_16 : decode (D_X12_four).2.1 16 = .ok (.iload_n 2, 1) := by decide +kernel
theorem d_X12_four_17 : decode (D_X12_four).2.1 17 = .ok (.ishr, 1) := by decide +kernel
theorem d_X12_four_18 : decode (D_X12_four).2.1 18 = .ok (.i2b, 1) := by decide +kernel
theorem d_X12_four_19 : decode (D_X12_four).2.1 19 = .ok (.bastore, 1) := by decide +kernel
theorem d_X12_four_20 : decode (D_X12_four).2.1 20 = .ok (.aload_n 0, 1) := by decide +kernel
theorem d_X12_four_21 : decode (D_X12_four).2.1 21 = .ok (.dup, 1) := by decide +kernel
theorem d_X12_four_22 : decode (D_X12_four).2.1 22 = .ok (.getfield 111, 3) := by decide +kernel
theorem d_X12_four_25 : decode (D_X12_four).2.1 25 = .ok (.iconst 1, 1) := by decide +kernel
theorem d_X12_four_26 : decode (D_X12_four).2.1 26 = .ok (.iadd, 1) := by decide +kernel
theorem d_X12_four_27 : decode (D_X12_four).2.1 27 = .ok (.putfield 111, 3) := by decide +kernel
theorem d_X12_four_30 : decode (D_X12_four).2.1 30 = .ok (.iinc 2 (-8), 3) := by decide +kernel
theorem d_X12_four_33 : decode (D_X12_four).2.1 33 = .ok (.goto (-30), 3) := by decide +kernel
theorem d_X12_four_36 : decode (D_X12_four).2.1 36 = .ok (.return_, 1) := by decide +kernel
def f_X12_four_L3 (n : Nat) : Nat → Int → Int → JMem → Option (Int × JMem)
  | 0, _, _, _ => none
  | k + 1, v1, v2, M => if jw v2 < 0 then (some (0, M)) else (chk (jin (M 167 10) 900) <| letm (jup M 173 (jw (M 167 10)).toNat (jw8 (jw8 (jshr v1 v2)))) fun M1 => letm (jup M1 167 10 ((M1 167 10) + 1)) fun M2 => letv (v2 + (-8)) fun y3 => (f_X12_four_L3 n k) v1 y3 M2)
set_option maxRecDepth 4000 in
theorem t_X12_four_L3 {g : JG} {ad : Nat → Nat} (hs : jStr g ad) (n : Nat) : ∀ (k : Nat) (v1 v2 : Int) (M : JMem), jB g D_X12_four ad 3 [some (.ref 167), some (ji v1), some (ji v2)] [] M (f_X12_four_L3 n k v1 v2 M) := by
  intro k
  induction k with
  | zero => intro v1 v2 M; exact jO.none
  | succ k ih =>
    intro v1 v2 M
    rw [f_X12_four_L3]
    refine jo_iload 2 d_X12_four_3 rfl rfl ?_
    refine jo_if_lt 36 d_X12_four_4 (by decide) ?_ ?_
    · skip
      exact jo_vret rfl d_X12_four_36
    · skip
      refine jo_aload 0 d_X12_four_7 rfl rfl ?_
      refine jo_getR (k := 8) cl_12 (Nat.le_of_ble_eq_true rfl) lk_X12_30 rfl kc_167 kr_167_8 d_X12_four_8 ?_
      refine jo_aload 0 d_X12_four_11 rfl rfl ?_
      refine jo_getI (k := 10) cl_12 (Nat.le_of_ble_eq_true rfl) lk_X12_111 (Or.inl rfl) kc_167 d_X12_four_12 ?_
      refine jo_iload 1 d_X12_four_15 rfl rfl ?_
      refine jo_iload 2 d_X12_four_16 rfl rfl ?_
      refine jo_ishr d_X12_four_17 ?_
      refine jo_i2b d_X12_four_18 ?_
      refine jo_bast (N := 900) kc_173 d_X12_four_19 (fun M1 => ?_)
      refine jo_aload 0 d_X12_four_20 rfl rfl ?_
      refine jo_dup d_X12_four_21 rfl ?_
      refine jo_getI (k := 10) cl_12 (Nat.le_of_ble_eq_true rfl) lk_X12_111 (Or.inl rfl) kc_167 d_X12_four_22 ?_
      refine jo_iconst 1 d_X12_four_25 ?_
      refine jo_iadd d_X12_four_26 ?_
      refine jo_putI (k := 10) cl_12 (Nat.le_of_ble_eq_true rfl) lk_X12_111 rfl rfl kc_167 d_X12_four_27 (fun M2 => ?_)
      refine jo_iinc 2 d_X12_four_30 rfl (Nat.le_of_ble_eq_true rfl) (fun y3 => ?_)
      refine jo_goto 3 d_X12_four_33 (by decide) ?_
      exact jO.sub (ih v1 y3 M2) (And.intro rfl (And.intro rfl (And.intro rfl True.intro)))
def f_X12_four (n : Nat) (x1 : Int) (M : JMem) : Option (Int × JMem) := letv 24 fun y1 => f_X12_four_L3 n n x1 y1 M
set_option maxRecDepth 4000 in
theorem t_X12_four {g : JG} {ad : Nat → Nat} (hs : jStr g ad) (n : Nat) (x1 : Int) (M : JMem) : jB g D_X12_four ad 0 [some (.ref 167), some (ji x1), none] [] M (f_X12_four n x1 M) := by
  unfold f_X12_four
  refine jo_bipush 24 d_X12_four_0 (by decide) ?_
  refine jo_istore 2 d_X12_four_2 rfl (Nat.le_of_ble_eq_true rfl) (fun y1 => ?_)
  exact jO.sub (t_X12_four_L3 hs n n x1 y1 M) (And.intro rfl (And.intro rfl (And.intro rfl True.intro)))
theorem m_X12_four {g : JG} {ad : Nat → Nat} (hs : jStr g ad) (n : Nat) (x1 : Int) (M : JMem) : jMet g jNN ad jR D_X12_four yX12_four [.ref 167, ji x1] M (f_X12_four n x1 M) :=
  jMet.of (lo0 := [some (.ref 167), some (ji x1), none]) (by decide) rfl rfl (Nat.le_of_ble_eq_true rfl) (And.intro rfl (And.intro rfl True.intro)) (t_X12_four hs n x1 M)
/-! CageLeaveModel.feed(IIIII)I -/
def D_X12_feed : JD := (RX12, cX12_feed, 6, some .int, "feed", { frames := 1, cells := 0, slots := 0, locals := 22 })
theorem ok_X12_feed : jOk D_X12_feed yX12_feed 5 := ⟨jTW_mem (k := 1540) (by decide +kernel) rfl, jTW_mem (k := 151) (by decide +kernel) rfl, ⟨by decide +kernel, by decide +kernel⟩, by decide +kernel, rfl, rfl⟩
theorem in_X12_feed : Cond.instanceMethod yX12_feed ∈ jTW := jTW_mem (k := 1538) (by decide +kernel) rfl
theorem se_X12_feed : Cond.selects yX12_feed.cls yX12_feed yX12_feed ∈ jTW := jTW_mem (k := 1539) (by decide +kernel) rfl
theorem lm_X12_114 : Cond.methodLink RX12 114 yX12_four ∈ jTW := jTW_mem (k := 1541) (by decide +kernel) rfl
theorem d_X12_feed_0 : decode (D_X12_feed).2.1 0 = .ok (.aload_n 0, 1) := by decide +kernel
theorem d_X12_feed_1 : decode (D_X12_feed).2.1 1 = .ok (.getfield 111, 3) := by decide +kernel
theorem d_X12_feed_4 : decode (D_X12_feed).2.1 4 = .ok (.bipush 20, 2) := by decide +kernel
theorem d_X12_feed_6 : decode (D_X12_feed).2.1 6 = .ok (.iadd, 1) := by decide +kernel
theorem d_X12_feed_7 : decode (D_X12_feed).2.1 7 = .ok (.sipush 900, 3) := by decide +kernel
theorem d_X12_feed_10 : decode (D_X12_feed).2.1 10 = .ok (.if_icmp .le 5, 3) := by decide +kernel
theorem d_X12_feed_13 : decode (D_X12_feed).2.1 13 = .ok (.iconst (-1), 1) := by decide +kernel
theorem d_X12_feed_14 : decode (D_X12_feed).2.1 14 = .ok (.ireturn, 1) := by decide +kernel
theorem d_X12_feed_15 : decode (D_X12_feed).2.1 15 = .ok (.aload_n 0, 1) := by decide +kernel
theorem d_X12_feed_16 : decode (D_X12_feed).2.1 16 = .ok (.iload_n 1, 1) := by decide +kernel
theorem d_X12_feed_17 : decode (D_X12_feed).2.1 17 = .ok (.invokevirtual 114, 3) := by decide +kernel
theorem d_X12_feed_20 : decode (D_X12_feed).2.1 20 = .ok (.aload_n 0, 1) := by decide +kernel
theorem d_X12_feed_21 : decode (D_X12_feed).2.1 21 = .ok (.iload_n 2, 1) := by decide +kernel
theorem d_X12_feed_22 : decode (D_X12_feed).2.1 22 = .ok (.invokevirtual 114, 3) := by decide +kernel
theorem d_X12_feed_25 : decode (D_X12_feed).2.1 25 = .ok (.aload_n 0, 1) := by decide +kernel
theorem d_X12_feed_26 : decode (D_X12_feed).2.1 26 = .ok (.iload_n 3, 1) := by decide +kernel
theorem d_X12_feed_27 : decode (D_X12_feed).2.1 27 = .ok (.invokevirtual 114, 3) := by decide +kernel
theorem d_X12_feed_30 : decode (D_X12_feed).2.1 30 = .ok (.aload_n 0, 1) := by decide +kernel
theorem d_X12_feed_31 : decode (D_X12_feed).2.1 31 = .ok (.iload 4, 2) := by decide +kernel
theorem d_X12_feed_33 : decode (D_X12_feed).2.1 33 = .ok (.invokevirtual 114, 3) := by decide +kernel
theorem d_X12_feed_36 : decode (D_X12_feed).2.1 36 = .ok (.aload_n 0, 1) := by decide +kernel
theorem d_X12_feed_37 : decode (D_X12_feed).2.1 37 = .ok (.iload 5, 2) := by decide +kernel
theorem d_X12_feed_39 : decode (D_X12_feed).2.1 39 = .ok (.invokevirtual 114, 3) := by decide +kernel
theorem d_X12_feed_42 : decode (D_X12_feed).2.1 42 = .ok (.aload_n 0, 1) := by decide +kernel
theorem d_X12_feed_43 : decode (D_X12_feed).2.1 43 = .ok (.getfield 111, 3) := by decide +kernel
theorem d_X12_feed_46 : decode (D_X12_feed).2.1 46 = .ok (.ireturn, 1) := by decide +kernel
def f_X12_feed (n : Nat) (x1 : Int) (x2 : Int) (x3 : Int) (x4 : Int) (x5 : Int) (M : JMem) : Option (Int × JMem) := if jw ((M 167 10) + 20) ≤ jw 900 then (bnd (f_X12_four n x1 M) fun _ M2 => bnd (f_X12_four n x2 M2) fun _ M4 => bnd (f_X12_four n x3 M4) fun _ M6 => bnd (f_X12_four n x4 M6) fun _ M8 => bnd (f_X12_four n x5 M8) fun _ M10 => some ((M10 167 10), M10)) else (some ((-1), M))
set_option maxRecDepth 4000 in
theorem t_X12_feed {g : JG} {ad : Nat → Nat} (hs : jStr g ad) (n : Nat) (x1 : Int) (x2 : Int) (x3 : Int) (x4 : Int) (x5 : Int) (M : JMem) : jB g D_X12_feed ad 0 [some (.ref 167), some (ji x1), some (ji x2), some (ji x3), some (ji x4), some (ji x5)] [] M (f_X12_feed n x1 x2 x3 x4 x5 M) := by
  unfold f_X12_feed
  refine jo_aload 0 d_X12_feed_0 rfl rfl ?_
  refine jo_getI (k := 10) cl_12 (Nat.le_of_ble_eq_true rfl) lk_X12_111 (Or.inl rfl) kc_167 d_X12_feed_1 ?_
  refine jo_bipush 20 d_X12_feed_4 (by decide) ?_
  refine jo_iadd d_X12_feed_6 ?_
  refine jo_sipush 900 d_X12_feed_7 (by decide) ?_
  refine jo_icmp_le 15 d_X12_feed_10 (by decide) ?_ ?_
  · skip
    refine jo_aload 0 d_X12_feed_15 rfl rfl ?_
    refine jo_iload 1 d_X12_feed_16 rfl rfl ?_
    refine jo_callV (st := []) (m_X12_four hs n x1 M) ok_X12_four (And.intro (Nat.le_of_ble_eq_true rfl) (Nat.le_of_ble_eq_true rfl)) lm_X12_114 in_X12_four se_X12_four rfl kc_167 rfl rfl (And.intro (Nat.zero_le _) (Nat.zero_le _)) rfl (Nat.le_of_ble_eq_true rfl) d_X12_feed_17 (fun _ M2 => ?_)
    refine jo_aload 0 d_X12_feed_20 rfl rfl ?_
    refine jo_iload 2 d_X12_feed_21 rfl rfl ?_
    refine jo_callV (st := []) (m_X12_four hs n x2 M2) ok_X12_four (And.intro (Nat.le_of_ble_eq_true rfl) (Nat.le_of_ble_eq_true rfl)) lm_X12_114 in_X12_four se_X12_four rfl kc_167 rfl rfl (And.intro (Nat.zero_le _) (Nat.zero_le _)) rfl (Nat.le_of_ble_eq_true rfl) d_X12_feed_22 (fun _ M4 => ?_)
    refine jo_aload 0 d_X12_feed_25 rfl rfl ?_
    refine jo_iload 3 d_X12_feed_26 rfl rfl ?_
    refine jo_callV (st := []) (m_X12_four hs n x3 M4) ok_X12_four (And.intro (Nat.le_of_ble_eq_true rfl) (Nat.le_of_ble_eq_true rfl)) lm_X12_114 in_X12_four se_X12_four rfl kc_167 rfl rfl (And.intro (Nat.zero_le _) (Nat.zero_le _)) rfl (Nat.le_of_ble_eq_true rfl) d_X12_feed_27 (fun _ M6 => ?_)
    refine jo_aload 0 d_X12_feed_30 rfl rfl ?_
    refine jo_iloadW 4 d_X12_feed_31 rfl ?_
    refine jo_callV (st := []) (m_X12_four hs n x4 M6) ok_X12_four (And.intro (Nat.le_of_ble_eq_true rfl) (Nat.le_of_ble_eq_true rfl)) lm_X12_114 in_X12_four se_X12_four rfl kc_167 rfl rfl (And.intro (Nat.zero_le _) (Nat.zero_le _)) rfl (Nat.le_of_ble_eq_true rfl) d_X12_feed_33 (fun _ M8 => ?_)
    refine jo_aload 0 d_X12_feed_36 rfl rfl ?_
    refine jo_iloadW 5 d_X12_feed_37 rfl ?_
    refine jo_callV (st := []) (m_X12_four hs n x5 M8) ok_X12_four (And.intro (Nat.le_of_ble_eq_true rfl) (Nat.le_of_ble_eq_true rfl)) lm_X12_114 in_X12_four se_X12_four rfl kc_167 rfl rfl (And.intro (Nat.zero_le _) (Nat.zero_le _)) rfl (Nat.le_of_ble_eq_true rfl) d_X12_feed_39 (fun _ M10 => ?_)
    refine jo_aload 0 d_X12_feed_42 rfl rfl ?_
    refine jo_getI (k := 10) cl_12 (Nat.le_of_ble_eq_true rfl) lk_X12_111 (Or.inl rfl) kc_167 d_X12_feed_43 ?_
    exact jo_iret rfl d_X12_feed_46
  · skip
    refine jo_iconst (-1) d_X12_feed_13 ?_
    exact jo_iret rfl d_X12_feed_14
theorem m_X12_feed {g : JG} {ad : Nat → Nat} (hs : jStr g ad) (n : Nat) (x1 : Int) (x2 : Int) (x3 : Int) (x4 : Int) (x5 : Int) (M : JMem) : jMet g jNN ad jR D_X12_feed yX12_feed [.ref 167, ji x1, ji x2, ji x3, ji x4, ji x5] M (f_X12_feed n x1 x2 x3 x4 x5 M) :=
  jMet.of (lo0 := [some (.ref 167), some (ji x1), some (ji x2), some (ji x3), some (ji x4), some (ji x5)]) (by decide) rfl rfl (Nat.le_of_ble_eq_true rfl) (And.intro rfl (And.intro rfl (And.intro rfl (And.intro rfl (And.intro rfl (And.intro rfl True.intro)))))) (t_X12_feed hs n x1 x2 x3 x4 x5 M)
/-! CageLeaveModel.isTrain(I)Z -/
def D_X12_isTrain : JD := (RX12, cX12_isTrain, 2, some .boolean, "isTrain", { frames := 0, cells := 0, slots := 0, locals := 0 })
theorem ok_X12_isTrain : jOk D_X12_isTrain yX12_isTrain 1 := ⟨jTW_mem (k := 1737) (by decide +kernel) rfl, jTW_mem (k := 151) (by decide +kernel) rfl, ⟨by decide +kernel, by decide +kernel⟩, by decide +kernel, rfl, rfl⟩
theorem in_X12_isTrain : Cond.instanceMethod yX12_isTrain ∈ jTW := jTW_mem (k := 1736) (by decide +kernel) rfl
theorem se_X12_isTrain : Cond.selects yX12_isTrain.cls yX12_isTrain yX12_isTrain ∈ jTW := jTW_mem (k := 90) (by decide +kernel) rfl
theorem d_X12_isTrain_0 : decode (D_X12_isTrain).2.1 0 = .ok (.iload_n 1, 1) := by decide +kernel
theorem d_X12_isTrain_1 : decode (D_X12_isTrain).2.1 1 = .ok (.ifCond .lt 17, 3) := by decide +kernel
theorem d_X12_isTrain_4 : decode (D_X12_isTrain).2.1 4 = .ok (.iload_n 1, 1) := by decide +kernel
theorem d_X12_isTrain_5 : decode (D_X12_isTrain).2.1 5 = .ok (.aload_n 0, 1) := by decide +kernel
theorem d_X12_isTrain_6 : decode (D_X12_isTrain).2.1 6 = .ok (.getfield 7, 3) := by decide +kernel
theorem d_X12_isTrain_9 : decode (D_X12_isTrain).2.1 9 = .ok (.iconst 1, 1) := by decide +kernel
theorem d_X12_isTrain_10 : decode (D_X12_isTrain).2.1 10 = .ok (.iaload, 1) := by decide +kernel
theorem d_X12_isTrain_11 : decode (D_X12_isTrain).2.1 11 = .ok (.if_icmp .ge 7, 3) := by decide +kernel
theorem d_X12_isTrain_14 : decode (D_X12_isTrain).2.1 14 = .ok (.iconst 1, 1) := by decide +kernel
theorem d_X12_isTrain_15 : decode (D_X12_isTrain).2.1 15 = .ok (.goto 4, 3) := by decide +kernel
theorem d_X12_isTrain_18 : decode (D_X12_isTrain).2.1 18 = .ok (.iconst 0, 1) := by decide +kernel
theorem d_X12_isTrain_19 : decode (D_X12_isTrain).2.1 19 = .ok (.ireturn, 1) := by decide +kernel
def f_X12_isTrain (n : Nat) (x1 : Int) (M : JMem) : Option (Int × JMem) := if jw x1 < 0 then (some (0, M)) else (chk (jin 1 3160) <| if jw (M 168 (jw 1).toNat) ≤ jw x1 then (some (0, M)) else (some (1, M)))
set_option maxRecDepth 4000 in
theorem t_X12_isTrain {g : JG} {ad : Nat → Nat} (hs : jStr g ad) (n : Nat) (x1 : Int) (M : JMem) : jB g D_X12_isTrain ad 0 [some (.ref 167), some (ji x1)] [] M (f_X12_isTrain n x1 M) := by
  unfold f_X12_isTrain
  refine jo_iload 1 d_X12_isTrain_0 rfl rfl ?_
  refine jo_if_lt 18 d_X12_isTrain_1 (by decide) ?_ ?_
  · skip
    refine jo_iconst 0 d_X12_isTrain_18 ?_
    exact jo_zret rfl (by decide) d_X12_isTrain_19
  · skip
    refine jo_iload 1 d_X12_isTrain_4 rfl rfl ?_
    refine jo_aload 0 d_X12_isTrain_5 rfl rfl ?_
    refine jo_getR (k := 0) cl_12 (Nat.le_of_ble_eq_true rfl) lk_X12_7 rfl kc_167 kr_167_0 d_X12_isTrain_6 ?_
    refine jo_iconst 1 d_X12_isTrain_9 ?_
    refine jo_iald (N := 3160) kc_168 d_X12_isTrain_10 ?_
    refine jo_icmp_ge 18 d_X12_isTrain_11 (by decide) ?_ ?_
    · skip
      refine jo_iconst 0 d_X12_isTrain_18 ?_
      exact jo_zret rfl (by decide) d_X12_isTrain_19
    · skip
      refine jo_iconst 1 d_X12_isTrain_14 ?_
      refine jo_goto 19 d_X12_isTrain_15 (by decide) ?_
      exact jo_zret rfl (by decide) d_X12_isTrain_19
theorem m_X12_isTrain {g : JG} {ad : Nat → Nat} (hs : jStr g ad) (n : Nat) (x1 : Int) (M : JMem) : jMet g jNN ad jR D_X12_isTrain yX12_isTrain [.ref 167, ji x1] M (f_X12_isTrain n x1 M) :=
  jMet.of (lo0 := [some (.ref 167), some (ji x1)]) (by decide) rfl rfl (Nat.le_of_ble_eq_true rfl) (And.intro rfl (And.intro rfl True.intro)) (t_X12_isTrain hs n x1 M)
/-! CageLeaveModel.halt(IZ)Z -/
def D_X12_halt : JD := (RX12, cX12_halt, 3, some .boolean, "halt", { frames := 2, cells := 0, slots := 0, locals := 42 })
theorem ok_X12_halt : jOk D_X12_halt yX12_halt 2 := ⟨jTW_mem (k := 1836) (by decide +kernel) rfl, jTW_mem (k := 151) (by decide +kernel) rfl, ⟨by decide +kernel, by decide +kernel⟩, by decide +kernel, rfl, rfl⟩
theorem in_X12_halt : Cond.instanceMethod yX12_halt ∈ jTW := jTW_mem (k := 1834) (by decide +kernel) rfl
theorem se_X12_halt : Cond.selects yX12_halt.cls yX12_halt yX12_halt ∈ jTW := jTW_mem (k := 1835) (by decide +kernel) rfl
theorem lm_X12_300 : Cond.methodLink RX12 300 yX12_isTrain ∈ jTW := jTW_mem (k := 1734) (by decide +kernel) rfl
theorem d_X12_halt_0 : decode (D_X12_halt).2.1 0 = .ok (.aload_n 0, 1) := by decide +kernel
theorem d_X12_halt_1 : decode (D_X12_halt).2.1 1 = .ok (.iload_n 1, 1) := by decide +kernel
theorem d_X12_halt_2 : decode (D_X12_halt).2.1 2 = .ok (.invokevirtual 300, 3) := by decide +kernel
theorem d_X12_halt_5 : decode (D_X12_halt).2.1 5 = .ok (.ifCond .ne 9, 3) := by decide +kernel
theorem d_X12_halt_8 : decode (D_X12_halt).2.1 8 = .ok (.aload_n 0, 1) := by decide +kernel
theorem d_X12_halt_9 : decode (D_X12_halt).2.1 9 = .ok (.iconst 1, 1) := by decide +kernel
theorem d_X12_halt_10 : decode (D_X12_halt).2.1 10 = .ok (.invokevirtual 94, 3) := by decide +kernel
theorem d_X12_halt_13 : decode (D_X12_halt).2.1 13 = .ok (.ireturn, 1) := by decide +kernel
theorem d_X12_halt_14 : decode (D_X12_halt).2.1 14 = .ok (.aload_n 0, 1) := by decide +kernel
theorem d_X12_halt_15 : decode (D_X12_halt).2.1 15 = .ok (.iload_n 1, 1) := by decide +kernel
theorem d_X12_halt_16 : decode (D_X12_halt).2.1 16 = .ok (.iconst 5, 1) := by decide +kernel
theorem d_X12_halt_17 : decode (D_X12_halt).2.1 17 = .ok (.invokevirtual 288, 3) := by decide +kernel
theorem d_X12_halt_20 : decode (D_X12_halt).2.1 20 = .ok (.iconst 1, 1) := by decide +kernel
theorem d_X12_halt_21 : decode (D_X12_halt).2.1 21 = .ok (.if_icmp .ne 7, 3) := by decide +kernel
theorem d_X12_halt_24 : decode (D_X12_halt).2.1 24 = .ok (.iconst 1, 1) := by decide +kernel
theorem d_X12_halt_25 : decode (D_X12_halt).2.1 25 = .ok (.goto 4, 3) := by decide +kernel
theorem d_X12_halt_28 : decode (D_X12_halt).2.1 28 = .ok (.iconst 0, 1) := by decide +kernel
theorem d_X12_halt_29 : decode (D_X12_halt).2.1 29 = .ok (.iload_n 2, 1) := by decide +kernel
theorem d_X12_halt_30 : decode (D_X12_halt).2.1 30 = .ok (.if_icmp .ne 10, 3) := by decide +kernel
theorem d_X12_halt_33 : decode (D_X12_halt).2.1 33 = .ok (.aload_n 0, 1) := by decide +kernel
theorem d_X12_halt_34 : decode (D_X12_halt).2.1 34 = .ok (.bipush 7, 2) := by decide +kernel
theorem d_X12_halt_36 : decode (D_X12_halt).2.1 36 = .ok (.invokevirtual 94, 3) := by decide +kernel
theorem d_X12_halt_39 : decode (D_X12_halt).2.1 39 = .ok (.ireturn, 1) := by decide +kernel
theorem d_X12_halt_40 : decode (D_X12_halt).2.1 40 = .ok (.aload_n 0, 1) := by decide +kernel
theorem d_X12_halt_41 : decode (D_X12_halt).2.1 41 = .ok (.getfield 7, 3) := by decide +kernel
theorem d_X12_halt_44 : decode (D_X12_halt).2.1 44 = .ok (.iload_n 1, 1) := by decide +kernel
theorem d_X12_halt_45 : decode (D_X12_halt).2.1 45 = .ok (.invokestatic 273, 3) := by decide +kernel
theorem d_X12_halt_48 : decode (D_X12_halt).2.1 48 = .ok (.iconst 5, 1) := by decide +kernel
theorem d_X12_halt_49 : decode (D_X12_halt).2.1 49 = .ok (.iadd, 1) := by decide +kernel
theorem d_X12_halt_50 : decode (D_X12_halt).2.1 50 = .ok (.iload_n 2, 1) := by decide +kernel
theorem d_X12_halt_51 : decode (D_X12_halt).2.1 51 = .ok (.ifCond .eq 7, 3) := by decide +kernel
theorem d_X12_halt_54 : decode (D_X12_halt).2.1 54 = .ok (.iconst 1, 1) := by decide +kernel
theorem d_X12_halt_55 : decode (D_X12_halt).2.1 55 = .ok (.goto 4, 3) := by decide +kernel
theorem d_X12_halt_58 : decode (D_X12_halt).2.1 58 = .ok (.iconst 0, 1) := by decide +kernel
theorem d_X12_halt_59 : decode (D_X12_halt).2.1 59 = .ok (.iastore, 1) := by decide +kernel
theorem d_X12_halt_60 : decode (D_X12_halt).2.1 60 = .ok (.aload_n 0, 1) := by decide +kernel
theorem d_X12_halt_61 : decode (D_X12_halt).2.1 61 = .ok (.iconst 0, 1) := by decide +kernel
theorem d_X12_halt_62 : decode (D_X12_halt).2.1 62 = .ok (.invokevirtual 94, 3) := by decide +kernel
theorem d_X12_halt_65 : decode (D_X12_halt).2.1 65 = .ok (.ireturn, 1) := by decide +kernel
def f_X12_halt_L59 (n : Nat) (w1 w2 : Int) (M : JMem) : Option (Int × JMem) := chk (jin w1 3160) <| letm (jup M 168 (jw w1).toNat w2) fun M1 => bnd (f_X12_is n 0 M1) fun r2 M3 => chk (jw r2 = 0 ∨ jw r2 = 1) (some (r2, M3))
set_option maxRecDepth 4000 in
theorem t_X12_halt_L59 {g : JG} {ad : Nat → Nat} (hs : jStr g ad) (n : Nat) (w1 w2 : Int) (M : JMem) : jB g D_X12_halt ad 59 [some (.ref 167), none, none] [ji w2, ji w1, .ref 168] M (f_X12_halt_L59 n w1 w2 M) := by
  unfold f_X12_halt_L59
  refine jo_iast (N := 3160) kc_168 d_X12_halt_59 (fun M1 => ?_)
  refine jo_aload 0 d_X12_halt_60 rfl rfl ?_
  refine jo_iconst 0 d_X12_halt_61 ?_
  refine jo_callV (st := []) (m_X12_is hs n 0 M1) ok_X12_is (And.intro (Nat.le_of_ble_eq_true rfl) (Nat.le_of_ble_eq_true rfl)) lm_X12_94 in_X12_is se_X12_is rfl kc_167 rfl rfl (And.intro (Nat.zero_le _) (Nat.zero_le _)) rfl (Nat.le_of_ble_eq_true rfl) d_X12_halt_62 (fun r2 M3 => ?_)
  exact jo_zretq rfl d_X12_halt_65
def f_X12_halt_L29 (n : Nat) (v1 v2 w0 : Int) (M : JMem) : Option (Int × JMem) := if jw w0 = jw v2 then (bnd (f_X12_is n 7 M) fun r3 M4 => chk (jw r3 = 0 ∨ jw r3 = 1) (some (r3, M4))) else (bnd (f_X12_trainRow n v1 M) fun r1 M2 => if jw v2 = 0 then (f_X12_halt_L59 n (r1 + 5) 0 M2) else (f_X12_halt_L59 n (r1 + 5) 1 M2))
set_option maxRecDepth 4000 in
theorem t_X12_halt_L29 {g : JG} {ad : Nat → Nat} (hs : jStr g ad) (n : Nat) (v1 v2 w0 : Int) (M : JMem) : jB g D_X12_halt ad 29 [some (.ref 167), some (ji v1), some (ji v2)] [ji w0] M (f_X12_halt_L29 n v1 v2 w0 M) := by
  unfold f_X12_halt_L29
  refine jo_iload 2 d_X12_halt_29 rfl rfl ?_
  refine jo_icmp_ne 40 d_X12_halt_30 (by decide) ?_ ?_
  · skip
    refine jo_aload 0 d_X12_halt_40 rfl rfl ?_
    refine jo_getR (k := 0) cl_12 (Nat.le_of_ble_eq_true rfl) lk_X12_7 rfl kc_167 kr_167_0 d_X12_halt_41 ?_
    refine jo_iload 1 d_X12_halt_44 rfl rfl ?_
    refine jo_callS (st := [.ref 168]) (m_X12_trainRow hs n v1 M) ok_X12_trainRow (And.intro (Nat.le_of_ble_eq_true rfl) (Nat.le_of_ble_eq_true rfl)) lm_X12_273 st_X12_trainRow rfl (And.intro (Nat.zero_le _) (Nat.zero_le _)) rfl (Nat.le_of_ble_eq_true rfl) d_X12_halt_45 (fun r1 M2 => ?_)
    refine jo_iconst 5 d_X12_halt_48 ?_
    refine jo_iadd d_X12_halt_49 ?_
    refine jo_iload 2 d_X12_halt_50 rfl rfl ?_
    refine jo_if_eq 58 d_X12_halt_51 (by decide) ?_ ?_
    · skip
      refine jo_iconst 0 d_X12_halt_58 ?_
      exact jO.sub (t_X12_halt_L59 hs n (r1 + 5) 0 M2) (And.intro rfl True.intro)
    · skip
      refine jo_iconst 1 d_X12_halt_54 ?_
      refine jo_goto 59 d_X12_halt_55 (by decide) ?_
      exact jO.sub (t_X12_halt_L59 hs n (r1 + 5) 1 M2) (And.intro rfl True.intro)
  · skip
    refine jo_aload 0 d_X12_halt_33 rfl rfl ?_
    refine jo_bipush 7 d_X12_halt_34 (by decide) ?_
    refine jo_callV (st := []) (m_X12_is hs n 7 M) ok_X12_is (And.intro (Nat.le_of_ble_eq_true rfl) (Nat.le_of_ble_eq_true rfl)) lm_X12_94 in_X12_is se_X12_is rfl kc_167 rfl rfl (And.intro (Nat.zero_le _) (Nat.zero_le _)) rfl (Nat.le_of_ble_eq_true rfl) d_X12_halt_36 (fun r3 M4 => ?_)
    exact jo_zretq rfl d_X12_halt_39
def f_X12_halt (n : Nat) (x1 : Int) (x2 : Int) (M : JMem) : Option (Int × JMem) := bnd (f_X12_isTrain n x1 M) fun r1 M2 => if jw r1 = 0 then (bnd (f_X12_is n 1 M2) fun r5 M6 => chk (jw r5 = 0 ∨ jw r5 = 1) (some (r5, M6))) else (bnd (f_X12_trainOf n x1 5 M2) fun r3 M4 => if jw r3 = jw 1 then (f_X12_halt_L29 n x1 x2 1 M4) else (f_X12_halt_L29 n x1 x2 0 M4))
set_option maxRecDepth 4000 in
theorem t_X12_halt {g : JG} {ad : Nat → Nat} (hs : jStr g ad) (n : Nat) (x1 : Int) (x2 : Int) (M : JMem) : jB g D_X12_halt ad 0 [some (.ref 167), some (ji x1), some (ji x2)] [] M (f_X12_halt n x1 x2 M) := by
  unfold f_X12_halt
  refine jo_aload 0 d_X12_halt_0 rfl rfl ?_
  refine jo_iload 1 d_X12_halt_1 rfl rfl ?_
  refine jo_callV (st := []) (m_X12_isTrain hs n x1 M) ok_X12_isTrain (And.intro (Nat.le_of_ble_eq_true rfl) (Nat.le_of_ble_eq_true rfl)) lm_X12_300 in_X12_isTrain se_X12_isTrain rfl kc_167 rfl rfl (And.intro (Nat.zero_le _) (Nat.zero_le _)) rfl (Nat.le_of_ble_eq_true rfl) d_X12_halt_2 (fun r1 M2 => ?_)
  refine jo_if_ne 14 d_X12_halt_5 (by decide) ?_ ?_
  · skip
    refine jo_aload 0 d_X12_halt_14 rfl rfl ?_
    refine jo_iload 1 d_X12_halt_15 rfl rfl ?_
    refine jo_iconst 5 d_X12_halt_16 ?_
    refine jo_callV (st := []) (m_X12_trainOf hs n x1 5 M2) ok_X12_trainOf (And.intro (Nat.le_of_ble_eq_true rfl) (Nat.le_of_ble_eq_true rfl)) lm_X12_288 in_X12_trainOf se_X12_trainOf rfl kc_167 rfl rfl (And.intro (Nat.zero_le _) (Nat.zero_le _)) rfl (Nat.le_of_ble_eq_true rfl) d_X12_halt_17 (fun r3 M4 => ?_)
    refine jo_iconst 1 d_X12_halt_20 ?_
    refine jo_icmp_ne 28 d_X12_halt_21 (by decide) ?_ ?_
    · skip
      refine jo_iconst 0 d_X12_halt_28 ?_
      exact jO.sub (t_X12_halt_L29 hs n x1 x2 0 M4) (And.intro rfl (And.intro rfl (And.intro rfl True.intro)))
    · skip
      refine jo_iconst 1 d_X12_halt_24 ?_
      refine jo_goto 29 d_X12_halt_25 (by decide) ?_
      exact jO.sub (t_X12_halt_L29 hs n x1 x2 1 M4) (And.intro rfl (And.intro rfl (And.intro rfl True.intro)))
  · skip
    refine jo_aload 0 d_X12_halt_8 rfl rfl ?_
    refine jo_iconst 1 d_X12_halt_9 ?_
    refine jo_callV (st := []) (m_X12_is hs n 1 M2) ok_X12_is (And.intro (Nat.le_of_ble_eq_true rfl) (Nat.le_of_ble_eq_true rfl)) lm_X12_94 in_X12_is se_X12_is rfl kc_167 rfl rfl (And.intro (Nat.zero_le _) (Nat.zero_le _)) rfl (Nat.le_of_ble_eq_true rfl) d_X12_halt_10 (fun r5 M6 => ?_)
    exact jo_zretq rfl d_X12_halt_13
theorem m_X12_halt {g : JG} {ad : Nat → Nat} (hs : jStr g ad) (n : Nat) (x1 : Int) (x2 : Int) (M : JMem) : jMet g jNN ad jR D_X12_halt yX12_halt [.ref 167, ji x1, ji x2] M (f_X12_halt n x1 x2 M) :=
  jMet.of (lo0 := [some (.ref 167), some (ji x1), some (ji x2)]) (by decide) rfl rfl (Nat.le_of_ble_eq_true rfl) (And.intro rfl (And.intro rfl (And.intro rfl True.intro))) (t_X12_halt hs n x1 x2 M)
/-! CageLeaveModel.holds(I)Z -/
def D_X12_holds : JD := (RX12, cX12_holds, 4, some .boolean, "holds", { frames := 4, cells := 0, slots := 0, locals := 84 })
theorem ok_X12_holds : jOk D_X12_holds yX12_holds 1 := ⟨jTW_mem (k := 2072) (by decide +kernel) rfl, jTW_mem (k := 151) (by decide +kernel) rfl, ⟨by decide +kernel, by decide +kernel⟩, by decide +kernel, rfl, rfl⟩
theorem in_X12_holds : Cond.instanceMethod yX12_holds ∈ jTW := jTW_mem (k := 2071) (by decide +kernel) rfl
theorem se_X12_holds : Cond.selects yX12_holds.cls yX12_holds yX12_holds ∈ jTW := jTW_mem (k := 131) (by decide +kernel) rfl
theorem d_X12_holds_0 : decode (D_X12_holds).2.1 0 = .ok (.aload_n 0, 1) := by decide +kernel
theorem d_X12_holds_1 : decode (D_X12_holds).2.1 1 = .ok (.getfield 7, 3) := by decide +kernel
theorem d_X12_holds_4 : decode (D_X12_holds).2.1 4 = .ok (.iload_n 1, 1) := by decide +kernel
theorem d_X12_holds_5 : decode (D_X12_holds).2.1 5 = .ok (.iaload, 1) := by decide +kernel
theorem d_X12_holds_6 : decode (D_X12_holds).2.1 6 = .ok (.sipush 2000, 3) := by decide +kernel
theorem d_X12_holds_9 : decode (D_X12_holds).2.1 9 = .ok (.isub, 1) := by decide +kernel
theorem d_X12_holds_10 : decode (D_X12_holds).2.1 10 = .ok (.istore_n 2, 1) := by decide +kernel
theorem d_X12_holds_11 : decode (D_X12_holds).2.1 11 = .ok (.iload_n 2, 1) := by decide +kernel
theorem d_X12_holds_12 : decode (D_X12_holds).2.1 12 = .ok (.bipush 25, 2) := by decide +kernel
theorem d_X12_holds_14 : decode (D_X12_holds).2.1 14 = .ok (.if_icmp .ne 16, 3) := by decide +kernel
theorem d_X12_holds_17 : decode (D_X12_holds).2.1 17 = .ok (.aload_n 0, 1) := by decide +kernel
theorem d_X12_holds_18 : decode (D_X12_holds).2.1 18 = .ok (.aload_n 0, 1) := by decide +kernel
theorem d_X12_holds_19 : decode (D_X12_holds).2.1 19 = .ok (.getfield 7, 3) := by decide +kernel
theorem d_X12_holds_22 : decode (D_X12_holds).2.1 22 = .ok (.iload_n 1, 1) := by decide +kernel
theorem d_X12_holds_23 : decode (D_X12_holds).2.1 23 = .ok (.iconst 1, 1) := by decide +kernel
theorem d_X12_holds_24 : decode (D_X12_holds).2.1 24 = .ok (.iadd, 1) := by decide +kernel
theorem d_X12_holds_25 : decode (D_X12_holds).2.1 25 = .ok (.iaload, 1) := by decide +kernel
theorem d_X12_holds_26 : decode (D_X12_holds).2.1 26 = .ok (.invokevirtual 279, 3) := by decide +kernel
theorem d_X12_holds_29 : decode (D_X12_holds).2.1 29 = .ok (.ireturn, 1) := by decide +kernel
theorem d_X12_holds_30 : decode (D_X12_holds).2.1 30 = .ok (.iload_n 2, 1) := by decide +kernel
theorem d_X12_holds_31 : decode (D_X12_holds).2.1 31 = .ok (.bipush 24, 2) := by decide +kernel
theorem d_X12_holds_33 : decode (D_X12_holds).2.1 33 = .ok (.if_icmp .ne 32, 3) := by decide +kernel
theorem d_X12_holds_36 : decode (D_X12_holds).2.1 36 = .ok (.aload_n 0, 1) := by decide +kernel
theorem d_X12_holds_37 : decode (D_X12_holds).2.1 37 = .ok (.aload_n 0, 1) := by decide +kernel
theorem d_X12_holds_38 : decode (D_X12_holds).2.1 38 = .ok (.getfield 7, 3) := by decide +kernel
theorem d_X12_holds_41 : decode (D_X12_holds).2.1 41 = .ok (.iload_n 1, 1) := by decide +kernel
theorem d_X12_holds_42 : decode (D_X12_holds).2.1 42 = .ok (.iconst 1, 1) := by decide +kernel
theorem d_X12_holds_43 : decode (D_X12_holds).2.1 43 = .ok (.iadd, 1) := by decide +kernel
theorem d_X12_holds_44 : decode (D_X12_holds).2.1 44 = .ok (.iaload, 1) := by decide +kernel
theorem d_X12_holds_45 : decode (D_X12_holds).2.1 45 = .ok (.invokevirtual 282, 3) := by decide +kernel
theorem d_X12_holds_48 : decode (D_X12_holds).2.1 48 = .ok (.aload_n 0, 1) := by decide +kernel
theorem d_X12_holds_49 : decode (D_X12_holds).2.1 49 = .ok (.getfield 7, 3) := by decide +kernel
theorem d_X12_holds_52 : decode (D_X12_holds).2.1 52 = .ok (.iload_n 1, 1) := by decide +kernel
theorem d_X12_holds_53 : decode (D_X12_holds).2.1 53 = .ok (.iconst 2, 1) := by decide +kernel
theorem d_X12_holds_54 : decode (D_X12_holds).2.1 54 = .ok (.iadd, 1) := by decide +kernel
theorem d_X12_holds_55 : decode (D_X12_holds).2.1 55 = .ok (.iaload, 1) := by decide +kernel
theorem d_X12_holds_56 : decode (D_X12_holds).2.1 56 = .ok (.if_icmp .ne 7, 3) := by decide +kernel
theorem d_X12_holds_59 : decode (D_X12_holds).2.1 59 = .ok (.iconst 1, 1) := by decide +kernel
theorem d_X12_holds_60 : decode (D_X12_holds).2.1 60 = .ok (.goto 4, 3) := by decide +kernel
theorem d_X12_holds_63 : decode (D_X12_holds).2.1 63 = .ok (.iconst 0, 1) := by decide +kernel
theorem d_X12_holds_64 : decode (D_X12_holds).2.1 64 = .ok (.ireturn, 1) := by decide +kernel
theorem d_X12_holds_65 : decode (D_X12_holds).2.1 65 = .ok (.aload_n 0, 1) := by decide +kernel
theorem d_X12_holds_66 : decode (D_X12_holds).2.1 66 = .ok (.getfield 7, 3) := by decide +kernel
theorem d_X12_holds_69 : decode (D_X12_holds).2.1 69 = .ok (.iconst 5, 1) := by decide +kernel
theorem d_X12_holds_70 : decode (D_X12_holds).2.1 70 = .ok (.iaload, 1) := by decide +kernel
theorem d_X12_holds_71 : decode (D_X12_holds).2.1 71 = .ok (.istore_n 3, 1) := by decide +kernel
theorem d_X12_holds_72 : decode (D_X12_holds).2.1 72 = .ok (.aload_n 0, 1) := by decide +kernel
theorem d_X12_holds_73 : decode (D_X12_holds).2.1 73 = .ok (.getfield 7, 3) := by decide +kernel
theorem d_X12_holds_76 : decode (D_X12_holds).2.1 76 = .ok (.iload_n 1, 1) := by decide +kernel
theorem d_X12_holds_77 : decode (D_X12_holds).2.1 77 = .ok (.iconst 5, 1) := by decide +kernel
theorem d_X12_holds_78 : decode (D_X12_holds).2.1 78 = .ok (.iadd, 1) := by decide +kernel
theorem d_X12_holds_79 : decode (D_X12_holds).2.1 79 = .ok (.iaload, 1) := by decide +kernel
theorem d_X12_holds_80 : decode (D_X12_holds).2.1 80 = .ok (.bipush 60, 2) := by decide +kernel
theorem d_X12_holds_82 : decode (D_X12_holds).2.1 82 = .ok (.if_icmp .ne 23, 3) := by decide +kernel
theorem d_X12_holds_85 : decode (D_X12_holds).2.1 85 = .ok (.iload_n 3, 1) := by decide +kernel
theorem d_X12_holds_86 : decode (D_X12_holds).2.1 86 = .ok (.aload_n 0, 1) := by decide +kernel
theorem d_X12_holds_87 : decode (D_X12_holds).2.1 87 = .ok (.getfield 7, 3) := by decide +kernel
theorem d_X12_holds_90 : decode (D_X12_holds).2.1 90 = .ok (.iload_n 1, 1) := by decide +kernel
theorem d_X12_holds_91 : decode (D_X12_holds).2.1 91 = .ok (.iconst 2, 1) := by decide +kernel
theorem d_X12_holds_92 : decode (D_X12_holds).2.1 92 = .ok (.iadd, 1) := by decide +kernel
theorem d_X12_holds_93 : decode (D_X12_holds).2.1 93 = .ok (.iaload, 1) := by decide +kernel
theorem d_X12_holds_94 : decode (D_X12_holds).2.1 94 = .ok (.if_icmp .ge 7, 3) := by decide +kernel
theorem d_X12_holds_97 : decode (D_X12_holds).2.1 97 = .ok (.iconst 1, 1) := by decide +kernel
theorem d_X12_holds_98 : decode (D_X12_holds).2.1 98 = .ok (.goto 57, 3) := by decide +kernel
theorem d_X12_holds_101 : decode (D_X12_holds).2.1 101 = .ok (.iconst 0, 1) := by decide +kernel
theorem d_X12_holds_102 : decode (D_X12_holds).2.1 102 = .ok (.goto 53, 3) := by decide +kernel
theorem d_X12_holds_105 : decode (D_X12_holds).2.1 105 = .ok (.aload_n 0, 1) := by decide +kernel
theorem d_X12_holds_106 : decode (D_X12_holds).2.1 106 = .ok (.getfield 7, 3) := by decide +kernel
theorem d_X12_holds_109 : decode (D_X12_holds).2.1 109 = .ok (.iload_n 1, 1) := by decide +kernel
theorem d_X12_holds_110 : decode (D_X12_holds).2.1 110 = .ok (.iconst 5, 1) := by decide +kernel
theorem d_X12_holds_111 : decode (D_X12_holds).2.1 111 = .ok (.iadd, 1) := by decide +kernel
theorem d_X12_holds_112 : decode (D_X12_holds).2.1 112 = .ok (.iaload, 1) := by decide +kernel
theorem d_X12_holds_113 : decode (D_X12_holds).2.1 113 = .ok (.bipush 62, 2) := by decide +kernel
theorem d_X12_holds_115 : decode (D_X12_holds).2.1 115 = .ok (.if_icmp .ne 23, 3) := by decide +kernel
theorem d_X12_holds_118 : decode (D_X12_holds).2.1 118 = .ok (.iload_n 3, 1) := by decide +kernel
theorem d_X12_holds_119 : decode (D_X12_holds).2.1 119 = .ok (.aload_n 0, 1) := by decide +kernel
theorem d_X12_holds_120 : decode (D_X12_holds).2.1 120 = .ok (.getfield 7, 3) := by decide +kernel
theorem d_X12_holds_123 : decode (D_X12_holds).2.1 123 = .ok (.iload_n 1, 1) := by decide +kernel
theorem d_X12_holds_124 : decode (D_X12_holds).2.1 124 = .ok (.iconst 2, 1) := by decide +kernel
theorem d_X12_holds_125 : decode (D_X12_holds).2.1 125 = .ok (.iadd, 1) := by decide +kernel
theorem d_X12_holds_126 : decode (D_X12_holds).2.1 126 = .ok (.iaload, 1) := by decide +kernel
theorem d_X12_holds_127 : decode (D_X12_holds).2.1 127 = .ok (.if_icmp .le 7, 3) := by decide +kernel
theorem d_X12_holds_130 : decode (D_X12_holds).2.1 130 = .ok (.iconst 1, 1) := by decide +kernel
theorem d_X12_holds_131 : decode (D_X12_holds).2.1 131 = .ok (.goto 24, 3) := by decide +kernel
theorem d_X12_holds_134 : decode (D_X12_holds).2.1 134 = .ok (.iconst 0, 1) := by decide +kernel
theorem d_X12_holds_135 : decode (D_X12_holds).2.1 135 = .ok (.goto 20, 3) := by decide +kernel
theorem d_X12_holds_138 : decode (D_X12_holds).2.1 138 = .ok (.iload_n 3, 1) := by decide +kernel
theorem d_X12_holds_139 : decode (D_X12_holds).2.1 139 = .ok (.aload_n 0, 1) := by decide +kernel
theorem d_X12_holds_140 : decode (D_X12_holds).2.1 140 = .ok (.getfield 7, 3) := by decide +kernel
theorem d_X12_holds_143 : decode (D_X12_holds).2.1 143 = .ok (.iload_n 1, 1) := by decide +kernel
theorem d_X12_holds_144 : decode (D_X12_holds).2.1 144 = .ok (.iconst 2, 1) := by decide +kernel
theorem d_X12_holds_145 : decode (D_X12_holds).2.1 145 = .ok (.iadd, 1) := by decide +kernel
theorem d_X12_holds_146 : decode (D_X12_holds).2.1 146 = .ok (.iaload, 1) := by decide +kernel
theorem d_X12_holds_147 : decode (D_X12_holds).2.1 147 = .ok (.if_icmp .ne 7, 3) := by decide +kernel
theorem d_X12_holds_150 : decode (D_X12_holds).2.1 150 = .ok (.iconst 1, 1) := by decide +kernel
theorem d_X12_holds_151 : decode (D_X12_holds).2.1 151 = .ok (.goto 4, 3) := by decide +kernel
theorem d_X12_holds_154 : decode (D_X12_holds).2.1 154 = .ok (.iconst 0, 1) := by decide +kernel
theorem d_X12_holds_155 : decode (D_X12_holds).2.1 155 = .ok (.ireturn, 1) := by decide +kernel
def f_X12_holds (n : Nat) (x1 : Int) (M : JMem) : Option (Int × JMem) := chk (jin x1 3160) <| letv ((M 168 (jw x1).toNat) - 2000) fun y1 => if jw y1 = jw 25 then (chk (jin (x1 + 1) 3160) <| bnd (f_X12_isEaten n (M 168 (jw (x1 + 1)).toNat) M) fun r5 M6 => chk (jw r5 = 0 ∨ jw r5 = 1) (some (r5, M6))) else (if jw y1 = jw 24 then (chk (jin (x1 + 1) 3160) <| bnd (f_X12_whereOf n (M 168 (jw (x1 + 1)).toNat) M) fun r3 M4 => chk (jin (x1 + 2) 3160) <| if jw r3 = jw (M4 168 (jw (x1 + 2)).toNat) then (some (1, M4)) else (some (0, M4))) else (chk (jin 5 3160) <| letv (M 168 (jw 5).toNat) fun y2 => chk (jin (x1 + 5) 3160) <| if jw (M 168 (jw (x1 + 5)).toNat) = jw 60 then (chk (jin (x1 + 2) 3160) <| if jw (M 168 (jw (x1 + 2)).toNat) ≤ jw y2 then (some (0, M)) else (some (1, M))) else (chk (jin (x1 + 5) 3160) <| if jw (M 168 (jw (x1 + 5)).toNat) = jw 62 then (chk (jin (x1 + 2) 3160) <| if jw y2 ≤ jw (M 168 (jw (x1 + 2)).toNat) then (some (0, M)) else (some (1, M))) else (chk (jin (x1 + 2) 3160) <| if jw y2 = jw (M 168 (jw (x1 + 2)).toNat) then (some (1, M)) else (some (0, M))))))
set_option maxRecDepth 4000 in
theorem t_X12_holds {g : JG} {ad : Nat → Nat} (hs : jStr g ad) (n : Nat) (x1 : Int) (M : JMem) : jB g D_X12_holds ad 0 [some (.ref 167), some (ji x1), none, none] [] M (f_X12_holds n x1 M) := by
  unfold f_X12_holds
  refine jo_aload 0 d_X12_holds_0 rfl rfl ?_
  refine jo_getR (k := 0) cl_12 (Nat.le_of_ble_eq_true rfl) lk_X12_7 rfl kc_167 kr_167_0 d_X12_holds_1 ?_
  refine jo_iload 1 d_X12_holds_4 rfl rfl ?_
  refine jo_iald (N := 3160) kc_168 d_X12_holds_5 ?_
  refine jo_sipush 2000 d_X12_holds_6 (by decide) ?_
  refine jo_isub d_X12_holds_9 ?_
  refine jo_istore 2 d_X12_holds_10 rfl (Nat.le_of_ble_eq_true rfl) (fun y1 => ?_)
  refine jo_iload 2 d_X12_holds_11 rfl rfl ?_
  refine jo_bipush 25 d_X12_holds_12 (by decide) ?_
  refine jo_icmp_ne 30 d_X12_holds_14 (by decide) ?_ ?_
  · skip
    refine jo_iload 2 d_X12_holds_30 rfl rfl ?_
    refine jo_bipush 24 d_X12_holds_31 (by decide) ?_
    refine jo_icmp_ne 65 d_X12_holds_33 (by decide) ?_ ?_
    · skip
      refine jo_aload 0 d_X12_holds_65 rfl rfl ?_
      refine jo_getR (k := 0) cl_12 (Nat.le_of_ble_eq_true rfl) lk_X12_7 rfl kc_167 kr_167_0 d_X12_holds_66 ?_
      refine jo_iconst 5 d_X12_holds_69 ?_
      refine jo_iald (N := 3160) kc_168 d_X12_holds_70 ?_
      refine jo_istore 3 d_X12_holds_71 rfl (Nat.le_of_ble_eq_true rfl) (fun y2 => ?_)
      refine jo_aload 0 d_X12_holds_72 rfl rfl ?_
      refine jo_getR (k := 0) cl_12 (Nat.le_of_ble_eq_true rfl) lk_X12_7 rfl kc_167 kr_167_0 d_X12_holds_73 ?_
      refine jo_iload 1 d_X12_holds_76 rfl rfl ?_
      refine jo_iconst 5 d_X12_holds_77 ?_
      refine jo_iadd d_X12_holds_78 ?_
      refine jo_iald (N := 3160) kc_168 d_X12_holds_79 ?_
      refine jo_bipush 60 d_X12_holds_80 (by decide) ?_
      refine jo_icmp_ne 105 d_X12_holds_82 (by decide) ?_ ?_
      · skip
        refine jo_aload 0 d_X12_holds_105 rfl rfl ?_
        refine jo_getR (k := 0) cl_12 (Nat.le_of_ble_eq_true rfl) lk_X12_7 rfl kc_167 kr_167_0 d_X12_holds_106 ?_
        refine jo_iload 1 d_X12_holds_109 rfl rfl ?_
        refine jo_iconst 5 d_X12_holds_110 ?_
        refine jo_iadd d_X12_holds_111 ?_
        refine jo_iald (N := 3160) kc_168 d_X12_holds_112 ?_
        refine jo_bipush 62 d_X12_holds_113 (by decide) ?_
        refine jo_icmp_ne 138 d_X12_holds_115 (by decide) ?_ ?_
        · skip
          refine jo_iload 3 d_X12_holds_138 rfl rfl ?_
          refine jo_aload 0 d_X12_holds_139 rfl rfl ?_
          refine jo_getR (k := 0) cl_12 (Nat.le_of_ble_eq_true rfl) lk_X12_7 rfl kc_167 kr_167_0 d_X12_holds_140 ?_
          refine jo_iload 1 d_X12_holds_143 rfl rfl ?_
          refine jo_iconst 2 d_X12_holds_144 ?_
          refine jo_iadd d_X12_holds_145 ?_
          refine jo_iald (N := 3160) kc_168 d_X12_holds_146 ?_
          refine jo_icmp_ne 154 d_X12_holds_147 (by decide) ?_ ?_
          · skip
            refine jo_iconst 0 d_X12_holds_154 ?_
            exact jo_zret rfl (by decide) d_X12_holds_155
          · skip
            refine jo_iconst 1 d_X12_holds_150 ?_
            refine jo_goto 155 d_X12_holds_151 (by decide) ?_
            exact jo_zret rfl (by decide) d_X12_holds_155
        · skip
          refine jo_iload 3 d_X12_holds_118 rfl rfl ?_
          refine jo_aload 0 d_X12_holds_119 rfl rfl ?_
          refine jo_getR (k := 0) cl_12 (Nat.le_of_ble_eq_true rfl) lk_X12_7 rfl kc_167 kr_167_0 d_X12_holds_120 ?_
          refine jo_iload 1 d_X12_holds_123 rfl rfl ?_
          refine jo_iconst 2 d_X12_holds_124 ?_
          refine jo_iadd d_X12_holds_125 ?_
          refine jo_iald (N := 3160) kc_168 d_X12_holds_126 ?_
          refine jo_icmp_le 134 d_X12_holds_127 (by decide) ?_ ?_
          · skip
            refine jo_iconst 0 d_X12_holds_134 ?_
            refine jo_goto 155 d_X12_holds_135 (by decide) ?_
            exact jo_zret rfl (by decide) d_X12_holds_155
          · skip
            refine jo_iconst 1 d_X12_holds_130 ?_
            refine jo_goto 155 d_X12_holds_131 (by decide) ?_
            exact jo_zret rfl (by decide) d_X12_holds_155
      · skip
        refine jo_iload 3 d_X12_holds_85 rfl rfl ?_
        refine jo_aload 0 d_X12_holds_86 rfl rfl ?_
        refine jo_getR (k := 0) cl_12 (Nat.le_of_ble_eq_true rfl) lk_X12_7 rfl kc_167 kr_167_0 d_X12_holds_87 ?_
        refine jo_iload 1 d_X12_holds_90 rfl rfl ?_
        refine jo_iconst 2 d_X12_holds_91 ?_
        refine jo_iadd d_X12_holds_92 ?_
        refine jo_iald (N := 3160) kc_168 d_X12_holds_93 ?_
        refine jo_icmp_ge 101 d_X12_holds_94 (by decide) ?_ ?_
        · skip
          refine jo_iconst 0 d_X12_holds_101 ?_
          refine jo_goto 155 d_X12_holds_102 (by decide) ?_
          exact jo_zret rfl (by decide) d_X12_holds_155
        · skip
          refine jo_iconst 1 d_X12_holds_97 ?_
          refine jo_goto 155 d_X12_holds_98 (by decide) ?_
          exact jo_zret rfl (by decide) d_X12_holds_155
    · skip
      refine jo_aload 0 d_X12_holds_36 rfl rfl ?_
      refine jo_aload 0 d_X12_holds_37 rfl rfl ?_
      refine jo_getR (k := 0) cl_12 (Nat.le_of_ble_eq_true rfl) lk_X12_7 rfl kc_167 kr_167_0 d_X12_holds_38 ?_
      refine jo_iload 1 d_X12_holds_41 rfl rfl ?_
      refine jo_iconst 1 d_X12_holds_42 ?_
      refine jo_iadd d_X12_holds_43 ?_
      refine jo_iald (N := 3160) kc_168 d_X12_holds_44 ?_
      refine jo_callV (st := []) (m_X12_whereOf hs n (M 168 (jw (x1 + 1)).toNat) M) ok_X12_whereOf (And.intro (Nat.le_of_ble_eq_true rfl) (Nat.le_of_ble_eq_true rfl)) lm_X12_282 in_X12_whereOf se_X12_whereOf rfl kc_167 rfl rfl (And.intro (Nat.zero_le _) (Nat.zero_le _)) rfl (Nat.le_of_ble_eq_true rfl) d_X12_holds_45 (fun r3 M4 => ?_)
      refine jo_aload 0 d_X12_holds_48 rfl rfl ?_
      refine jo_getR (k := 0) cl_12 (Nat.le_of_ble_eq_true rfl) lk_X12_7 rfl kc_167 kr_167_0 d_X12_holds_49 ?_
      refine jo_iload 1 d_X12_holds_52 rfl rfl ?_
      refine jo_iconst 2 d_X12_holds_53 ?_
      refine jo_iadd d_X12_holds_54 ?_
      refine jo_iald (N := 3160) kc_168 d_X12_holds_55 ?_
      refine jo_icmp_ne 63 d_X12_holds_56 (by decide) ?_ ?_
      · skip
        refine jo_iconst 0 d_X12_holds_63 ?_
        exact jo_zret rfl (by decide) d_X12_holds_64
      · skip
        refine jo_iconst 1 d_X12_holds_59 ?_
        refine jo_goto 64 d_X12_holds_60 (by decide) ?_
        exact jo_zret rfl (by decide) d_X12_holds_64
  · skip
    refine jo_aload 0 d_X12_holds_17 rfl rfl ?_
    refine jo_aload 0 d_X12_holds_18 rfl rfl ?_
    refine jo_getR (k := 0) cl_12 (Nat.le_of_ble_eq_true rfl) lk_X12_7 rfl kc_167 kr_167_0 d_X12_holds_19 ?_
    refine jo_iload 1 d_X12_holds_22 rfl rfl ?_
    refine jo_iconst 1 d_X12_holds_23 ?_
    refine jo_iadd d_X12_holds_24 ?_
    refine jo_iald (N := 3160) kc_168 d_X12_holds_25 ?_
    refine jo_callV (st := []) (m_X12_isEaten hs n (M 168 (jw (x1 + 1)).toNat) M) ok_X12_isEaten (And.intro (Nat.le_of_ble_eq_true rfl) (Nat.le_of_ble_eq_true rfl)) lm_X12_279 in_X12_isEaten se_X12_isEaten rfl kc_167 rfl rfl (And.intro (Nat.zero_le _) (Nat.zero_le _)) rfl (Nat.le_of_ble_eq_true rfl) d_X12_holds_26 (fun r5 M6 => ?_)
    exact jo_zretq rfl d_X12_holds_29
theorem m_X12_holds {g : JG} {ad : Nat → Nat} (hs : jStr g ad) (n : Nat) (x1 : Int) (M : JMem) : jMet g jNN ad jR D_X12_holds yX12_holds [.ref 167, ji x1] M (f_X12_holds n x1 M) :=
  jMet.of (lo0 := [some (.ref 167), some (ji x1), none, none]) (by decide) rfl rfl (Nat.le_of_ble_eq_true rfl) (And.intro rfl (And.intro rfl True.intro)) (t_X12_holds hs n x1 M)
/-! CageLeaveModel.hour(I)I -/
def D_X12_hour : JD := (RX12, cX12_hour, 2, some .int, "hour", { frames := 8, cells := 0, slots := 0, locals := 174 })
theorem ok_X12_hour : jOk D_X12_hour yX12_hour 1 := ⟨jTW_mem (k := 1777) (by decide +kernel) rfl, jTW_mem (k := 151) (by decide +kernel) rfl, ⟨by decide +kernel, by decide +kernel⟩, by decide +kernel, rfl, rfl⟩
theorem in_X12_hour : Cond.instanceMethod yX12_hour ∈ jTW := jTW_mem (k := 1775) (by decide +kernel) rfl
theorem se_X12_hour : Cond.selects yX12_hour.cls yX12_hour yX12_hour ∈ jTW := jTW_mem (k := 1776) (by decide +kernel) rfl
theorem lc_X12_330 : Cond.constantLong RX12 330 (Int64.ofInt 64) ∈ jTW := jTW_mem (k := 1778) (by decide +kernel) rfl
theorem d_X12_hour_0 : decode (D_X12_hour).2.1 0 = .ok (.iload_n 1, 1) := by decide +kernel
theorem d_X12_hour_1 : decode (D_X12_hour).2.1 1 = .ok (.i2l, 1) := by decide +kernel
theorem d_X12_hour_2 : decode (D_X12_hour).2.1 2 = .ok (.lconst 1, 1) := by decide +kernel
theorem d_X12_hour_3 : decode (D_X12_hour).2.1 3 = .ok (.ldc2_w 330, 3) := by decide +kernel
theorem d_X12_hour_6 : decode (D_X12_hour).2.1 6 = .ok (.invokestatic 266, 3) := by decide +kernel
theorem d_X12_hour_9 : decode (D_X12_hour).2.1 9 = .ok (.ifCond .ne 9, 3) := by decide +kernel
theorem d_X12_hour_12 : decode (D_X12_hour).2.1 12 = .ok (.aload_n 0, 1) := by decide +kernel
theorem d_X12_hour_13 : decode (D_X12_hour).2.1 13 = .ok (.iconst 1, 1) := by decide +kernel
theorem d_X12_hour_14 : decode (D_X12_hour).2.1 14 = .ok (.invokevirtual 87, 3) := by decide +kernel
theorem d_X12_hour_17 : decode (D_X12_hour).2.1 17 = .ok (.ireturn, 1) := by decide +kernel
theorem d_X12_hour_18 : decode (D_X12_hour).2.1 18 = .ok (.aload_n 0, 1) := by decide +kernel
theorem d_X12_hour_19 : decode (D_X12_hour).2.1 19 = .ok (.getfield 7, 3) := by decide +kernel
theorem d_X12_hour_22 : decode (D_X12_hour).2.1 22 = .ok (.iconst 5, 1) := by decide +kernel
theorem d_X12_hour_23 : decode (D_X12_hour).2.1 23 = .ok (.iaload, 1) := by decide +kernel
theorem d_X12_hour_24 : decode (D_X12_hour).2.1 24 = .ok (.iload_n 1, 1) := by decide +kernel
theorem d_X12_hour_25 : decode (D_X12_hour).2.1 25 = .ok (.iadd, 1) := by decide +kernel
theorem d_X12_hour_26 : decode (D_X12_hour).2.1 26 = .ok (.bipush 64, 2) := by decide +kernel
theorem d_X12_hour_28 : decode (D_X12_hour).2.1 28 = .ok (.if_icmp .le 11, 3) := by decide +kernel
theorem d_X12_hour_31 : decode (D_X12_hour).2.1 31 = .ok (.aload_n 0, 1) := by decide +kernel
theorem d_X12_hour_32 : decode (D_X12_hour).2.1 32 = .ok (.iconst 4, 1) := by decide +kernel
theorem d_X12_hour_33 : decode (D_X12_hour).2.1 33 = .ok (.invokevirtual 87, 3) := by decide +kernel
theorem d_X12_hour_36 : decode (D_X12_hour).2.1 36 = .ok (.goto 12, 3) := by decide +kernel
theorem d_X12_hour_39 : decode (D_X12_hour).2.1 39 = .ok (.aload_n 0, 1) := by decide +kernel
theorem d_X12_hour_40 : decode (D_X12_hour).2.1 40 = .ok (.aload_n 0, 1) := by decide +kernel
theorem d_X12_hour_41 : decode (D_X12_hour).2.1 41 = .ok (.iload_n 1, 1) := by decide +kernel
theorem d_X12_hour_42 : decode (D_X12_hour).2.1 42 = .ok (.invokevirtual 332, 3) := by decide +kernel
theorem d_X12_hour_45 : decode (D_X12_hour).2.1 45 = .ok (.invokevirtual 91, 3) := by decide +kernel
theorem d_X12_hour_48 : decode (D_X12_hour).2.1 48 = .ok (.ireturn, 1) := by decide +kernel
def f_X12_hour (n : Nat) (x1 : Int) (M : JMem) : Option (Int × JMem) := bnd (f_X12_isFrom n (jw x1) 1 64 M) fun r1 M2 => if jw r1 = 0 then (bnd (f_X12_refuse n 1 M2) fun r9 M10 => some (r9, M10)) else (chk (jin 5 3160) <| if jw ((M2 168 (jw 5).toNat) + x1) ≤ jw 64 then (bnd (f_X12_hoursGo n x1 M2) fun r3 M4 => bnd (f_X12_gives n r3 M4) fun r5 M6 => some (r5, M6)) else (bnd (f_X12_refuse n 4 M2) fun r7 M8 => some (r7, M8)))
set_option maxRecDepth 4000 in
theorem t_X12_hour {g : JG} {ad : Nat → Nat} (hs : jStr g ad) (n : Nat) (x1 : Int) (M : JMem) : jB g D_X12_hour ad 0 [some (.ref 167), some (ji x1)] [] M (f_X12_hour n x1 M) := by
  unfold f_X12_hour
  refine jo_iload 1 d_X12_hour_0 rfl rfl ?_
  refine jo_i2l d_X12_hour_1 ?_
  refine jo_lconst1 d_X12_hour_2 ?_
  refine jo_ldc2 64 lc_X12_330 d_X12_hour_3 ?_
  refine jo_callS (st := []) (m_X12_isFrom hs n (jw x1) 1 64 M) ok_X12_isFrom (And.intro (Nat.le_of_ble_eq_true rfl) (Nat.le_of_ble_eq_true rfl)) lm_X12_266 st_X12_isFrom rfl (And.intro (Nat.zero_le _) (Nat.zero_le _)) rfl (Nat.le_of_ble_eq_true rfl) d_X12_hour_6 (fun r1 M2 => ?_)
  refine jo_if_ne 18 d_X12_hour_9 (by decide) ?_ ?_
  · skip
    refine jo_aload 0 d_X12_hour_18 rfl rfl ?_
    refine jo_getR (k := 0) cl_12 (Nat.le_of_ble_eq_true rfl) lk_X12_7 rfl kc_167 kr_167_0 d_X12_hour_19 ?_
    refine jo_iconst 5 d_X12_hour_22 ?_
    refine jo_iald (N := 3160) kc_168 d_X12_hour_23 ?_
    refine jo_iload 1 d_X12_hour_24 rfl rfl ?_
    refine jo_iadd d_X12_hour_25 ?_
    refine jo_bipush 64 d_X12_hour_26 (by decide) ?_
    refine jo_icmp_le 39 d_X12_hour_28 (by decide) ?_ ?_
    · skip
      refine jo_aload 0 d_X12_hour_39 rfl rfl ?_
      refine jo_aload 0 d_X12_hour_40 rfl rfl ?_
      refine jo_iload 1 d_X12_hour_41 rfl rfl ?_
      refine jo_callV (st := [.ref 167]) (m_X12_hoursGo hs n x1 M2) ok_X12_hoursGo (And.intro (Nat.le_of_ble_eq_true rfl) (Nat.le_of_ble_eq_true rfl)) lm_X12_332 in_X12_hoursGo se_X12_hoursGo rfl kc_167 rfl rfl (And.intro (Nat.zero_le _) (Nat.zero_le _)) rfl (Nat.le_of_ble_eq_true rfl) d_X12_hour_42 (fun r3 M4 => ?_)
      refine jo_callV (st := []) (m_X12_gives hs n r3 M4) ok_X12_gives (And.intro (Nat.le_of_ble_eq_true rfl) (Nat.le_of_ble_eq_true rfl)) lm_X12_91 in_X12_gives se_X12_gives rfl kc_167 rfl rfl (And.intro (Nat.zero_le _) (Nat.zero_le _)) rfl (Nat.le_of_ble_eq_true rfl) d_X12_hour_45 (fun r5 M6 => ?_)
      exact jo_iret rfl d_X12_hour_48
    · skip
      refine jo_aload 0 d_X12_hour_31 rfl rfl ?_
      refine jo_iconst 4 d_X12_hour_32 ?_
      refine jo_callV (st := []) (m_X12_refuse hs n 4 M2) ok_X12_refuse (And.intro (Nat.le_of_ble_eq_true rfl) (Nat.le_of_ble_eq_true rfl)) lm_X12_87 in_X12_refuse se_X12_refuse rfl kc_167 rfl rfl (And.intro (Nat.zero_le _) (Nat.zero_le _)) rfl (Nat.le_of_ble_eq_true rfl) d_X12_hour_33 (fun r7 M8 => ?_)
      refine jo_goto 48 d_X12_hour_36 (by decide) ?_
      exact jo_iret rfl d_X12_hour_48
  · skip
    refine jo_aload 0 d_X12_hour_12 rfl rfl ?_
    refine jo_iconst 1 d_X12_hour_13 ?_
    refine jo_callV (st := []) (m_X12_refuse hs n 1 M2) ok_X12_refuse (And.intro (Nat.le_of_ble_eq_true rfl) (Nat.le_of_ble_eq_true rfl)) lm_X12_87 in_X12_refuse se_X12_refuse rfl kc_167 rfl rfl (And.intro (Nat.zero_le _) (Nat.zero_le _)) rfl (Nat.le_of_ble_eq_true rfl) d_X12_hour_14 (fun r9 M10 => ?_)
    exact jo_iret rfl d_X12_hour_17
theorem m_X12_hour {g : JG} {ad : Nat → Nat} (hs : jStr g ad) (n : Nat) (x1 : Int) (M : JMem) : jMet g jNN ad jR D_X12_hour yX12_hour [.ref 167, ji x1] M (f_X12_hour n x1 M) :=
  jMet.of (lo0 := [some (.ref 167), some (ji x1)]) (by decide) rfl rfl (Nat.le_of_ble_eq_true rfl) (And.intro rfl (And.intro rfl True.intro)) (t_X12_hour hs n x1 M)
/-! CageLeaveModel.hunt(IIZ)Z -/
def D_X12_hunt : JD := (RX12, cX12_hunt, 4, some .boolean, "hunt", { frames := 2, cells := 0, slots := 0, locals := 43 })
theorem ok_X12_hunt : jOk D_X12_hunt yX12_hunt 3 := ⟨jTW_mem (k := 1850) (by decide +kernel) rfl, jTW_mem (k := 151) (by decide +kernel) rfl, ⟨by decide +kernel, by decide +kernel⟩, by decide +kernel, rfl, rfl⟩
theorem in_X12_hunt : Cond.instanceMethod yX12_hunt ∈ jTW := jTW_mem (k := 1848) (by decide +kernel) rfl
theorem se_X12_hunt : Cond.selects yX12_hunt.cls yX12_hunt yX12_hunt ∈ jTW := jTW_mem (k := 1849) (by decide +kernel) rfl
theorem lm_X12_309 : Cond.methodLink RX12 309 yX12_areTwo ∈ jTW := jTW_mem (k := 1766) (by decide +kernel) rfl
theorem d_X12_hunt_0 : decode (D_X12_hunt).2.1 0 = .ok (.aload_n 0, 1) := by decide +kernel
theorem d_X12_hunt_1 : decode (D_X12_hunt).2.1 1 = .ok (.iload_n 1, 1) := by decide +kernel
theorem d_X12_hunt_2 : decode (D_X12_hunt).2.1 2 = .ok (.iload_n 2, 1) := by decide +kernel
theorem d_X12_hunt_3 : decode (D_X12_hunt).2.1 3 = .ok (.invokevirtual 309, 3) := by decide +kernel
theorem d_X12_hunt_6 : decode (D_X12_hunt).2.1 6 = .ok (.ifCond .ne 9, 3) := by decide +kernel
theorem d_X12_hunt_9 : decode (D_X12_hunt).2.1 9 = .ok (.aload_n 0, 1) := by decide +kernel
theorem d_X12_hunt_10 : decode (D_X12_hunt).2.1 10 = .ok (.iconst 1, 1) := by decide +kernel
theorem d_X12_hunt_11 : decode (D_X12_hunt).2.1 11 = .ok (.invokevirtual 94, 3) := by decide +kernel
theorem d_X12_hunt_14 : decode (D_X12_hunt).2.1 14 = .ok (.ireturn, 1) := by decide +kernel
theorem d_X12_hunt_15 : decode (D_X12_hunt).2.1 15 = .ok (.aload_n 0, 1) := by decide +kernel
theorem d_X12_hunt_16 : decode (D_X12_hunt).2.1 16 = .ok (.aload_n 0, 1) := by decide +kernel
theorem d_X12_hunt_17 : decode (D_X12_hunt).2.1 17 = .ok (.iload_n 1, 1) := by decide +kernel
theorem d_X12_hunt_18 : decode (D_X12_hunt).2.1 18 = .ok (.bipush 6, 2) := by decide +kernel
theorem d_X12_hunt_20 : decode (D_X12_hunt).2.1 20 = .ok (.invokevirtual 276, 3) := by decide +kernel
theorem d_X12_hunt_23 : decode (D_X12_hunt).2.1 23 = .ok (.iload_n 2, 1) := by decide +kernel
theorem d_X12_hunt_24 : decode (D_X12_hunt).2.1 24 = .ok (.invokevirtual 315, 3) := by decide +kernel
theorem d_X12_hunt_27 : decode (D_X12_hunt).2.1 27 = .ok (.iload_n 3, 1) := by decide +kernel
theorem d_X12_hunt_28 : decode (D_X12_hunt).2.1 28 = .ok (.if_icmp .ne 10, 3) := by decide +kernel
theorem d_X12_hunt_31 : decode (D_X12_hunt).2.1 31 = .ok (.aload_n 0, 1) := by decide +kernel
theorem d_X12_hunt_32 : decode (D_X12_hunt).2.1 32 = .ok (.bipush 7, 2) := by decide +kernel
theorem d_X12_hunt_34 : decode (D_X12_hunt).2.1 34 = .ok (.invokevirtual 94, 3) := by decide +kernel
theorem d_X12_hunt_37 : decode (D_X12_hunt).2.1 37 = .ok (.ireturn, 1) := by decide +kernel
theorem d_X12_hunt_38 : decode (D_X12_hunt).2.1 38 = .ok (.aload_n 0, 1) := by decide +kernel
theorem d_X12_hunt_39 : decode (D_X12_hunt).2.1 39 = .ok (.getfield 7, 3) := by decide +kernel
theorem d_X12_hunt_42 : decode (D_X12_hunt).2.1 42 = .ok (.iload_n 1, 1) := by decide +kernel
theorem d_X12_hunt_43 : decode (D_X12_hunt).2.1 43 = .ok (.invokestatic 270, 3) := by decide +kernel
theorem d_X12_hunt_46 : decode (D_X12_hunt).2.1 46 = .ok (.bipush 6, 2) := by decide +kernel
theorem d_X12_hunt_48 : decode (D_X12_hunt).2.1 48 = .ok (.iadd, 1) := by decide +kernel
theorem d_X12_hunt_49 : decode (D_X12_hunt).2.1 49 = .ok (.dup2, 1) := by decide +kernel
theorem d_X12_hunt_50 : decode (D_X12_hunt).2.1 50 = .ok (.iaload, 1) := by decide +kernel
theorem d_X12_hunt_51 : decode (D_X12_hunt).2.1 51 = .ok (.iconst 1, 1) := by decide +kernel
theorem d_X12_hunt_52 : decode (D_X12_hunt).2.1 52 = .ok (.iload_n 2, 1) := by decide +kernel
theorem d_X12_hunt_53 : decode (D_X12_hunt).2.1 53 = .ok (.ishl, 1) := by decide +kernel
theorem d_X12_hunt_54 : decode (D_X12_hunt).2.1 54 = .ok (.ixor, 1) := by decide +kernel
theorem d_X12_hunt_55 : decode (D_X12_hunt).2.1 55 = .ok (.iastore, 1) := by decide +kernel
theorem d_X12_hunt_56 : decode (D_X12_hunt).2.1 56 = .ok (.aload_n 0, 1) := by decide +kernel
theorem d_X12_hunt_57 : decode (D_X12_hunt).2.1 57 = .ok (.iconst 0, 1) := by decide +kernel
theorem d_X12_hunt_58 : decode (D_X12_hunt).2.1 58 = .ok (.invokevirtual 94, 3) := by decide +kernel
theorem d_X12_hunt_61 : decode (D_X12_hunt).2.1 61 = .ok (.ireturn, 1) := by decide +kernel
def f_X12_hunt (n : Nat) (x1 : Int) (x2 : Int) (x3 : Int) (M : JMem) : Option (Int × JMem) := bnd (f_X12_areTwo n x1 x2 M) fun r1 M2 => if jw r1 = 0 then (bnd (f_X12_is n 1 M2) fun r14 M15 => chk (jw r14 = 0 ∨ jw r14 = 1) (some (r14, M15))) else (bnd (f_X12_beastOf n x1 6 M2) fun r3 M4 => bnd (f_X12_isIn n r3 x2 M4) fun r5 M6 => if jw r5 = jw x3 then (bnd (f_X12_is n 7 M6) fun r12 M13 => chk (jw r12 = 0 ∨ jw r12 = 1) (some (r12, M13))) else (bnd (f_X12_beastRow n x1 M6) fun r7 M8 => chk (jin (r7 + 6) 3160) <| chk (jin (r7 + 6) 3160) <| letm (jup M8 168 (jw (r7 + 6)).toNat (jxor (M8 168 (jw (r7 + 6)).toNat) (jshl 1 x2))) fun M9 => bnd (f_X12_is n 0 M9) fun r10 M11 => chk (jw r10 = 0 ∨ jw r10 = 1) (some (r10, M11))))
set_option maxRecDepth 4000 in
theorem t_X12_hunt {g : JG} {ad : Nat → Nat} (hs : jStr g ad) (n : Nat) (x1 : Int) (x2 : Int) (x3 : Int) (M : JMem) : jB g D_X12_hunt ad 0 [some (.ref 167), some (ji x1), some (ji x2), some (ji x3)] [] M (f_X12_hunt n x1 x2 x3 M) := by
  unfold f_X12_hunt
  refine jo_aload 0 d_X12_hunt_0 rfl rfl ?_
  refine jo_iload 1 d_X12_hunt_1 rfl rfl ?_
  refine jo_iload 2 d_X12_hunt_2 rfl rfl ?_
  refine jo_callV (st := []) (m_X12_areTwo hs n x1 x2 M) ok_X12_areTwo (And.intro (Nat.le_of_ble_eq_true rfl) (Nat.le_of_ble_eq_true rfl)) lm_X12_309 in_X12_areTwo se_X12_areTwo rfl kc_167 rfl rfl (And.intro (Nat.zero_le _) (Nat.zero_le _)) rfl (Nat.le_of_ble_eq_true rfl) d_X12_hunt_3 (fun r1 M2 => ?_)
  refine jo_if_ne 15 d_X12_hunt_6 (by decide) ?_ ?_
  · skip
    refine jo_aload 0 d_X12_hunt_15 rfl rfl ?_
    refine jo_aload 0 d_X12_hunt_16 rfl rfl ?_
    refine jo_iload 1 d_X12_hunt_17 rfl rfl ?_
    refine jo_bipush 6 d_X12_hunt_18 (by decide) ?_
    refine jo_callV (st := [.ref 167]) (m_X12_beastOf hs n x1 6 M2) ok_X12_beastOf (And.intro (Nat.le_of_ble_eq_true rfl) (Nat.le_of_ble_eq_true rfl)) lm_X12_276 in_X12_beastOf se_X12_beastOf rfl kc_167 rfl rfl (And.intro (Nat.zero_le _) (Nat.zero_le _)) rfl (Nat.le_of_ble_eq_true rfl) d_X12_hunt_20 (fun r3 M4 => ?_)
    refine jo_iload 2 d_X12_hunt_23 rfl rfl ?_
    refine jo_callV (st := []) (m_X12_isIn hs n r3 x2 M4) ok_X12_isIn (And.intro (Nat.le_of_ble_eq_true rfl) (Nat.le_of_ble_eq_true rfl)) lm_X12_315 in_X12_isIn se_X12_isIn rfl kc_167 rfl rfl (And.intro (Nat.zero_le _) (Nat.zero_le _)) rfl (Nat.le_of_ble_eq_true rfl) d_X12_hunt_24 (fun r5 M6 => ?_)
    refine jo_iload 3 d_X12_hunt_27 rfl rfl ?_
    refine jo_icmp_ne 38 d_X12_hunt_28 (by decide) ?_ ?_
    · skip
      refine jo_aload 0 d_X12_hunt_38 rfl rfl ?_
      refine jo_getR (k := 0) cl_12 (Nat.le_of_ble_eq_true rfl) lk_X12_7 rfl kc_167 kr_167_0 d_X12_hunt_39 ?_
      refine jo_iload 1 d_X12_hunt_42 rfl rfl ?_
      refine jo_callS (st := [.ref 168]) (m_X12_beastRow hs n x1 M6) ok_X12_beastRow (And.intro (Nat.le_of_ble_eq_true rfl) (Nat.le_of_ble_eq_true rfl)) lm_X12_270 st_X12_beastRow rfl (And.intro (Nat.zero_le _) (Nat.zero_le _)) rfl (Nat.le_of_ble_eq_true rfl) d_X12_hunt_43 (fun r7 M8 => ?_)
      refine jo_bipush 6 d_X12_hunt_46 (by decide) ?_
      refine jo_iadd d_X12_hunt_48 ?_
      refine jo_dup2 d_X12_hunt_49 rfl rfl ?_
      refine jo_iald (N := 3160) kc_168 d_X12_hunt_50 ?_
      refine jo_iconst 1 d_X12_hunt_51 ?_
      refine jo_iload 2 d_X12_hunt_52 rfl rfl ?_
      refine jo_ishl d_X12_hunt_53 ?_
      refine jo_ixor d_X12_hunt_54 ?_
      refine jo_iast (N := 3160) kc_168 d_X12_hunt_55 (fun M9 => ?_)
      refine jo_aload 0 d_X12_hunt_56 rfl rfl ?_
      refine jo_iconst 0 d_X12_hunt_57 ?_
      refine jo_callV (st := []) (m_X12_is hs n 0 M9) ok_X12_is (And.intro (Nat.le_of_ble_eq_true rfl) (Nat.le_of_ble_eq_true rfl)) lm_X12_94 in_X12_is se_X12_is rfl kc_167 rfl rfl (And.intro (Nat.zero_le _) (Nat.zero_le _)) rfl (Nat.le_of_ble_eq_true rfl) d_X12_hunt_58 (fun r10 M11 => ?_)
      exact jo_zretq rfl d_X12_hunt_61
    · skip
      refine jo_aload 0 d_X12_hunt_31 rfl rfl ?_
      refine jo_bipush 7 d_X12_hunt_32 (by decide) ?_
      refine jo_callV (st := []) (m_X12_is hs n 7 M6) ok_X12_is (And.intro (Nat.le_of_ble_eq_true rfl) (Nat.le_of_ble_eq_true rfl)) lm_X12_94 in_X12_is se_X12_is rfl kc_167 rfl rfl (And.intro (Nat.zero_le _) (Nat.zero_le _)) rfl (Nat.le_of_ble_eq_true rfl) d_X12_hunt_34 (fun r12 M13 => ?_)
      exact jo_zretq rfl d_X12_hunt_37
  · skip
    refine jo_aload 0 d_X12_hunt_9 rfl rfl ?_
    refine jo_iconst 1 d_X12_hunt_10 ?_
    refine jo_callV (st := []) (m_X12_is hs n 1 M2) ok_X12_is (And.intro (Nat.le_of_ble_eq_true rfl) (Nat.le_of_ble_eq_true rfl)) lm_X12_94 in_X12_is se_X12_is rfl kc_167 rfl rfl (And.intro (Nat.zero_le _) (Nat.zero_le _)) rfl (Nat.le_of_ble_eq_true rfl) d_X12_hunt_11 (fun r14 M15 => ?_)
    exact jo_zretq rfl d_X12_hunt_14
theorem m_X12_hunt {g : JG} {ad : Nat → Nat} (hs : jStr g ad) (n : Nat) (x1 : Int) (x2 : Int) (x3 : Int) (M : JMem) : jMet g jNN ad jR D_X12_hunt yX12_hunt [.ref 167, ji x1, ji x2, ji x3] M (f_X12_hunt n x1 x2 x3 M) :=
  jMet.of (lo0 := [some (.ref 167), some (ji x1), some (ji x2), some (ji x3)]) (by decide) rfl rfl (Nat.le_of_ble_eq_true rfl) (And.intro rfl (And.intro rfl (And.intro rfl (And.intro rfl True.intro)))) (t_X12_hunt hs n x1 x2 x3 M)
/-! CageLeaveModel.isRoom(II)Z -/
def D_X12_isRoom : JD := (RX12, cX12_isRoom, 5, some .boolean, "isRoom", { frames := 2, cells := 0, slots := 0, locals := 42 })
theorem ok_X12_isRoom : jOk D_X12_isRoom yX12_isRoom 2 := ⟨jTW_mem (k := 2001) (by decide +kernel) rfl, jTW_mem (k := 151) (by decide +kernel) rfl, ⟨by decide +kernel, by decide +kernel⟩, by decide +kernel, rfl, rfl⟩
theorem in_X12_isRoom : Cond.instanceMethod yX12_isRoom ∈ jTW := jTW_mem (k := 2000) (by decide +kernel) rfl
theorem se_X12_isRoom : Cond.selects yX12_isRoom.cls yX12_isRoom yX12_isRoom ∈ jTW := jTW_mem (k := 120) (by decide +kernel) rfl
theorem d_X12_isRoom_0 : decode (D_X12_isRoom).2.1 0 = .ok (.iconst 0, 1) := by decide +kernel
theorem d_X12_isRoom_1 : decode (D_X12_isRoom).2.1 1 = .ok (.istore_n 3, 1) := by decide +kernel
theorem d_X12_isRoom_2 : decode (D_X12_isRoom).2.1 2 = .ok (.iconst 0, 1) := by decide +kernel
theorem d_X12_isRoom_3 : decode (D_X12_isRoom).2.1 3 = .ok (.istore 4, 2) := by decide +kernel
theorem d_X12_isRoom_5 : decode (D_X12_isRoom).2.1 5 = .ok (.iload 4, 2) := by decide +kernel
theorem d_X12_isRoom_7 : decode (D_X12_isRoom).2.1 7 = .ok (.aload_n 0, 1) := by decide +kernel
theorem d_X12_isRoom_8 : decode (D_X12_isRoom).2.1 8 = .ok (.getfield 7, 3) := by decide +kernel
theorem d_X12_isRoom_11 : decode (D_X12_isRoom).2.1 11 = .ok (.iconst 2, 1) := by decide +kernel
theorem d_X12_isRoom_12 : decode (D_X12_isRoom).2.1 12 = .ok (.iaload, 1) := by decide +kernel
theorem d_X12_isRoom_13 : decode (D_X12_isRoom).2.1 13 = .ok (.if_icmp .ge 47, 3) := by decide +kernel
theorem d_X12_isRoom_16 : decode (D_X12_isRoom).2.1 16 = .ok (.aload_n 0, 1) := by decide +kernel
theorem d_X12_isRoom_17 : decode (D_X12_isRoom).2.1 17 = .ok (.iload_n 1, 1) := by decide +kernel
theorem d_X12_isRoom_18 : decode (D_X12_isRoom).2.1 18 = .ok (.iload 4, 2) := by decide +kernel
theorem d_X12_isRoom_20 : decode (D_X12_isRoom).2.1 20 = .ok (.invokevirtual 315, 3) := by decide +kernel
theorem d_X12_isRoom_23 : decode (D_X12_isRoom).2.1 23 = .ok (.ifCond .ne 6, 3) := by decide +kernel
theorem d_X12_isRoom_26 : decode (D_X12_isRoom).2.1 26 = .ok (.goto 28, 3) := by decide +kernel
theorem d_X12_isRoom_29 : decode (D_X12_isRoom).2.1 29 = .ok (.iload_n 3, 1) := by decide +kernel
theorem d_X12_isRoom_30 : decode (D_X12_isRoom).2.1 30 = .ok (.aload_n 0, 1) := by decide +kernel
theorem d_X12_isRoom_31 : decode (D_X12_isRoom).2.1 31 = .ok (.iload 4, 2) := by decide +kernel
theorem d_X12_isRoom_33 : decode (D_X12_isRoom).2.1 33 = .ok (.iconst 0, 1) := by decide +kernel
theorem d_X12_isRoom_34 : decode (D_X12_isRoom).2.1 34 = .ok (.invokevirtual 276, 3) := by decide +kernel
theorem d_X12_isRoom_37 : decode (D_X12_isRoom).2.1 37 = .ok (.iadd, 1) := by decide +kernel
theorem d_X12_isRoom_38 : decode (D_X12_isRoom).2.1 38 = .ok (.istore_n 3, 1) := by decide +kernel
theorem d_X12_isRoom_39 : decode (D_X12_isRoom).2.1 39 = .ok (.aload_n 0, 1) := by decide +kernel
theorem d_X12_isRoom_40 : decode (D_X12_isRoom).2.1 40 = .ok (.iload 4, 2) := by decide +kernel
theorem d_X12_isRoom_42 : decode (D_X12_isRoom).2.1 42 = .ok (.bipush 6, 2) := by decide +kernel
theorem d_X12_isRoom_44 : decode (D_X12_isRoom).2.1 44 = .ok (.invokevirtual 276, 3) := by decide +kernel
theorem d_X12_isRoom_47 : decode (D_X12_isRoom).2.1 47 = .ok (.iload_n 1, 1) := by decide +kernel
theorem d_X12_isRoom_48 : decode (D_X12_isRoom).2.1 48 = .ok (.iand, 1) := by decide +kernel
theorem d_X12_isRoom_49 : decode (D_X12_isRoom).2.1 49 = .ok (.ifCond .eq 5, 3) := by decide +kernel
theorem d_X12_isRoom_52 : decode (D_X12_isRoom).2.1 52 = .ok (.iconst 0, 1) := by decide +kernel
theorem d_X12_isRoom_53 : decode (D_X12_isRoom).2.1 53 = .ok (.ireturn, 1) := by decide +kernel
theorem d_X12_isRoom_54 : decode (D_X12_isRoom).2.1 54 = .ok (.iinc 4 1, 3) := by decide +kernel
theorem d_X12_isRoom_57 : decode (D_X12_isRoom).2.1 57 = .ok (.goto (-52), 3) := by decide +kernel
theorem d_X12_isRoom_60 : decode (D_X12_isRoom).2.1 60 = .ok (.iload_n 3, 1) := by decide +kernel
theorem d_X12_isRoom_61 : decode (D_X12_isRoom).2.1 61 = .ok (.iload_n 2, 1) := by decide +kernel
theorem d_X12_isRoom_62 : decode (D_X12_isRoom).2.1 62 = .ok (.if_icmp .gt 7, 3) := by decide +kernel
theorem d_X12_isRoom_65 : decode (D_X12_isRoom).2.1 65 = .ok (.iconst 1, 1) := by decide +kernel
theorem d_X12_isRoom_66 : decode (D_X12_isRoom).2.1 66 = .ok (.goto 4, 3) := by decide +kernel
theorem d_X12_isRoom_69 : decode (D_X12_isRoom).2.1 69 = .ok (.iconst 0, 1) := by decide +kernel
theorem d_X12_isRoom_70 : decode (D_X12_isRoom).2.1 70 = .ok (.ireturn, 1) := by decide +kernel
def f_X12_isRoom_L54 (n : Nat) (r5 : Int → Int → Int → Int → JMem → Option (Int × JMem)) (v1 v2 v3 v4 : Int) (M : JMem) : Option (Int × JMem) := letv (v4 + 1) fun y1 => r5 v1 v2 v3 y1 M
set_option maxRecDepth 4000 in
theorem t_X12_isRoom_L54 {g : JG} {ad : Nat → Nat} (hs : jStr g ad) (n : Nat) (r5 : Int → Int → Int → Int → JMem → Option (Int × JMem)) (hr5 : ∀ (v1 v2 v3 v4 : Int) (M : JMem), jB g D_X12_isRoom ad 5 [some (.ref 167), some (ji v1), some (ji v2), some (ji v3), some (ji v4)] [] M (r5 v1 v2 v3 v4 M)) (v1 v2 v3 v4 : Int) (M : JMem) : jB g D_X12_isRoom ad 54 [some (.ref 167), some (ji v1), some (ji v2), some (ji v3), some (ji v4)] [] M (f_X12_isRoom_L54 n r5 v1 v2 v3 v4 M) := by
  unfold f_X12_isRoom_L54
  refine jo_iinc 4 d_X12_isRoom_54 rfl (Nat.le_of_ble_eq_true rfl) (fun y1 => ?_)
  refine jo_goto 5 d_X12_isRoom_57 (by decide) ?_
  exact jO.sub (hr5 v1 v2 v3 y1 M) (And.intro rfl (And.intro rfl (And.intro rfl (And.intro rfl (And.intro rfl True.intro)))))
def f_X12_isRoom_L60 (n : Nat) (v2 v3 : Int) (M : JMem) : Option (Int × JMem) := if jw v2 < jw v3 then (some (0, M)) else (some (1, M))
set_option maxRecDepth 4000 in
theorem t_X12_isRoom_L60 {g : JG} {ad : Nat → Nat} (hs : jStr g ad) (n : Nat) (v2 v3 : Int) (M : JMem) : jB g D_X12_isRoom ad 60 [none, none, some (ji v2), some (ji v3), none] [] M (f_X12_isRoom_L60 n v2 v3 M) := by
  unfold f_X12_isRoom_L60
  refine jo_iload 3 d_X12_isRoom_60 rfl rfl ?_
  refine jo_iload 2 d_X12_isRoom_61 rfl rfl ?_
  refine jo_icmp_gt 69 d_X12_isRoom_62 (by decide) ?_ ?_
  · skip
    refine jo_iconst 0 d_X12_isRoom_69 ?_
    exact jo_zret rfl (by decide) d_X12_isRoom_70
  · skip
    refine jo_iconst 1 d_X12_isRoom_65 ?_
    refine jo_goto 70 d_X12_isRoom_66 (by decide) ?_
    exact jo_zret rfl (by decide) d_X12_isRoom_70
def f_X12_isRoom_L5 (n : Nat) : Nat → Int → Int → Int → Int → JMem → Option (Int × JMem)
  | 0, _, _, _, _, _ => none
  | k + 1, v1, v2, v3, v4, M => chk (jin 2 3160) <| if jw (M 168 (jw 2).toNat) ≤ jw v4 then (f_X12_isRoom_L60 n v2 v3 M) else (bnd (f_X12_isIn n v1 v4 M) fun r1 M2 => if jw r1 = 0 then (f_X12_isRoom_L54 n (f_X12_isRoom_L5 n k) v1 v2 v3 v4 M2) else (bnd (f_X12_beastOf n v4 0 M2) fun r3 M4 => letv (v3 + r3) fun y5 => bnd (f_X12_beastOf n v4 6 M4) fun r6 M7 => if jw (jand r6 v1) = 0 then (f_X12_isRoom_L54 n (f_X12_isRoom_L5 n k) v1 v2 y5 v4 M7) else (some (0, M7))))
set_option maxRecDepth 4000 in
theorem t_X12_isRoom_L5 {g : JG} {ad : Nat → Nat} (hs : jStr g ad) (n : Nat) : ∀ (k : Nat) (v1 v2 v3 v4 : Int) (M : JMem), jB g D_X12_isRoom ad 5 [some (.ref 167), some (ji v1), some (ji v2), some (ji v3), some (ji v4)] [] M (f_X12_isRoom_L5 n k v1 v2 v3 v4 M) := by
  intro k
  induction k with
  | zero => intro v1 v2 v3 v4 M; exact jO.none
  | succ k ih =>
    intro v1 v2 v3 v4 M
    rw [f_X12_isRoom_L5]
    refine jo_iloadW 4 d_X12_isRoom_5 rfl ?_
    refine jo_aload 0 d_X12_isRoom_7 rfl rfl ?_
    refine jo_getR (k := 0) cl_12 (Nat.le_of_ble_eq_true rfl) lk_X12_7 rfl kc_167 kr_167_0 d_X12_isRoom_8 ?_
    refine jo_iconst 2 d_X12_isRoom_11 ?_
    refine jo_iald (N := 3160) kc_168 d_X12_isRoom_12 ?_
    refine jo_icmp_ge 60 d_X12_isRoom_13 (by decide) ?_ ?_
    · skip
      exact jO.sub (t_X12_isRoom_L60 hs n v2 v3 M) (And.intro rfl (And.intro rfl True.intro))
    · skip
      refine jo_aload 0 d_X12_isRoom_16 rfl rfl ?_
      refine jo_iload 1 d_X12_isRoom_17 rfl rfl ?_
      refine jo_iloadW 4 d_X12_isRoom_18 rfl ?_
      refine jo_callV (st := []) (m_X12_isIn hs n v1 v4 M) ok_X12_isIn (And.intro (Nat.le_of_ble_eq_true rfl) (Nat.le_of_ble_eq_true rfl)) lm_X12_315 in_X12_isIn se_X12_isIn rfl kc_167 rfl rfl (And.intro (Nat.zero_le _) (Nat.zero_le _)) rfl (Nat.le_of_ble_eq_true rfl) d_X12_isRoom_20 (fun r1 M2 => ?_)
      refine jo_if_ne 29 d_X12_isRoom_23 (by decide) ?_ ?_
      · skip
        refine jo_iload 3 d_X12_isRoom_29 rfl rfl ?_
        refine jo_aload 0 d_X12_isRoom_30 rfl rfl ?_
        refine jo_iloadW 4 d_X12_isRoom_31 rfl ?_
        refine jo_iconst 0 d_X12_isRoom_33 ?_
        refine jo_callV (st := [ji v3]) (m_X12_beastOf hs n v4 0 M2) ok_X12_beastOf (And.intro (Nat.le_of_ble_eq_true rfl) (Nat.le_of_ble_eq_true rfl)) lm_X12_276 in_X12_beastOf se_X12_beastOf rfl kc_167 rfl rfl (And.intro (Nat.zero_le _) (Nat.zero_le _)) rfl (Nat.le_of_ble_eq_true rfl) d_X12_isRoom_34 (fun r3 M4 => ?_)
        refine jo_iadd d_X12_isRoom_37 ?_
        refine jo_istore 3 d_X12_isRoom_38 rfl (Nat.le_of_ble_eq_true rfl) (fun y5 => ?_)
        refine jo_aload 0 d_X12_isRoom_39 rfl rfl ?_
        refine jo_iloadW 4 d_X12_isRoom_40 rfl ?_
        refine jo_bipush 6 d_X12_isRoom_42 (by decide) ?_
        refine jo_callV (st := []) (m_X12_beastOf hs n v4 6 M4) ok_X12_beastOf (And.intro (Nat.le_of_ble_eq_true rfl) (Nat.le_of_ble_eq_true rfl)) lm_X12_276 in_X12_beastOf se_X12_beastOf rfl kc_167 rfl rfl (And.intro (Nat.zero_le _) (Nat.zero_le _)) rfl (Nat.le_of_ble_eq_true rfl) d_X12_isRoom_44 (fun r6 M7 => ?_)
        refine jo_iload 1 d_X12_isRoom_47 rfl rfl ?_
        refine jo_iand d_X12_isRoom_48 ?_
        refine jo_if_eq 54 d_X12_isRoom_49 (by decide) ?_ ?_
        · skip
          exact jO.sub (t_X12_isRoom_L54 hs n (f_X12_isRoom_L5 n k) ih v1 v2 y5 v4 M7) (And.intro rfl (And.intro rfl (And.intro rfl (And.intro rfl (And.intro rfl True.intro)))))
        · skip
          refine jo_iconst 0 d_X12_isRoom_52 ?_
          exact jo_zret rfl (by decide) d_X12_isRoom_53
      · skip
        refine jo_goto 54 d_X12_isRoom_26 (by decide) ?_
        exact jO.sub (t_X12_isRoom_L54 hs n (f_X12_isRoom_L5 n k) ih v1 v2 v3 v4 M2) (And.intro rfl (And.intro rfl (And.intro rfl (And.intro rfl (And.intro rfl True.intro)))))
def f_X12_isRoom (n : Nat) (x1 : Int) (x2 : Int) (M : JMem) : Option (Int × JMem) := letv 0 fun y1 => letv 0 fun y2 => f_X12_isRoom_L5 n n x1 x2 y1 y2 M
set_option maxRecDepth 4000 in
theorem t_X12_isRoom {g : JG} {ad : Nat → Nat} (hs : jStr g ad) (n : Nat) (x1 : Int) (x2 : Int) (M : JMem) : jB g D_X12_isRoom ad 0 [some (.ref 167), some (ji x1), some (ji x2), none, none] [] M (f_X12_isRoom n x1 x2 M) := by
  unfold f_X12_isRoom
  refine jo_iconst 0 d_X12_isRoom_0 ?_
  refine jo_istore 3 d_X12_isRoom_1 rfl (Nat.le_of_ble_eq_true rfl) (fun y1 => ?_)
  refine jo_iconst 0 d_X12_isRoom_2 ?_
  refine jo_istoreW 4 d_X12_isRoom_3 (Nat.le_of_ble_eq_true rfl) (fun y2 => ?_)
  exact jO.sub (t_X12_isRoom_L5 hs n n x1 x2 y1 y2 M) (And.intro rfl (And.intro rfl (And.intro rfl (And.intro rfl (And.intro rfl True.intro)))))
theorem m_X12_isRoom {g : JG} {ad : Nat → Nat} (hs : jStr g ad) (n : Nat) (x1 : Int) (x2 : Int) (M : JMem) : jMet g jNN ad jR D_X12_isRoom yX12_isRoom [.ref 167, ji x1, ji x2] M (f_X12_isRoom n x1 x2 M) :=
  jMet.of (lo0 := [some (.ref 167), some (ji x1), some (ji x2), none, none]) (by decide) rfl rfl (Nat.le_of_ble_eq_true rfl) (And.intro rfl (And.intro rfl (And.intro rfl True.intro))) (t_X12_isRoom hs n x1 x2 M)
/-! CageLeaveModel.isSign(I)Z -/
def D_X12_isSign : JD := (RX12, cX12_isSign, 2, some .boolean, "isSign", { frames := 0, cells := 0, slots := 0, locals := 0 })
theorem ok_X12_isSign : jOk D_X12_isSign yX12_isSign 1 := ⟨jTW_mem (k := 1655) (by decide +kernel) rfl, jTW_mem (k := 151) (by decide +kernel) rfl, ⟨by decide +kernel, by decide +kernel⟩, by decide +kernel, rfl, rfl⟩
theorem in_X12_isSign : Cond.instanceMethod yX12_isSign ∈ jTW := jTW_mem (k := 1654) (by decide +kernel) rfl
theorem se_X12_isSign : Cond.selects yX12_isSign.cls yX12_isSign yX12_isSign ∈ jTW := jTW_mem (k := 74) (by decide +kernel) rfl
theorem d_X12_isSign_0 : decode (D_X12_isSign).2.1 0 = .ok (.aload_n 0, 1) := by decide +kernel
theorem d_X12_isSign_1 : decode (D_X12_isSign).2.1 1 = .ok (.getfield 132, 3) := by decide +kernel
theorem d_X12_isSign_4 : decode (D_X12_isSign).2.1 4 = .ok (.iconst 4, 1) := by decide +kernel
theorem d_X12_isSign_5 : decode (D_X12_isSign).2.1 5 = .ok (.if_icmp .ne 15, 3) := by decide +kernel
theorem d_X12_isSign_8 : decode (D_X12_isSign).2.1 8 = .ok (.aload_n 0, 1) := by decide +kernel
theorem d_X12_isSign_9 : decode (D_X12_isSign).2.1 9 = .ok (.getfield 129, 3) := by decide +kernel
theorem d_X12_isSign_12 : decode (D_X12_isSign).2.1 12 = .ok (.iload_n 1, 1) := by decide +kernel
theorem d_X12_isSign_13 : decode (D_X12_isSign).2.1 13 = .ok (.if_icmp .ne 7, 3) := by decide +kernel
theorem d_X12_isSign_16 : decode (D_X12_isSign).2.1 16 = .ok (.iconst 1, 1) := by decide +kernel
theorem d_X12_isSign_17 : decode (D_X12_isSign).2.1 17 = .ok (.goto 4, 3) := by decide +kernel
theorem d_X12_isSign_20 : decode (D_X12_isSign).2.1 20 = .ok (.iconst 0, 1) := by decide +kernel
theorem d_X12_isSign_21 : decode (D_X12_isSign).2.1 21 = .ok (.ireturn, 1) := by decide +kernel
def f_X12_isSign (n : Nat) (x1 : Int) (M : JMem) : Option (Int × JMem) := if jw (M 167 12) = jw 4 then (if jw (M 167 15) = jw x1 then (some (1, M)) else (some (0, M))) else (some (0, M))
set_option maxRecDepth 4000 in
theorem t_X12_isSign {g : JG} {ad : Nat → Nat} (hs : jStr g ad) (n : Nat) (x1 : Int) (M : JMem) : jB g D_X12_isSign ad 0 [some (.ref 167), some (ji x1)] [] M (f_X12_isSign n x1 M) := by
  unfold f_X12_isSign
  refine jo_aload 0 d_X12_isSign_0 rfl rfl ?_
  refine jo_getI (k := 12) cl_12 (Nat.le_of_ble_eq_true rfl) lk_X12_132 (Or.inl rfl) kc_167 d_X12_isSign_1 ?_
  refine jo_iconst 4 d_X12_isSign_4 ?_
  refine jo_icmp_ne 20 d_X12_isSign_5 (by decide) ?_ ?_
  · skip
    refine jo_iconst 0 d_X12_isSign_20 ?_
    exact jo_zret rfl (by decide) d_X12_isSign_21
  · skip
    refine jo_aload 0 d_X12_isSign_8 rfl rfl ?_
    refine jo_getI (k := 15) cl_12 (Nat.le_of_ble_eq_true rfl) lk_X12_129 (Or.inl rfl) kc_167 d_X12_isSign_9 ?_
    refine jo_iload 1 d_X12_isSign_12 rfl rfl ?_
    refine jo_icmp_ne 20 d_X12_isSign_13 (by decide) ?_ ?_
    · skip
      refine jo_iconst 0 d_X12_isSign_20 ?_
      exact jo_zret rfl (by decide) d_X12_isSign_21
    · skip
      refine jo_iconst 1 d_X12_isSign_16 ?_
      refine jo_goto 21 d_X12_isSign_17 (by decide) ?_
      exact jo_zret rfl (by decide) d_X12_isSign_21
theorem m_X12_isSign {g : JG} {ad : Nat → Nat} (hs : jStr g ad) (n : Nat) (x1 : Int) (M : JMem) : jMet g jNN ad jR D_X12_isSign yX12_isSign [.ref 167, ji x1] M (f_X12_isSign n x1 M) :=
  jMet.of (lo0 := [some (.ref 167), some (ji x1)]) (by decide) rfl rfl (Nat.le_of_ble_eq_true rfl) (And.intro rfl (And.intro rfl True.intro)) (t_X12_isSign hs n x1 M)
/-! CageLeaveModel.isWay(III)Z -/
def D_X12_isWay : JD := (RX12, cX12_isWay, 4, some .boolean, "isWay", { frames := 1, cells := 0, slots := 0, locals := 25 })
theorem ok_X12_isWay : jOk D_X12_isWay yX12_isWay 3 := ⟨jTW_mem (k := 1926) (by decide +kernel) rfl, jTW_mem (k := 151) (by decide +kernel) rfl, ⟨by decide +kernel, by decide +kernel⟩, by decide +kernel, rfl, rfl⟩
theorem in_X12_isWay : Cond.instanceMethod yX12_isWay ∈ jTW := jTW_mem (k := 1925) (by decide +kernel) rfl
theorem se_X12_isWay : Cond.selects yX12_isWay.cls yX12_isWay yX12_isWay ∈ jTW := jTW_mem (k := 112) (by decide +kernel) rfl
theorem lc_X12_349 : Cond.constantLong RX12 349 (Int64.ofInt 63) ∈ jTW := jTW_mem (k := 1846) (by decide +kernel) rfl
theorem d_X12_isWay_0 : decode (D_X12_isWay).2.1 0 = .ok (.aload_n 0, 1) := by decide +kernel
theorem d_X12_isWay_1 : decode (D_X12_isWay).2.1 1 = .ok (.iload_n 1, 1) := by decide +kernel
theorem d_X12_isWay_2 : decode (D_X12_isWay).2.1 2 = .ok (.invokevirtual 306, 3) := by decide +kernel
theorem d_X12_isWay_5 : decode (D_X12_isWay).2.1 5 = .ok (.ifCond .eq 27, 3) := by decide +kernel
theorem d_X12_isWay_8 : decode (D_X12_isWay).2.1 8 = .ok (.aload_n 0, 1) := by decide +kernel
theorem d_X12_isWay_9 : decode (D_X12_isWay).2.1 9 = .ok (.iload_n 3, 1) := by decide +kernel
theorem d_X12_isWay_10 : decode (D_X12_isWay).2.1 10 = .ok (.invokevirtual 306, 3) := by decide +kernel
theorem d_X12_isWay_13 : decode (D_X12_isWay).2.1 13 = .ok (.ifCond .eq 19, 3) := by decide +kernel
theorem d_X12_isWay_16 : decode (D_X12_isWay).2.1 16 = .ok (.iload_n 2, 1) := by decide +kernel
theorem d_X12_isWay_17 : decode (D_X12_isWay).2.1 17 = .ok (.i2l, 1) := by decide +kernel
theorem d_X12_isWay_18 : decode (D_X12_isWay).2.1 18 = .ok (.lconst 0, 1) := by decide +kernel
theorem d_X12_isWay_19 : decode (D_X12_isWay).2.1 19 = .ok (.ldc2_w 349, 3) := by decide +kernel
theorem d_X12_isWay_22 : decode (D_X12_isWay).2.1 22 = .ok (.invokestatic 266, 3) := by decide +kernel
theorem d_X12_isWay_25 : decode (D_X12_isWay).2.1 25 = .ok (.ifCond .eq 7, 3) := by decide +kernel
theorem d_X12_isWay_28 : decode (D_X12_isWay).2.1 28 = .ok (.iconst 1, 1) := by decide +kernel
theorem d_X12_isWay_29 : decode (D_X12_isWay).2.1 29 = .ok (.goto 4, 3) := by decide +kernel
theorem d_X12_isWay_32 : decode (D_X12_isWay).2.1 32 = .ok (.iconst 0, 1) := by decide +kernel
theorem d_X12_isWay_33 : decode (D_X12_isWay).2.1 33 = .ok (.ireturn, 1) := by decide +kernel
def f_X12_isWay (n : Nat) (x1 : Int) (x2 : Int) (x3 : Int) (M : JMem) : Option (Int × JMem) := bnd (f_X12_isPlace n x1 M) fun r1 M2 => if jw r1 = 0 then (some (0, M2)) else (bnd (f_X12_isPlace n x3 M2) fun r3 M4 => if jw r3 = 0 then (some (0, M4)) else (bnd (f_X12_isFrom n (jw x2) 0 63 M4) fun r5 M6 => if jw r5 = 0 then (some (0, M6)) else (some (1, M6))))
set_option maxRecDepth 4000 in
theorem t_X12_isWay {g : JG} {ad : Nat → Nat} (hs : jStr g ad) (n : Nat) (x1 : Int) (x2 : Int) (x3 : Int) (M : JMem) : jB g D_X12_isWay ad 0 [some (.ref 167), some (ji x1), some (ji x2), some (ji x3)] [] M (f_X12_isWay n x1 x2 x3 M) := by
  unfold f_X12_isWay
  refine jo_aload 0 d_X12_isWay_0 rfl rfl ?_
  refine jo_iload 1 d_X12_isWay_1 rfl rfl ?_
  refine jo_callV (st := []) (m_X12_isPlace hs n x1 M) ok_X12_isPlace (And.intro (Nat.le_of_ble_eq_true rfl) (Nat.le_of_ble_eq_true rfl)) lm_X12_306 in_X12_isPlace se_X12_isPlace rfl kc_167 rfl rfl (And.intro (Nat.zero_le _) (Nat.zero_le _)) rfl (Nat.le_of_ble_eq_true rfl) d_X12_isWay_2 (fun r1 M2 => ?_)
  refine jo_if_eq 32 d_X12_isWay_5 (by decide) ?_ ?_
  · skip
    refine jo_iconst 0 d_X12_isWay_32 ?_
    exact jo_zret rfl (by decide) d_X12_isWay_33
  · skip
    refine jo_aload 0 d_X12_isWay_8 rfl rfl ?_
    refine jo_iload 3 d_X12_isWay_9 rfl rfl ?_
    refine jo_callV (st := []) (m_X12_isPlace hs n x3 M2) ok_X12_isPlace (And.intro (Nat.le_of_ble_eq_true rfl) (Nat.le_of_ble_eq_true rfl)) lm_X12_306 in_X12_isPlace se_X12_isPlace rfl kc_167 rfl rfl (And.intro (Nat.zero_le _) (Nat.zero_le _)) rfl (Nat.le_of_ble_eq_true rfl) d_X12_isWay_10 (fun r3 M4 => ?_)
    refine jo_if_eq 32 d_X12_isWay_13 (by decide) ?_ ?_
    · skip
      refine jo_iconst 0 d_X12_isWay_32 ?_
      exact jo_zret rfl (by decide) d_X12_isWay_33
    · skip
      refine jo_iload 2 d_X12_isWay_16 rfl rfl ?_
      refine jo_i2l d_X12_isWay_17 ?_
      refine jo_lconst0 d_X12_isWay_18 ?_
      refine jo_ldc2 63 lc_X12_349 d_X12_isWay_19 ?_
      refine jo_callS (st := []) (m_X12_isFrom hs n (jw x2) 0 63 M4) ok_X12_isFrom (And.intro (Nat.le_of_ble_eq_true rfl) (Nat.le_of_ble_eq_true rfl)) lm_X12_266 st_X12_isFrom rfl (And.intro (Nat.zero_le _) (Nat.zero_le _)) rfl (Nat.le_of_ble_eq_true rfl) d_X12_isWay_22 (fun r5 M6 => ?_)
      refine jo_if_eq 32 d_X12_isWay_25 (by decide) ?_ ?_
      · skip
        refine jo_iconst 0 d_X12_isWay_32 ?_
        exact jo_zret rfl (by decide) d_X12_isWay_33
      · skip
        refine jo_iconst 1 d_X12_isWay_28 ?_
        refine jo_goto 33 d_X12_isWay_29 (by decide) ?_
        exact jo_zret rfl (by decide) d_X12_isWay_33
theorem m_X12_isWay {g : JG} {ad : Nat → Nat} (hs : jStr g ad) (n : Nat) (x1 : Int) (x2 : Int) (x3 : Int) (M : JMem) : jMet g jNN ad jR D_X12_isWay yX12_isWay [.ref 167, ji x1, ji x2, ji x3] M (f_X12_isWay n x1 x2 x3 M) :=
  jMet.of (lo0 := [some (.ref 167), some (ji x1), some (ji x2), some (ji x3)]) (by decide) rfl rfl (Nat.le_of_ble_eq_true rfl) (And.intro rfl (And.intro rfl (And.intro rfl (And.intro rfl True.intro)))) (t_X12_isWay hs n x1 x2 x3 M)
/-! CageLeaveModel.lateBy()I -/
def D_X12_lateBy : JD := (RX12, cX12_lateBy, 1, some .int, "lateBy", { frames := 9, cells := 0, slots := 0, locals := 195 })
theorem ok_X12_lateBy : jOk D_X12_lateBy yX12_lateBy 0 := ⟨jTW_mem (k := 1894) (by decide +kernel) rfl, jTW_mem (k := 151) (by decide +kernel) rfl, ⟨by decide +kernel, by decide +kernel⟩, by decide +kernel, rfl, rfl⟩
theorem in_X12_lateBy : Cond.instanceMethod yX12_lateBy ∈ jTW := jTW_mem (k := 1892) (by decide +kernel) rfl
theorem se_X12_lateBy : Cond.selects yX12_lateBy.cls yX12_lateBy yX12_lateBy ∈ jTW := jTW_mem (k := 1893) (by decide +kernel) rfl
theorem d_X12_lateBy_0 : decode (D_X12_lateBy).2.1 0 = .ok (.aload_n 0, 1) := by decide +kernel
theorem d_X12_lateBy_1 : decode (D_X12_lateBy).2.1 1 = .ok (.invokevirtual 363, 3) := by decide +kernel
theorem d_X12_lateBy_4 : decode (D_X12_lateBy).2.1 4 = .ok (.aload_n 0, 1) := by decide +kernel
theorem d_X12_lateBy_5 : decode (D_X12_lateBy).2.1 5 = .ok (.aload_n 0, 1) := by decide +kernel
theorem d_X12_lateBy_6 : decode (D_X12_lateBy).2.1 6 = .ok (.getfield 351, 3) := by decide +kernel
theorem d_X12_lateBy_9 : decode (D_X12_lateBy).2.1 9 = .ok (.invokevirtual 91, 3) := by decide +kernel
theorem d_X12_lateBy_12 : decode (D_X12_lateBy).2.1 12 = .ok (.ireturn, 1) := by decide +kernel
def f_X12_lateBy (n : Nat) (M : JMem) : Option (Int × JMem) := bnd (f_X12_laysWeek n M) fun _ M2 => bnd (f_X12_gives n (M2 167 27) M2) fun r3 M4 => some (r3, M4)
set_option maxRecDepth 4000 in
theorem t_X12_lateBy {g : JG} {ad : Nat → Nat} (hs : jStr g ad) (n : Nat) (M : JMem) : jB g D_X12_lateBy ad 0 [some (.ref 167)] [] M (f_X12_lateBy n M) := by
  unfold f_X12_lateBy
  refine jo_aload 0 d_X12_lateBy_0 rfl rfl ?_
  refine jo_callV (st := []) (m_X12_laysWeek hs n M) ok_X12_laysWeek (And.intro (Nat.le_of_ble_eq_true rfl) (Nat.le_of_ble_eq_true rfl)) lm_X12_363 in_X12_laysWeek se_X12_laysWeek rfl kc_167 rfl rfl (And.intro (Nat.zero_le _) (Nat.zero_le _)) rfl (Nat.le_of_ble_eq_true rfl) d_X12_lateBy_1 (fun _ M2 => ?_)
  refine jo_aload 0 d_X12_lateBy_4 rfl rfl ?_
  refine jo_aload 0 d_X12_lateBy_5 rfl rfl ?_
  refine jo_getI (k := 27) cl_12 (Nat.le_of_ble_eq_true rfl) lk_X12_351 (Or.inl rfl) kc_167 d_X12_lateBy_6 ?_
  refine jo_callV (st := []) (m_X12_gives hs n (M2 167 27) M2) ok_X12_gives (And.intro (Nat.le_of_ble_eq_true rfl) (Nat.le_of_ble_eq_true rfl)) lm_X12_91 in_X12_gives se_X12_gives rfl kc_167 rfl rfl (And.intro (Nat.zero_le _) (Nat.zero_le _)) rfl (Nat.le_of_ble_eq_true rfl) d_X12_lateBy_9 (fun r3 M4 => ?_)
  exact jo_iret rfl d_X12_lateBy_12
theorem m_X12_lateBy {g : JG} {ad : Nat → Nat} (hs : jStr g ad) (n : Nat) (M : JMem) : jMet g jNN ad jR D_X12_lateBy yX12_lateBy [.ref 167] M (f_X12_lateBy n M) :=
  jMet.of (lo0 := [some (.ref 167)]) (by decide) rfl rfl (Nat.le_of_ble_eq_true rfl) (And.intro rfl True.intro) (t_X12_lateBy hs n M)
end

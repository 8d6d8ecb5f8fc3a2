section
/-! CageLeave.monday()I -/
def D_X11_monday : JD := (RX11, cX11_monday, 1, some .int, "monday", { frames := 2, cells := 0, slots := 0, locals := 45 })
theorem ok_X11_monday : jOk D_X11_monday yX11_monday 0 := ⟨jTW_mem (k := 1046) (by decide +kernel) rfl, jTW_mem (k := 135) (by decide +kernel) rfl, ⟨by decide +kernel, by decide +kernel⟩, by decide +kernel, rfl, rfl⟩
theorem in_X11_monday : Cond.instanceMethod yX11_monday ∈ jTW := jTW_mem (k := 1044) (by decide +kernel) rfl
theorem se_X11_monday : Cond.selects yX11_monday.cls yX11_monday yX11_monday ∈ jTW := jTW_mem (k := 1045) (by decide +kernel) rfl
theorem lk_X11_221 : Cond.fieldLink RX11 221 (TX1 0).1 (TX1 0).2.1 (TX1 0).2.2.1 ∈ jTW := jTW_mem (k := 402) (by decide +kernel) rfl
theorem d_X11_monday_0 : decode (D_X11_monday).2.1 0 = .ok (.aload_n 0, 1) := by decide +kernel
theorem d_X11_monday_1 : decode (D_X11_monday).2.1 1 = .ok (.getfield 60, 3) := by decide +kernel
theorem d_X11_monday_4 : decode (D_X11_monday).2.1 4 = .ok (.getfield 221, 3) := by decide +kernel
theorem d_X11_monday_7 : decode (D_X11_monday).2.1 7 = .ok (.sipush 999, 3) := by decide +kernel
theorem d_X11_monday_10 : decode (D_X11_monday).2.1 10 = .ok (.if_icmp .lt 9, 3) := by decide +kernel
theorem d_X11_monday_13 : decode (D_X11_monday).2.1 13 = .ok (.aload_n 0, 1) := by decide +kernel
theorem d_X11_monday_14 : decode (D_X11_monday).2.1 14 = .ok (.iconst 4, 1) := by decide +kernel
theorem d_X11_monday_15 : decode (D_X11_monday).2.1 15 = .ok (.invokevirtual 143, 3) := by decide +kernel
theorem d_X11_monday_18 : decode (D_X11_monday).2.1 18 = .ok (.ireturn, 1) := by decide +kernel
theorem d_X11_monday_19 : decode (D_X11_monday).2.1 19 = .ok (.aload_n 0, 1) := by decide +kernel
theorem d_X11_monday_20 : decode (D_X11_monday).2.1 20 = .ok (.getfield 60, 3) := by decide +kernel
theorem d_X11_monday_23 : decode (D_X11_monday).2.1 23 = .ok (.getfield 224, 3) := by decide +kernel
theorem d_X11_monday_26 : decode (D_X11_monday).2.1 26 = .ok (.bipush 64, 2) := by decide +kernel
theorem d_X11_monday_28 : decode (D_X11_monday).2.1 28 = .ok (.if_icmp .ge 10, 3) := by decide +kernel
theorem d_X11_monday_31 : decode (D_X11_monday).2.1 31 = .ok (.aload_n 0, 1) := by decide +kernel
theorem d_X11_monday_32 : decode (D_X11_monday).2.1 32 = .ok (.bipush 7, 2) := by decide +kernel
theorem d_X11_monday_34 : decode (D_X11_monday).2.1 34 = .ok (.invokevirtual 143, 3) := by decide +kernel
theorem d_X11_monday_37 : decode (D_X11_monday).2.1 37 = .ok (.ireturn, 1) := by decide +kernel
theorem d_X11_monday_38 : decode (D_X11_monday).2.1 38 = .ok (.aload_n 0, 1) := by decide +kernel
theorem d_X11_monday_39 : decode (D_X11_monday).2.1 39 = .ok (.aload_n 0, 1) := by decide +kernel
theorem d_X11_monday_40 : decode (D_X11_monday).2.1 40 = .ok (.getfield 60, 3) := by decide +kernel
theorem d_X11_monday_43 : decode (D_X11_monday).2.1 43 = .ok (.aload_n 0, 1) := by decide +kernel
theorem d_X11_monday_44 : decode (D_X11_monday).2.1 44 = .ok (.getfield 53, 3) := by decide +kernel
theorem d_X11_monday_47 : decode (D_X11_monday).2.1 47 = .ok (.invokevirtual 306, 3) := by decide +kernel
theorem d_X11_monday_50 : decode (D_X11_monday).2.1 50 = .ok (.invokevirtual 193, 3) := by decide +kernel
theorem d_X11_monday_53 : decode (D_X11_monday).2.1 53 = .ok (.ireturn, 1) := by decide +kernel
def f_X11_monday (n : Nat) (M : JMem) : Option (Int × JMem) := if jw (M 52 0) < jw 999 then (if jw 64 ≤ jw (M 52 1) then (bnd (f_X1_fetchAll n 52 40 M) fun r1 M2 => bnd (f_X11_answer n r1 M2) fun r3 M4 => some (r3, M4)) else (bnd (f_X11_refuse n 7 M) fun r5 M6 => some (r5, M6))) else (bnd (f_X11_refuse n 4 M) fun r7 M8 => some (r7, M8))
set_option maxRecDepth 4000 in
theorem t_X11_monday {g : JG} {ad : Nat → Nat} (hs : jStr g ad) (n : Nat) (M : JMem) : jB g D_X11_monday ad 0 [some (.ref 0)] [] M (f_X11_monday n M) := by
  unfold f_X11_monday
  refine jo_aload 0 d_X11_monday_0 rfl rfl ?_
  refine jo_getR (k := 8) cl_11 (Nat.le_of_ble_eq_true rfl) lk_X11_60 rfl kc_0 kr_0_8 d_X11_monday_1 ?_
  refine jo_getI (k := 0) cl_1 (Nat.le_of_ble_eq_true rfl) lk_X11_221 (Or.inl rfl) kc_52 d_X11_monday_4 ?_
  refine jo_sipush 999 d_X11_monday_7 (by decide) ?_
  refine jo_icmp_lt 19 d_X11_monday_10 (by decide) ?_ ?_
  · skip
    refine jo_aload 0 d_X11_monday_19 rfl rfl ?_
    refine jo_getR (k := 8) cl_11 (Nat.le_of_ble_eq_true rfl) lk_X11_60 rfl kc_0 kr_0_8 d_X11_monday_20 ?_
    refine jo_getI (k := 1) cl_1 (Nat.le_of_ble_eq_true rfl) lk_X11_224 (Or.inl rfl) kc_52 d_X11_monday_23 ?_
    refine jo_bipush 64 d_X11_monday_26 (by decide) ?_
    refine jo_icmp_ge 38 d_X11_monday_28 (by decide) ?_ ?_
    · skip
      refine jo_aload 0 d_X11_monday_38 rfl rfl ?_
      refine jo_aload 0 d_X11_monday_39 rfl rfl ?_
      refine jo_getR (k := 8) cl_11 (Nat.le_of_ble_eq_true rfl) lk_X11_60 rfl kc_0 kr_0_8 d_X11_monday_40 ?_
      refine jo_aload 0 d_X11_monday_43 rfl rfl ?_
      refine jo_getR (k := 7) cl_11 (Nat.le_of_ble_eq_true rfl) lk_X11_53 rfl kc_0 kr_0_7 d_X11_monday_44 ?_
      refine jo_callV (st := [.ref 0]) (m_X1_fetchAll hs n 52 40 kc_52 kc_40 M) ok_X1_fetchAll (And.intro (Nat.le_of_ble_eq_true rfl) (Nat.le_of_ble_eq_true rfl)) lm_X11_306 in_X1_fetchAll se_X1_fetchAll rfl kc_52 rfl rfl (And.intro (Nat.zero_le _) (Nat.zero_le _)) rfl (Nat.le_of_ble_eq_true rfl) d_X11_monday_47 (fun r1 M2 => ?_)
      refine jo_callV (st := []) (m_X11_answer hs n r1 M2) ok_X11_answer (And.intro (Nat.le_of_ble_eq_true rfl) (Nat.le_of_ble_eq_true rfl)) lm_X11_193 in_X11_answer se_X11_answer rfl kc_0 rfl rfl (And.intro (Nat.zero_le _) (Nat.zero_le _)) rfl (Nat.le_of_ble_eq_true rfl) d_X11_monday_50 (fun r3 M4 => ?_)
      exact jo_iret rfl d_X11_monday_53
    · skip
      refine jo_aload 0 d_X11_monday_31 rfl rfl ?_
      refine jo_bipush 7 d_X11_monday_32 (by decide) ?_
      refine jo_callV (st := []) (m_X11_refuse hs n 7 M) ok_X11_refuse (And.intro (Nat.le_of_ble_eq_true rfl) (Nat.le_of_ble_eq_true rfl)) lm_X11_143 in_X11_refuse se_X11_refuse rfl kc_0 rfl rfl (And.intro (Nat.zero_le _) (Nat.zero_le _)) rfl (Nat.le_of_ble_eq_true rfl) d_X11_monday_34 (fun r5 M6 => ?_)
      exact jo_iret rfl d_X11_monday_37
  · skip
    refine jo_aload 0 d_X11_monday_13 rfl rfl ?_
    refine jo_iconst 4 d_X11_monday_14 ?_
    refine jo_callV (st := []) (m_X11_refuse hs n 4 M) ok_X11_refuse (And.intro (Nat.le_of_ble_eq_true rfl) (Nat.le_of_ble_eq_true rfl)) lm_X11_143 in_X11_refuse se_X11_refuse rfl kc_0 rfl rfl (And.intro (Nat.zero_le _) (Nat.zero_le _)) rfl (Nat.le_of_ble_eq_true rfl) d_X11_monday_15 (fun r7 M8 => ?_)
    exact jo_iret rfl d_X11_monday_18
theorem m_X11_monday {g : JG} {ad : Nat → Nat} (hs : jStr g ad) (n : Nat) (M : JMem) : jMet g jNN ad jR D_X11_monday yX11_monday [.ref 0] M (f_X11_monday n M) :=
  jMet.of (lo0 := [some (.ref 0)]) (by decide) rfl rfl (Nat.le_of_ble_eq_true rfl) (And.intro rfl True.intro) (t_X11_monday hs n M)
/-! CageLeave.most()I -/
def D_X11_most : JD := (RX11, cX11_most, 4, some .int, "most", { frames := 5, cells := 0, slots := 0, locals := 125 })
theorem ok_X11_most : jOk D_X11_most yX11_most 0 := ⟨jTW_mem (k := 1149) (by decide +kernel) rfl, jTW_mem (k := 135) (by decide +kernel) rfl, ⟨by decide +kernel, by decide +kernel⟩, by decide +kernel, rfl, rfl⟩
theorem in_X11_most : Cond.instanceMethod yX11_most ∈ jTW := jTW_mem (k := 1147) (by decide +kernel) rfl
theorem se_X11_most : Cond.selects yX11_most.cls yX11_most yX11_most ∈ jTW := jTW_mem (k := 1148) (by decide +kernel) rfl
theorem d_X11_most_0 : decode (D_X11_most).2.1 0 = .ok (.iconst 0, 1) := by decide +kernel
theorem d_X11_most_1 : decode (D_X11_most).2.1 1 = .ok (.istore_n 1, 1) := by decide +kernel
theorem d_X11_most_2 : decode (D_X11_most).2.1 2 = .ok (.iconst 0, 1) := by decide +kernel
theorem d_X11_most_3 : decode (D_X11_most).2.1 3 = .ok (.istore_n 2, 1) := by decide +kernel
theorem d_X11_most_4 : decode (D_X11_most).2.1 4 = .ok (.iload_n 2, 1) := by decide +kernel
theorem d_X11_most_5 : decode (D_X11_most).2.1 5 = .ok (.iconst 1, 1) := by decide +kernel
theorem d_X11_most_6 : decode (D_X11_most).2.1 6 = .ok (.aload_n 0, 1) := by decide +kernel
theorem d_X11_most_7 : decode (D_X11_most).2.1 7 = .ok (.getfield 53, 3) := by decide +kernel
theorem d_X11_most_10 : decode (D_X11_most).2.1 10 = .ok (.getfield 190, 3) := by decide +kernel
theorem d_X11_most_13 : decode (D_X11_most).2.1 13 = .ok (.ishl, 1) := by decide +kernel
theorem d_X11_most_14 : decode (D_X11_most).2.1 14 = .ok (.if_icmp .ge 52, 3) := by decide +kernel
theorem d_X11_most_17 : decode (D_X11_most).2.1 17 = .ok (.iload_n 2, 1) := by decide +kernel
theorem d_X11_most_18 : decode (D_X11_most).2.1 18 = .ok (.invokestatic 341, 3) := by decide +kernel
theorem d_X11_most_21 : decode (D_X11_most).2.1 21 = .ok (.iload_n 1, 1) := by decide +kernel
theorem d_X11_most_22 : decode (D_X11_most).2.1 22 = .ok (.invokestatic 341, 3) := by decide +kernel
theorem d_X11_most_25 : decode (D_X11_most).2.1 25 = .ok (.if_icmp .le 7, 3) := by decide +kernel
theorem d_X11_most_28 : decode (D_X11_most).2.1 28 = .ok (.iconst 1, 1) := by decide +kernel
theorem d_X11_most_29 : decode (D_X11_most).2.1 29 = .ok (.goto 4, 3) := by decide +kernel
theorem d_X11_most_32 : decode (D_X11_most).2.1 32 = .ok (.iconst 0, 1) := by decide +kernel
theorem d_X11_most_33 : decode (D_X11_most).2.1 33 = .ok (.istore_n 3, 1) := by decide +kernel
theorem d_X11_most_34 : decode (D_X11_most).2.1 34 = .ok (.iload_n 3, 1) := by decide +kernel
theorem d_X11_most_35 : decode (D_X11_most).2.1 35 = .ok (.ifCond .eq 25, 3) := by decide +kernel
theorem d_X11_most_38 : decode (D_X11_most).2.1 38 = .ok (.iload_n 2, 1) := by decide +kernel
theorem d_X11_most_39 : decode (D_X11_most).2.1 39 = .ok (.aload_n 0, 1) := by decide +kernel
theorem d_X11_most_40 : decode (D_X11_most).2.1 40 = .ok (.getfield 60, 3) := by decide +kernel
theorem d_X11_most_43 : decode (D_X11_most).2.1 43 = .ok (.getfield 230, 3) := by decide +kernel
theorem d_X11_most_46 : decode (D_X11_most).2.1 46 = .ok (.iand, 1) := by decide +kernel
theorem d_X11_most_47 : decode (D_X11_most).2.1 47 = .ok (.ifCond .ne 13, 3) := by decide +kernel
theorem d_X11_most_50 : decode (D_X11_most).2.1 50 = .ok (.aload_n 0, 1) := by decide +kernel
theorem d_X11_most_51 : decode (D_X11_most).2.1 51 = .ok (.iload_n 2, 1) := by decide +kernel
theorem d_X11_most_52 : decode (D_X11_most).2.1 52 = .ok (.invokevirtual 338, 3) := by decide +kernel
theorem d_X11_most_55 : decode (D_X11_most).2.1 55 = .ok (.ifCond .ne 5, 3) := by decide +kernel
theorem d_X11_most_58 : decode (D_X11_most).2.1 58 = .ok (.iload_n 2, 1) := by decide +kernel
theorem d_X11_most_59 : decode (D_X11_most).2.1 59 = .ok (.istore_n 1, 1) := by decide +kernel
theorem d_X11_most_60 : decode (D_X11_most).2.1 60 = .ok (.iinc 2 1, 3) := by decide +kernel
theorem d_X11_most_63 : decode (D_X11_most).2.1 63 = .ok (.goto (-59), 3) := by decide +kernel
theorem d_X11_most_66 : decode (D_X11_most).2.1 66 = .ok (.aload_n 0, 1) := by decide +kernel
theorem d_X11_most_67 : decode (D_X11_most).2.1 67 = .ok (.iload_n 1, 1) := by decide +kernel
theorem d_X11_most_68 : decode (D_X11_most).2.1 68 = .ok (.invokevirtual 193, 3) := by decide +kernel
theorem d_X11_most_71 : decode (D_X11_most).2.1 71 = .ok (.ireturn, 1) := by decide +kernel
def f_X11_most_L60 (n : Nat) (r4 : Int → Int → JMem → Option (Int × JMem)) (v1 v2 : Int) (M : JMem) : Option (Int × JMem) := letv (v2 + 1) fun y1 => r4 v1 y1 M
set_option maxRecDepth 4000 in
theorem t_X11_most_L60 {g : JG} {ad : Nat → Nat} (hs : jStr g ad) (n : Nat) (r4 : Int → Int → JMem → Option (Int × JMem)) (hr4 : ∀ (v1 v2 : Int) (M : JMem), jB g D_X11_most ad 4 [some (.ref 0), some (ji v1), some (ji v2), none] [] M (r4 v1 v2 M)) (v1 v2 : Int) (M : JMem) : jB g D_X11_most ad 60 [some (.ref 0), some (ji v1), some (ji v2), none] [] M (f_X11_most_L60 n r4 v1 v2 M) := by
  unfold f_X11_most_L60
  refine jo_iinc 2 d_X11_most_60 rfl (Nat.le_of_ble_eq_true rfl) (fun y1 => ?_)
  refine jo_goto 4 d_X11_most_63 (by decide) ?_
  exact jO.sub (hr4 v1 y1 M) (And.intro rfl (And.intro rfl (And.intro rfl True.intro)))
def f_X11_most_L33 (n : Nat) (r4 : Int → Int → JMem → Option (Int × JMem)) (v1 v2 w0 : Int) (M : JMem) : Option (Int × JMem) := letv w0 fun y1 => if jw y1 = 0 then (f_X11_most_L60 n r4 v1 v2 M) else (if jw (jand v2 (M 52 3)) = 0 then (bnd (f_X11_eatenOutside n v2 M) fun r2 M3 => if jw r2 = 0 then (letv v2 fun y4 => f_X11_most_L60 n r4 y4 v2 M3) else (f_X11_most_L60 n r4 v1 v2 M3)) else (f_X11_most_L60 n r4 v1 v2 M))
set_option maxRecDepth 4000 in
theorem t_X11_most_L33 {g : JG} {ad : Nat → Nat} (hs : jStr g ad) (n : Nat) (r4 : Int → Int → JMem → Option (Int × JMem)) (hr4 : ∀ (v1 v2 : Int) (M : JMem), jB g D_X11_most ad 4 [some (.ref 0), some (ji v1), some (ji v2), none] [] M (r4 v1 v2 M)) (v1 v2 w0 : Int) (M : JMem) : jB g D_X11_most ad 33 [some (.ref 0), some (ji v1), some (ji v2), none] [ji w0] M (f_X11_most_L33 n r4 v1 v2 w0 M) := by
  unfold f_X11_most_L33
  refine jo_istore 3 d_X11_most_33 rfl (Nat.le_of_ble_eq_true rfl) (fun y1 => ?_)
  refine jo_iload 3 d_X11_most_34 rfl rfl ?_
  refine jo_if_eq 60 d_X11_most_35 (by decide) ?_ ?_
  · skip
    exact jO.sub (t_X11_most_L60 hs n r4 hr4 v1 v2 M) (And.intro rfl (And.intro rfl (And.intro rfl True.intro)))
  · skip
    refine jo_iload 2 d_X11_most_38 rfl rfl ?_
    refine jo_aload 0 d_X11_most_39 rfl rfl ?_
    refine jo_getR (k := 8) cl_11 (Nat.le_of_ble_eq_true rfl) lk_X11_60 rfl kc_0 kr_0_8 d_X11_most_40 ?_
    refine jo_getI (k := 3) cl_1 (Nat.le_of_ble_eq_true rfl) lk_X11_230 (Or.inl rfl) kc_52 d_X11_most_43 ?_
    refine jo_iand d_X11_most_46 ?_
    refine jo_if_ne 60 d_X11_most_47 (by decide) ?_ ?_
    · skip
      exact jO.sub (t_X11_most_L60 hs n r4 hr4 v1 v2 M) (And.intro rfl (And.intro rfl (And.intro rfl True.intro)))
    · skip
      refine jo_aload 0 d_X11_most_50 rfl rfl ?_
      refine jo_iload 2 d_X11_most_51 rfl rfl ?_
      refine jo_callV (st := []) (m_X11_eatenOutside hs n v2 M) ok_X11_eatenOutside (And.intro (Nat.le_of_ble_eq_true rfl) (Nat.le_of_ble_eq_true rfl)) lm_X11_338 in_X11_eatenOutside se_X11_eatenOutside rfl kc_0 rfl rfl (And.intro (Nat.zero_le _) (Nat.zero_le _)) rfl (Nat.le_of_ble_eq_true rfl) d_X11_most_52 (fun r2 M3 => ?_)
      refine jo_if_ne 60 d_X11_most_55 (by decide) ?_ ?_
      · skip
        exact jO.sub (t_X11_most_L60 hs n r4 hr4 v1 v2 M3) (And.intro rfl (And.intro rfl (And.intro rfl True.intro)))
      · skip
        refine jo_iload 2 d_X11_most_58 rfl rfl ?_
        refine jo_istore 1 d_X11_most_59 rfl (Nat.le_of_ble_eq_true rfl) (fun y4 => ?_)
        exact jO.sub (t_X11_most_L60 hs n r4 hr4 y4 v2 M3) (And.intro rfl (And.intro rfl (And.intro rfl True.intro)))
def f_X11_most_L66 (n : Nat) (v1 : Int) (M : JMem) : Option (Int × JMem) := bnd (f_X11_answer n v1 M) fun r1 M2 => some (r1, M2)
set_option maxRecDepth 4000 in
theorem t_X11_most_L66 {g : JG} {ad : Nat → Nat} (hs : jStr g ad) (n : Nat) (v1 : Int) (M : JMem) : jB g D_X11_most ad 66 [some (.ref 0), some (ji v1), none, none] [] M (f_X11_most_L66 n v1 M) := by
  unfold f_X11_most_L66
  refine jo_aload 0 d_X11_most_66 rfl rfl ?_
  refine jo_iload 1 d_X11_most_67 rfl rfl ?_
  refine jo_callV (st := []) (m_X11_answer hs n v1 M) ok_X11_answer (And.intro (Nat.le_of_ble_eq_true rfl) (Nat.le_of_ble_eq_true rfl)) lm_X11_193 in_X11_answer se_X11_answer rfl kc_0 rfl rfl (And.intro (Nat.zero_le _) (Nat.zero_le _)) rfl (Nat.le_of_ble_eq_true rfl) d_X11_most_68 (fun r1 M2 => ?_)
  exact jo_iret rfl d_X11_most_71
def f_X11_most_L4 (n : Nat) : Nat → Int → Int → JMem → Option (Int × JMem)
  | 0, _, _, _ => none
  | k + 1, v1, v2, M => if jw (jshl 1 (M 40 2)) ≤ jw v2 then (f_X11_most_L66 n v1 M) else (bnd (f_J6_bitCount_0f7a4 n v2 M) fun r1 M2 => bnd (f_J6_bitCount_0f7a4 n v1 M2) fun r3 M4 => if jw r1 ≤ jw r3 then (f_X11_most_L33 n (f_X11_most_L4 n k) v1 v2 0 M4) else (f_X11_most_L33 n (f_X11_most_L4 n k) v1 v2 1 M4))
set_option maxRecDepth 4000 in
theorem t_X11_most_L4 {g : JG} {ad : Nat → Nat} (hs : jStr g ad) (n : Nat) : ∀ (k : Nat) (v1 v2 : Int) (M : JMem), jB g D_X11_most ad 4 [some (.ref 0), some (ji v1), some (ji v2), none] [] M (f_X11_most_L4 n k v1 v2 M) := by
  intro k
  induction k with
  | zero => intro v1 v2 M; exact jO.none
  | succ k ih =>
    intro v1 v2 M
    rw [f_X11_most_L4]
    refine jo_iload 2 d_X11_most_4 rfl rfl ?_
    refine jo_iconst 1 d_X11_most_5 ?_
    refine jo_aload 0 d_X11_most_6 rfl rfl ?_
    refine jo_getR (k := 7) cl_11 (Nat.le_of_ble_eq_true rfl) lk_X11_53 rfl kc_0 kr_0_7 d_X11_most_7 ?_
    refine jo_getI (k := 2) cl_4 (Nat.le_of_ble_eq_true rfl) lk_X11_190 (Or.inl rfl) kc_40 d_X11_most_10 ?_
    refine jo_ishl d_X11_most_13 ?_
    refine jo_icmp_ge 66 d_X11_most_14 (by decide) ?_ ?_
    · skip
      exact jO.sub (t_X11_most_L66 hs n v1 M) (And.intro rfl (And.intro rfl True.intro))
    · skip
      refine jo_iload 2 d_X11_most_17 rfl rfl ?_
      refine jo_callS (st := []) (m_J6_bitCount_0f7a4 hs n v2 M) ok_J6_bitCount_0f7a4 (And.intro (Nat.le_of_ble_eq_true rfl) (Nat.le_of_ble_eq_true rfl)) lm_X11_341 st_J6_bitCount_0f7a4 rfl (And.intro (Nat.zero_le _) (Nat.zero_le _)) rfl (Nat.le_of_ble_eq_true rfl) d_X11_most_18 (fun r1 M2 => ?_)
      refine jo_iload 1 d_X11_most_21 rfl rfl ?_
      refine jo_callS (st := [ji r1]) (m_J6_bitCount_0f7a4 hs n v1 M2) ok_J6_bitCount_0f7a4 (And.intro (Nat.le_of_ble_eq_true rfl) (Nat.le_of_ble_eq_true rfl)) lm_X11_341 st_J6_bitCount_0f7a4 rfl (And.intro (Nat.zero_le _) (Nat.zero_le _)) rfl (Nat.le_of_ble_eq_true rfl) d_X11_most_22 (fun r3 M4 => ?_)
      refine jo_icmp_le 32 d_X11_most_25 (by decide) ?_ ?_
      · skip
        refine jo_iconst 0 d_X11_most_32 ?_
        exact jO.sub (t_X11_most_L33 hs n (f_X11_most_L4 n k) ih v1 v2 0 M4) (And.intro rfl (And.intro rfl (And.intro rfl True.intro)))
      · skip
        refine jo_iconst 1 d_X11_most_28 ?_
        refine jo_goto 33 d_X11_most_29 (by decide) ?_
        exact jO.sub (t_X11_most_L33 hs n (f_X11_most_L4 n k) ih v1 v2 1 M4) (And.intro rfl (And.intro rfl (And.intro rfl True.intro)))
def f_X11_most (n : Nat) (M : JMem) : Option (Int × JMem) := letv 0 fun y1 => letv 0 fun y2 => f_X11_most_L4 n n y1 y2 M
set_option maxRecDepth 4000 in
theorem t_X11_most {g : JG} {ad : Nat → Nat} (hs : jStr g ad) (n : Nat) (M : JMem) : jB g D_X11_most ad 0 [some (.ref 0), none, none, none] [] M (f_X11_most n M) := by
  unfold f_X11_most
  refine jo_iconst 0 d_X11_most_0 ?_
  refine jo_istore 1 d_X11_most_1 rfl (Nat.le_of_ble_eq_true rfl) (fun y1 => ?_)
  refine jo_iconst 0 d_X11_most_2 ?_
  refine jo_istore 2 d_X11_most_3 rfl (Nat.le_of_ble_eq_true rfl) (fun y2 => ?_)
  exact jO.sub (t_X11_most_L4 hs n n y1 y2 M) (And.intro rfl (And.intro rfl (And.intro rfl True.intro)))
theorem m_X11_most {g : JG} {ad : Nat → Nat} (hs : jStr g ad) (n : Nat) (M : JMem) : jMet g jNN ad jR D_X11_most yX11_most [.ref 0] M (f_X11_most n M) :=
  jMet.of (lo0 := [some (.ref 0), none, none, none]) (by decide) rfl rfl (Nat.le_of_ble_eq_true rfl) (And.intro rfl True.intro) (t_X11_most hs n M)
/-! CageLeave.mourn(I)Z -/
def D_X11_mourn : JD := (RX11, cX11_mourn, 2, some .boolean, "mourn", { frames := 2, cells := 0, slots := 0, locals := 42 })
theorem ok_X11_mourn : jOk D_X11_mourn yX11_mourn 1 := ⟨jTW_mem (k := 1088) (by decide +kernel) rfl, jTW_mem (k := 135) (by decide +kernel) rfl, ⟨by decide +kernel, by decide +kernel⟩, by decide +kernel, rfl, rfl⟩
theorem in_X11_mourn : Cond.instanceMethod yX11_mourn ∈ jTW := jTW_mem (k := 1086) (by decide +kernel) rfl
theorem se_X11_mourn : Cond.selects yX11_mourn.cls yX11_mourn yX11_mourn ∈ jTW := jTW_mem (k := 1087) (by decide +kernel) rfl
theorem lk_X11_292 : Cond.fieldLink RX11 292 (TX1 7).1 (TX1 7).2.1 (TX1 7).2.2.1 ∈ jTW := jTW_mem (k := 421) (by decide +kernel) rfl
theorem d_X11_mourn_0 : decode (D_X11_mourn).2.1 0 = .ok (.aload_n 0, 1) := by decide +kernel
theorem d_X11_mourn_1 : decode (D_X11_mourn).2.1 1 = .ok (.iload_n 1, 1) := by decide +kernel
theorem d_X11_mourn_2 : decode (D_X11_mourn).2.1 2 = .ok (.invokevirtual 264, 3) := by decide +kernel
theorem d_X11_mourn_5 : decode (D_X11_mourn).2.1 5 = .ok (.ifCond .ne 9, 3) := by decide +kernel
theorem d_X11_mourn_8 : decode (D_X11_mourn).2.1 8 = .ok (.aload_n 0, 1) := by decide +kernel
theorem d_X11_mourn_9 : decode (D_X11_mourn).2.1 9 = .ok (.iconst 1, 1) := by decide +kernel
theorem d_X11_mourn_10 : decode (D_X11_mourn).2.1 10 = .ok (.invokevirtual 124, 3) := by decide +kernel
theorem d_X11_mourn_13 : decode (D_X11_mourn).2.1 13 = .ok (.ireturn, 1) := by decide +kernel
theorem d_X11_mourn_14 : decode (D_X11_mourn).2.1 14 = .ok (.aload_n 0, 1) := by decide +kernel
theorem d_X11_mourn_15 : decode (D_X11_mourn).2.1 15 = .ok (.getfield 60, 3) := by decide +kernel
theorem d_X11_mourn_18 : decode (D_X11_mourn).2.1 18 = .ok (.iload_n 1, 1) := by decide +kernel
theorem d_X11_mourn_19 : decode (D_X11_mourn).2.1 19 = .ok (.invokevirtual 282, 3) := by decide +kernel
theorem d_X11_mourn_22 : decode (D_X11_mourn).2.1 22 = .ok (.ifCond .ne 10, 3) := by decide +kernel
theorem d_X11_mourn_25 : decode (D_X11_mourn).2.1 25 = .ok (.aload_n 0, 1) := by decide +kernel
theorem d_X11_mourn_26 : decode (D_X11_mourn).2.1 26 = .ok (.bipush 7, 2) := by decide +kernel
theorem d_X11_mourn_28 : decode (D_X11_mourn).2.1 28 = .ok (.invokevirtual 124, 3) := by decide +kernel
theorem d_X11_mourn_31 : decode (D_X11_mourn).2.1 31 = .ok (.ireturn, 1) := by decide +kernel
theorem d_X11_mourn_32 : decode (D_X11_mourn).2.1 32 = .ok (.aload_n 0, 1) := by decide +kernel
theorem d_X11_mourn_33 : decode (D_X11_mourn).2.1 33 = .ok (.getfield 60, 3) := by decide +kernel
theorem d_X11_mourn_36 : decode (D_X11_mourn).2.1 36 = .ok (.dup, 1) := by decide +kernel
theorem d_X11_mourn_37 : decode (D_X11_mourn).2.1 37 = .ok (.getfield 230, 3) := by decide +kernel
theorem d_X11_mourn_40 : decode (D_X11_mourn).2.1 40 = .ok (.iconst 1, 1) := by decide +kernel
theorem d_X11_mourn_41 : decode (D_X11_mourn).2.1 41 = .ok (.iload_n 1, 1) := by decide +kernel
theorem d_X11_mourn_42 : decode (D_X11_mourn).2.1 42 = .ok (.ishl, 1) := by decide +kernel
theorem d_X11_mourn_43 : decode (D_X11_mourn).2.1 43 = .ok (.iconst (-1), 1) := by decide +kernel
theorem d_X11_mourn_44 : decode (D_X11_mourn).2.1 44 = .ok (.ixor, 1) := by decide +kernel
theorem d_X11_mourn_45 : decode (D_X11_mourn).2.1 45 = .ok (.iand, 1) := by decide +kernel
theorem d_X11_mourn_46 : decode (D_X11_mourn).2.1 46 = .ok (.putfield 230, 3) := by decide +kernel
theorem d_X11_mourn_49 : decode (D_X11_mourn).2.1 49 = .ok (.aload_n 0, 1) := by decide +kernel
theorem d_X11_mourn_50 : decode (D_X11_mourn).2.1 50 = .ok (.getfield 60, 3) := by decide +kernel
theorem d_X11_mourn_53 : decode (D_X11_mourn).2.1 53 = .ok (.getfield 292, 3) := by decide +kernel
theorem d_X11_mourn_56 : decode (D_X11_mourn).2.1 56 = .ok (.iconst 0, 1) := by decide +kernel
theorem d_X11_mourn_57 : decode (D_X11_mourn).2.1 57 = .ok (.dup2, 1) := by decide +kernel
theorem d_X11_mourn_58 : decode (D_X11_mourn).2.1 58 = .ok (.iaload, 1) := by decide +kernel
theorem d_X11_mourn_59 : decode (D_X11_mourn).2.1 59 = .ok (.iconst 1, 1) := by decide +kernel
theorem d_X11_mourn_60 : decode (D_X11_mourn).2.1 60 = .ok (.iload_n 1, 1) := by decide +kernel
theorem d_X11_mourn_61 : decode (D_X11_mourn).2.1 61 = .ok (.ishl, 1) := by decide +kernel
theorem d_X11_mourn_62 : decode (D_X11_mourn).2.1 62 = .ok (.ior, 1) := by decide +kernel
theorem d_X11_mourn_63 : decode (D_X11_mourn).2.1 63 = .ok (.iastore, 1) := by decide +kernel
theorem d_X11_mourn_64 : decode (D_X11_mourn).2.1 64 = .ok (.aload_n 0, 1) := by decide +kernel
theorem d_X11_mourn_65 : decode (D_X11_mourn).2.1 65 = .ok (.invokevirtual 131, 3) := by decide +kernel
theorem d_X11_mourn_68 : decode (D_X11_mourn).2.1 68 = .ok (.ireturn, 1) := by decide +kernel
def f_X11_mourn (n : Nat) (x1 : Int) (M : JMem) : Option (Int × JMem) := bnd (f_X11_isBeast n x1 M) fun r1 M2 => if jw r1 = 0 then (bnd (f_X11_deny n 1 M2) fun r11 M12 => chk (jw r11 = 0 ∨ jw r11 = 1) (some (r11, M12))) else (bnd (f_X1_isEaten n 52 x1 M2) fun r3 M4 => if jw r3 = 0 then (bnd (f_X11_deny n 7 M4) fun r9 M10 => chk (jw r9 = 0 ∨ jw r9 = 1) (some (r9, M10))) else (letm (jup M4 52 3 (jand (M4 52 3) (jxor (jshl 1 x1) (-1)))) fun M5 => chk (jin 0 6) <| chk (jin 0 6) <| letm (jup M5 (52 + 3) (jw 0).toNat (jor (M5 (52 + 3) (jw 0).toNat) (jshl 1 x1))) fun M6 => bnd (f_X11_allow n M6) fun r7 M8 => chk (jw r7 = 0 ∨ jw r7 = 1) (some (r7, M8))))
set_option maxRecDepth 4000 in
theorem t_X11_mourn {g : JG} {ad : Nat → Nat} (hs : jStr g ad) (n : Nat) (x1 : Int) (M : JMem) : jB g D_X11_mourn ad 0 [some (.ref 0), some (ji x1)] [] M (f_X11_mourn n x1 M) := by
  unfold f_X11_mourn
  refine jo_aload 0 d_X11_mourn_0 rfl rfl ?_
  refine jo_iload 1 d_X11_mourn_1 rfl rfl ?_
  refine jo_callV (st := []) (m_X11_isBeast hs n x1 M) ok_X11_isBeast (And.intro (Nat.le_of_ble_eq_true rfl) (Nat.le_of_ble_eq_true rfl)) lm_X11_264 in_X11_isBeast se_X11_isBeast rfl kc_0 rfl rfl (And.intro (Nat.zero_le _) (Nat.zero_le _)) rfl (Nat.le_of_ble_eq_true rfl) d_X11_mourn_2 (fun r1 M2 => ?_)
  refine jo_if_ne 14 d_X11_mourn_5 (by decide) ?_ ?_
  · skip
    refine jo_aload 0 d_X11_mourn_14 rfl rfl ?_
    refine jo_getR (k := 8) cl_11 (Nat.le_of_ble_eq_true rfl) lk_X11_60 rfl kc_0 kr_0_8 d_X11_mourn_15 ?_
    refine jo_iload 1 d_X11_mourn_18 rfl rfl ?_
    refine jo_callV (st := []) (m_X1_isEaten hs n 52 x1 kc_52 M2) ok_X1_isEaten (And.intro (Nat.le_of_ble_eq_true rfl) (Nat.le_of_ble_eq_true rfl)) lm_X11_282 in_X1_isEaten se_X1_isEaten rfl kc_52 rfl rfl (And.intro (Nat.zero_le _) (Nat.zero_le _)) rfl (Nat.le_of_ble_eq_true rfl) d_X11_mourn_19 (fun r3 M4 => ?_)
    refine jo_if_ne 32 d_X11_mourn_22 (by decide) ?_ ?_
    · skip
      refine jo_aload 0 d_X11_mourn_32 rfl rfl ?_
      refine jo_getR (k := 8) cl_11 (Nat.le_of_ble_eq_true rfl) lk_X11_60 rfl kc_0 kr_0_8 d_X11_mourn_33 ?_
      refine jo_dup d_X11_mourn_36 rfl ?_
      refine jo_getI (k := 3) cl_1 (Nat.le_of_ble_eq_true rfl) lk_X11_230 (Or.inl rfl) kc_52 d_X11_mourn_37 ?_
      refine jo_iconst 1 d_X11_mourn_40 ?_
      refine jo_iload 1 d_X11_mourn_41 rfl rfl ?_
      refine jo_ishl d_X11_mourn_42 ?_
      refine jo_iconst (-1) d_X11_mourn_43 ?_
      refine jo_ixor d_X11_mourn_44 ?_
      refine jo_iand d_X11_mourn_45 ?_
      refine jo_putI (k := 3) cl_1 (Nat.le_of_ble_eq_true rfl) lk_X11_230 rfl rfl kc_52 d_X11_mourn_46 (fun M5 => ?_)
      refine jo_aload 0 d_X11_mourn_49 rfl rfl ?_
      refine jo_getR (k := 8) cl_11 (Nat.le_of_ble_eq_true rfl) lk_X11_60 rfl kc_0 kr_0_8 d_X11_mourn_50 ?_
      refine jo_getR (k := 7) cl_1 (Nat.le_of_ble_eq_true rfl) lk_X11_292 rfl kc_52 (kr_Now_7 kc_52) d_X11_mourn_53 ?_
      refine jo_iconst 0 d_X11_mourn_56 ?_
      refine jo_dup2 d_X11_mourn_57 rfl rfl ?_
      refine jo_iald (N := 6) (ka_Now_7 kc_52) d_X11_mourn_58 ?_
      refine jo_iconst 1 d_X11_mourn_59 ?_
      refine jo_iload 1 d_X11_mourn_60 rfl rfl ?_
      refine jo_ishl d_X11_mourn_61 ?_
      refine jo_ior d_X11_mourn_62 ?_
      refine jo_iast (N := 6) (ka_Now_7 kc_52) d_X11_mourn_63 (fun M6 => ?_)
      refine jo_aload 0 d_X11_mourn_64 rfl rfl ?_
      refine jo_callV (st := []) (m_X11_allow hs n M6) ok_X11_allow (And.intro (Nat.le_of_ble_eq_true rfl) (Nat.le_of_ble_eq_true rfl)) lm_X11_131 in_X11_allow se_X11_allow rfl kc_0 rfl rfl (And.intro (Nat.zero_le _) (Nat.zero_le _)) rfl (Nat.le_of_ble_eq_true rfl) d_X11_mourn_65 (fun r7 M8 => ?_)
      exact jo_zretq rfl d_X11_mourn_68
    · skip
      refine jo_aload 0 d_X11_mourn_25 rfl rfl ?_
      refine jo_bipush 7 d_X11_mourn_26 (by decide) ?_
      refine jo_callV (st := []) (m_X11_deny hs n 7 M4) ok_X11_deny (And.intro (Nat.le_of_ble_eq_true rfl) (Nat.le_of_ble_eq_true rfl)) lm_X11_124 in_X11_deny se_X11_deny rfl kc_0 rfl rfl (And.intro (Nat.zero_le _) (Nat.zero_le _)) rfl (Nat.le_of_ble_eq_true rfl) d_X11_mourn_28 (fun r9 M10 => ?_)
      exact jo_zretq rfl d_X11_mourn_31
  · skip
    refine jo_aload 0 d_X11_mourn_8 rfl rfl ?_
    refine jo_iconst 1 d_X11_mourn_9 ?_
    refine jo_callV (st := []) (m_X11_deny hs n 1 M2) ok_X11_deny (And.intro (Nat.le_of_ble_eq_true rfl) (Nat.le_of_ble_eq_true rfl)) lm_X11_124 in_X11_deny se_X11_deny rfl kc_0 rfl rfl (And.intro (Nat.zero_le _) (Nat.zero_le _)) rfl (Nat.le_of_ble_eq_true rfl) d_X11_mourn_10 (fun r11 M12 => ?_)
    exact jo_zretq rfl d_X11_mourn_13
theorem m_X11_mourn {g : JG} {ad : Nat → Nat} (hs : jStr g ad) (n : Nat) (x1 : Int) (M : JMem) : jMet g jNN ad jR D_X11_mourn yX11_mourn [.ref 0, ji x1] M (f_X11_mourn n x1 M) :=
  jMet.of (lo0 := [some (.ref 0), some (ji x1)]) (by decide) rfl rfl (Nat.le_of_ble_eq_true rfl) (And.intro rfl (And.intro rfl True.intro)) (t_X11_mourn hs n x1 M)
/-! CageLeave.park(I)I -/
def D_X11_park : JD := (RX11, cX11_park, 3, some .int, "park", { frames := 7, cells := 0, slots := 0, locals := 156 })
theorem ok_X11_park : jOk D_X11_park yX11_park 1 := ⟨jTW_mem (k := 751) (by decide +kernel) rfl, jTW_mem (k := 135) (by decide +kernel) rfl, ⟨by decide +kernel, by decide +kernel⟩, by decide +kernel, rfl, rfl⟩
theorem in_X11_park : Cond.instanceMethod yX11_park ∈ jTW := jTW_mem (k := 749) (by decide +kernel) rfl
theorem se_X11_park : Cond.selects yX11_park.cls yX11_park yX11_park ∈ jTW := jTW_mem (k := 750) (by decide +kernel) rfl
theorem lk_X11_39 : Cond.fieldLink RX11 39 (TX11 5).1 (TX11 5).2.1 (TX11 5).2.2.1 ∈ jTW := jTW_mem (k := 612) (by decide +kernel) rfl
theorem lm_X11_175 : Cond.methodLink RX11 175 yX2_takesAll ∈ jTW := jTW_mem (k := 752) (by decide +kernel) rfl
theorem lk_X11_178 : Cond.fieldLink RX11 178 (TX2 1).1 (TX2 1).2.1 (TX2 1).2.2.1 ∈ jTW := jTW_mem (k := 456) (by decide +kernel) rfl
theorem lk_X11_183 : Cond.fieldLink RX11 183 (TX2 2).1 (TX2 2).2.1 (TX2 2).2.2.1 ∈ jTW := jTW_mem (k := 458) (by decide +kernel) rfl
theorem lm_X11_187 : Cond.methodLink RX11 187 yX9_forget ∈ jTW := jTW_mem (k := 883) (by decide +kernel) rfl
theorem d_X11_park_0 : decode (D_X11_park).2.1 0 = .ok (.iload_n 1, 1) := by decide +kernel
theorem d_X11_park_1 : decode (D_X11_park).2.1 1 = .ok (.ifCond .lt 14, 3) := by decide +kernel
theorem d_X11_park_4 : decode (D_X11_park).2.1 4 = .ok (.iload_n 1, 1) := by decide +kernel
theorem d_X11_park_5 : decode (D_X11_park).2.1 5 = .ok (.aload_n 0, 1) := by decide +kernel
theorem d_X11_park_6 : decode (D_X11_park).2.1 6 = .ok (.getfield 30, 3) := by decide +kernel
theorem d_X11_park_9 : decode (D_X11_park).2.1 9 = .ok (.getfield 168, 3) := by decide +kernel
theorem d_X11_park_12 : decode (D_X11_park).2.1 12 = .ok (.if_icmp .le 9, 3) := by decide +kernel
theorem d_X11_park_15 : decode (D_X11_park).2.1 15 = .ok (.aload_n 0, 1) := by decide +kernel
theorem d_X11_park_16 : decode (D_X11_park).2.1 16 = .ok (.iconst 1, 1) := by decide +kernel
theorem d_X11_park_17 : decode (D_X11_park).2.1 17 = .ok (.invokevirtual 143, 3) := by decide +kernel
theorem d_X11_park_20 : decode (D_X11_park).2.1 20 = .ok (.ireturn, 1) := by decide +kernel
theorem d_X11_park_21 : decode (D_X11_park).2.1 21 = .ok (.aload_n 0, 1) := by decide +kernel
theorem d_X11_park_22 : decode (D_X11_park).2.1 22 = .ok (.getfield 39, 3) := by decide +kernel
theorem d_X11_park_25 : decode (D_X11_park).2.1 25 = .ok (.iload_n 1, 1) := by decide +kernel
theorem d_X11_park_26 : decode (D_X11_park).2.1 26 = .ok (.invokevirtual 175, 3) := by decide +kernel
theorem d_X11_park_29 : decode (D_X11_park).2.1 29 = .ok (.istore_n 2, 1) := by decide +kernel
theorem d_X11_park_30 : decode (D_X11_park).2.1 30 = .ok (.aload_n 0, 1) := by decide +kernel
theorem d_X11_park_31 : decode (D_X11_park).2.1 31 = .ok (.getfield 30, 3) := by decide +kernel
theorem d_X11_park_34 : decode (D_X11_park).2.1 34 = .ok (.iconst 0, 1) := by decide +kernel
theorem d_X11_park_35 : decode (D_X11_park).2.1 35 = .ok (.putfield 168, 3) := by decide +kernel
theorem d_X11_park_38 : decode (D_X11_park).2.1 38 = .ok (.iload_n 2, 1) := by decide +kernel
theorem d_X11_park_39 : decode (D_X11_park).2.1 39 = .ok (.ifCond .ne 10, 3) := by decide +kernel
theorem d_X11_park_42 : decode (D_X11_park).2.1 42 = .ok (.aload_n 0, 1) := by decide +kernel
theorem d_X11_park_43 : decode (D_X11_park).2.1 43 = .ok (.bipush 9, 2) := by decide +kernel
theorem d_X11_park_45 : decode (D_X11_park).2.1 45 = .ok (.invokevirtual 143, 3) := by decide +kernel
theorem d_X11_park_48 : decode (D_X11_park).2.1 48 = .ok (.ireturn, 1) := by decide +kernel
theorem d_X11_park_49 : decode (D_X11_park).2.1 49 = .ok (.aload_n 0, 1) := by decide +kernel
theorem d_X11_park_50 : decode (D_X11_park).2.1 50 = .ok (.getfield 53, 3) := by decide +kernel
theorem d_X11_park_53 : decode (D_X11_park).2.1 53 = .ok (.aload_n 0, 1) := by decide +kernel
theorem d_X11_park_54 : decode (D_X11_park).2.1 54 = .ok (.getfield 39, 3) := by decide +kernel
theorem d_X11_park_57 : decode (D_X11_park).2.1 57 = .ok (.getfield 178, 3) := by decide +kernel
theorem d_X11_park_60 : decode (D_X11_park).2.1 60 = .ok (.invokevirtual 179, 3) := by decide +kernel
theorem d_X11_park_63 : decode (D_X11_park).2.1 63 = .ok (.aload_n 0, 1) := by decide +kernel
theorem d_X11_park_64 : decode (D_X11_park).2.1 64 = .ok (.getfield 60, 3) := by decide +kernel
theorem d_X11_park_67 : decode (D_X11_park).2.1 67 = .ok (.aload_n 0, 1) := by decide +kernel
theorem d_X11_park_68 : decode (D_X11_park).2.1 68 = .ok (.getfield 39, 3) := by decide +kernel
theorem d_X11_park_71 : decode (D_X11_park).2.1 71 = .ok (.getfield 183, 3) := by decide +kernel
theorem d_X11_park_74 : decode (D_X11_park).2.1 74 = .ok (.invokevirtual 184, 3) := by decide +kernel
theorem d_X11_park_77 : decode (D_X11_park).2.1 77 = .ok (.aload_n 0, 1) := by decide +kernel
theorem d_X11_park_78 : decode (D_X11_park).2.1 78 = .ok (.getfield 67, 3) := by decide +kernel
theorem d_X11_park_81 : decode (D_X11_park).2.1 81 = .ok (.invokevirtual 187, 3) := by decide +kernel
theorem d_X11_park_84 : decode (D_X11_park).2.1 84 = .ok (.aload_n 0, 1) := by decide +kernel
theorem d_X11_park_85 : decode (D_X11_park).2.1 85 = .ok (.aload_n 0, 1) := by decide +kernel
theorem d_X11_park_86 : decode (D_X11_park).2.1 86 = .ok (.getfield 53, 3) := by decide +kernel
theorem d_X11_park_89 : decode (D_X11_park).2.1 89 = .ok (.getfield 190, 3) := by decide +kernel
theorem d_X11_park_92 : decode (D_X11_park).2.1 92 = .ok (.invokevirtual 193, 3) := by decide +kernel
theorem d_X11_park_95 : decode (D_X11_park).2.1 95 = .ok (.ireturn, 1) := by decide +kernel
def f_X11_park_L15 (n : Nat) (M : JMem) : Option (Int × JMem) := bnd (f_X11_refuse n 1 M) fun r1 M2 => some (r1, M2)
set_option maxRecDepth 4000 in
theorem t_X11_park_L15 {g : JG} {ad : Nat → Nat} (hs : jStr g ad) (n : Nat) (M : JMem) : jB g D_X11_park ad 15 [some (.ref 0), none, none] [] M (f_X11_park_L15 n M) := by
  unfold f_X11_park_L15
  refine jo_aload 0 d_X11_park_15 rfl rfl ?_
  refine jo_iconst 1 d_X11_park_16 ?_
  refine jo_callV (st := []) (m_X11_refuse hs n 1 M) ok_X11_refuse (And.intro (Nat.le_of_ble_eq_true rfl) (Nat.le_of_ble_eq_true rfl)) lm_X11_143 in_X11_refuse se_X11_refuse rfl kc_0 rfl rfl (And.intro (Nat.zero_le _) (Nat.zero_le _)) rfl (Nat.le_of_ble_eq_true rfl) d_X11_park_17 (fun r1 M2 => ?_)
  exact jo_iret rfl d_X11_park_20
def f_X11_park (n : Nat) (x1 : Int) (M : JMem) : Option (Int × JMem) := if jw x1 < 0 then (f_X11_park_L15 n M) else (if jw x1 ≤ jw (M 9 1) then (bnd (f_X2_takesAll n x1 M) fun r1 M2 => letv r1 fun y3 => letm (jup M2 9 1 0) fun M4 => if jw y3 = 0 then (bnd (f_X11_refuse n 9 M4) fun r13 M14 => some (r13, M14)) else (bnd (f_X4_copyFrom n 40 13 M4) fun _ M6 => bnd (f_X1_copyFrom n 52 25 M6) fun _ M8 => bnd (f_X9_forget n 60 M8) fun _ M10 => bnd (f_X11_answer n (M10 40 2) M10) fun r11 M12 => some (r11, M12))) else (f_X11_park_L15 n M))
set_option maxRecDepth 4000 in
theorem t_X11_park {g : JG} {ad : Nat → Nat} (hs : jStr g ad) (n : Nat) (x1 : Int) (M : JMem) : jB g D_X11_park ad 0 [some (.ref 0), some (ji x1), none] [] M (f_X11_park n x1 M) := by
  unfold f_X11_park
  refine jo_iload 1 d_X11_park_0 rfl rfl ?_
  refine jo_if_lt 15 d_X11_park_1 (by decide) ?_ ?_
  · skip
    exact jO.sub (t_X11_park_L15 hs n M) (And.intro rfl True.intro)
  · skip
    refine jo_iload 1 d_X11_park_4 rfl rfl ?_
    refine jo_aload 0 d_X11_park_5 rfl rfl ?_
    refine jo_getR (k := 4) cl_11 (Nat.le_of_ble_eq_true rfl) lk_X11_30 rfl kc_0 kr_0_4 d_X11_park_6 ?_
    refine jo_getI (k := 1) cl_6 (Nat.le_of_ble_eq_true rfl) lk_X11_168 (Or.inl rfl) kc_9 d_X11_park_9 ?_
    refine jo_icmp_le 21 d_X11_park_12 (by decide) ?_ ?_
    · skip
      refine jo_aload 0 d_X11_park_21 rfl rfl ?_
      refine jo_getR (k := 5) cl_11 (Nat.le_of_ble_eq_true rfl) lk_X11_39 rfl kc_0 kr_0_5 d_X11_park_22 ?_
      refine jo_iload 1 d_X11_park_25 rfl rfl ?_
      refine jo_callV (st := []) (m_X2_takesAll hs n x1 M) ok_X2_takesAll (And.intro (Nat.le_of_ble_eq_true rfl) (Nat.le_of_ble_eq_true rfl)) lm_X11_175 in_X2_takesAll se_X2_takesAll rfl kc_12 rfl rfl (And.intro (Nat.zero_le _) (Nat.zero_le _)) rfl (Nat.le_of_ble_eq_true rfl) d_X11_park_26 (fun r1 M2 => ?_)
      refine jo_istore 2 d_X11_park_29 rfl (Nat.le_of_ble_eq_true rfl) (fun y3 => ?_)
      refine jo_aload 0 d_X11_park_30 rfl rfl ?_
      refine jo_getR (k := 4) cl_11 (Nat.le_of_ble_eq_true rfl) lk_X11_30 rfl kc_0 kr_0_4 d_X11_park_31 ?_
      refine jo_iconst 0 d_X11_park_34 ?_
      refine jo_putI (k := 1) cl_6 (Nat.le_of_ble_eq_true rfl) lk_X11_168 rfl rfl kc_9 d_X11_park_35 (fun M4 => ?_)
      refine jo_iload 2 d_X11_park_38 rfl rfl ?_
      refine jo_if_ne 49 d_X11_park_39 (by decide) ?_ ?_
      · skip
        refine jo_aload 0 d_X11_park_49 rfl rfl ?_
        refine jo_getR (k := 7) cl_11 (Nat.le_of_ble_eq_true rfl) lk_X11_53 rfl kc_0 kr_0_7 d_X11_park_50 ?_
        refine jo_aload 0 d_X11_park_53 rfl rfl ?_
        refine jo_getR (k := 5) cl_11 (Nat.le_of_ble_eq_true rfl) lk_X11_39 rfl kc_0 kr_0_5 d_X11_park_54 ?_
        refine jo_getR (k := 1) cl_2 (Nat.le_of_ble_eq_true rfl) lk_X11_178 rfl kc_12 kr_12_1 d_X11_park_57 ?_
        refine jo_callV (st := []) (m_X4_copyFrom hs n 40 13 kc_40 kc_13 M4) ok_X4_copyFrom (And.intro (Nat.le_of_ble_eq_true rfl) (Nat.le_of_ble_eq_true rfl)) lm_X11_179 in_X4_copyFrom se_X4_copyFrom rfl kc_40 rfl rfl (And.intro (Nat.zero_le _) (Nat.zero_le _)) rfl (Nat.le_of_ble_eq_true rfl) d_X11_park_60 (fun _ M6 => ?_)
        refine jo_aload 0 d_X11_park_63 rfl rfl ?_
        refine jo_getR (k := 8) cl_11 (Nat.le_of_ble_eq_true rfl) lk_X11_60 rfl kc_0 kr_0_8 d_X11_park_64 ?_
        refine jo_aload 0 d_X11_park_67 rfl rfl ?_
        refine jo_getR (k := 5) cl_11 (Nat.le_of_ble_eq_true rfl) lk_X11_39 rfl kc_0 kr_0_5 d_X11_park_68 ?_
        refine jo_getR (k := 2) cl_2 (Nat.le_of_ble_eq_true rfl) lk_X11_183 rfl kc_12 kr_12_2 d_X11_park_71 ?_
        refine jo_callV (st := []) (m_X1_copyFrom hs n 52 25 kc_52 kc_25 M6) ok_X1_copyFrom (And.intro (Nat.le_of_ble_eq_true rfl) (Nat.le_of_ble_eq_true rfl)) lm_X11_184 in_X1_copyFrom se_X1_copyFrom rfl kc_52 rfl rfl (And.intro (Nat.zero_le _) (Nat.zero_le _)) rfl (Nat.le_of_ble_eq_true rfl) d_X11_park_74 (fun _ M8 => ?_)
        refine jo_aload 0 d_X11_park_77 rfl rfl ?_
        refine jo_getR (k := 9) cl_11 (Nat.le_of_ble_eq_true rfl) lk_X11_67 rfl kc_0 kr_0_9 d_X11_park_78 ?_
        refine jo_callV (st := []) (m_X9_forget hs n 60 kc_60 M8) ok_X9_forget (And.intro (Nat.le_of_ble_eq_true rfl) (Nat.le_of_ble_eq_true rfl)) lm_X11_187 in_X9_forget se_X9_forget rfl kc_60 rfl rfl (And.intro (Nat.zero_le _) (Nat.zero_le _)) rfl (Nat.le_of_ble_eq_true rfl) d_X11_park_81 (fun _ M10 => ?_)
        refine jo_aload 0 d_X11_park_84 rfl rfl ?_
        refine jo_aload 0 d_X11_park_85 rfl rfl ?_
        refine jo_getR (k := 7) cl_11 (Nat.le_of_ble_eq_true rfl) lk_X11_53 rfl kc_0 kr_0_7 d_X11_park_86 ?_
        refine jo_getI (k := 2) cl_4 (Nat.le_of_ble_eq_true rfl) lk_X11_190 (Or.inl rfl) kc_40 d_X11_park_89 ?_
        refine jo_callV (st := []) (m_X11_answer hs n (M10 40 2) M10) ok_X11_answer (And.intro (Nat.le_of_ble_eq_true rfl) (Nat.le_of_ble_eq_true rfl)) lm_X11_193 in_X11_answer se_X11_answer rfl kc_0 rfl rfl (And.intro (Nat.zero_le _) (Nat.zero_le _)) rfl (Nat.le_of_ble_eq_true rfl) d_X11_park_92 (fun r11 M12 => ?_)
        exact jo_iret rfl d_X11_park_95
      · skip
        refine jo_aload 0 d_X11_park_42 rfl rfl ?_
        refine jo_bipush 9 d_X11_park_43 (by decide) ?_
        refine jo_callV (st := []) (m_X11_refuse hs n 9 M4) ok_X11_refuse (And.intro (Nat.le_of_ble_eq_true rfl) (Nat.le_of_ble_eq_true rfl)) lm_X11_143 in_X11_refuse se_X11_refuse rfl kc_0 rfl rfl (And.intro (Nat.zero_le _) (Nat.zero_le _)) rfl (Nat.le_of_ble_eq_true rfl) d_X11_park_45 (fun r13 M14 => ?_)
        exact jo_iret rfl d_X11_park_48
    · skip
      exact jO.sub (t_X11_park_L15 hs n M) (And.intro rfl True.intro)
theorem m_X11_park {g : JG} {ad : Nat → Nat} (hs : jStr g ad) (n : Nat) (x1 : Int) (M : JMem) : jMet g jNN ad jR D_X11_park yX11_park [.ref 0, ji x1] M (f_X11_park n x1 M) :=
  jMet.of (lo0 := [some (.ref 0), some (ji x1), none]) (by decide) rfl rfl (Nat.le_of_ble_eq_true rfl) (And.intro rfl (And.intro rfl True.intro)) (t_X11_park hs n x1 M)
/-! CageLeave.peace(I)I -/
def D_X11_peace : JD := (RX11, cX11_peace, 3, some .int, "peace", { frames := 5, cells := 0, slots := 0, locals := 125 })
theorem ok_X11_peace : jOk D_X11_peace yX11_peace 1 := ⟨jTW_mem (k := 1124) (by decide +kernel) rfl, jTW_mem (k := 135) (by decide +kernel) rfl, ⟨by decide +kernel, by decide +kernel⟩, by decide +kernel, rfl, rfl⟩
theorem in_X11_peace : Cond.instanceMethod yX11_peace ∈ jTW := jTW_mem (k := 1122) (by decide +kernel) rfl
theorem se_X11_peace : Cond.selects yX11_peace.cls yX11_peace yX11_peace ∈ jTW := jTW_mem (k := 1123) (by decide +kernel) rfl
theorem d_X11_peace_0 : decode (D_X11_peace).2.1 0 = .ok (.aload_n 0, 1) := by decide +kernel
theorem d_X11_peace_1 : decode (D_X11_peace).2.1 1 = .ok (.iload_n 1, 1) := by decide +kernel
theorem d_X11_peace_2 : decode (D_X11_peace).2.1 2 = .ok (.invokevirtual 335, 3) := by decide +kernel
theorem d_X11_peace_5 : decode (D_X11_peace).2.1 5 = .ok (.istore_n 2, 1) := by decide +kernel
theorem d_X11_peace_6 : decode (D_X11_peace).2.1 6 = .ok (.iload_n 2, 1) := by decide +kernel
theorem d_X11_peace_7 : decode (D_X11_peace).2.1 7 = .ok (.ifCond .ne 23, 3) := by decide +kernel
theorem d_X11_peace_10 : decode (D_X11_peace).2.1 10 = .ok (.aload_n 0, 1) := by decide +kernel
theorem d_X11_peace_11 : decode (D_X11_peace).2.1 11 = .ok (.aload_n 0, 1) := by decide +kernel
theorem d_X11_peace_12 : decode (D_X11_peace).2.1 12 = .ok (.iload_n 1, 1) := by decide +kernel
theorem d_X11_peace_13 : decode (D_X11_peace).2.1 13 = .ok (.invokevirtual 338, 3) := by decide +kernel
theorem d_X11_peace_16 : decode (D_X11_peace).2.1 16 = .ok (.ifCond .ne 7, 3) := by decide +kernel
theorem d_X11_peace_19 : decode (D_X11_peace).2.1 19 = .ok (.iconst 1, 1) := by decide +kernel
theorem d_X11_peace_20 : decode (D_X11_peace).2.1 20 = .ok (.goto 4, 3) := by decide +kernel
theorem d_X11_peace_23 : decode (D_X11_peace).2.1 23 = .ok (.iconst 0, 1) := by decide +kernel
theorem d_X11_peace_24 : decode (D_X11_peace).2.1 24 = .ok (.invokevirtual 193, 3) := by decide +kernel
theorem d_X11_peace_27 : decode (D_X11_peace).2.1 27 = .ok (.goto 8, 3) := by decide +kernel
theorem d_X11_peace_30 : decode (D_X11_peace).2.1 30 = .ok (.aload_n 0, 1) := by decide +kernel
theorem d_X11_peace_31 : decode (D_X11_peace).2.1 31 = .ok (.iload_n 2, 1) := by decide +kernel
theorem d_X11_peace_32 : decode (D_X11_peace).2.1 32 = .ok (.invokevirtual 143, 3) := by decide +kernel
theorem d_X11_peace_35 : decode (D_X11_peace).2.1 35 = .ok (.ireturn, 1) := by decide +kernel
def f_X11_peace_L24 (n : Nat) (w1 : Int) (M : JMem) : Option (Int × JMem) := bnd (f_X11_answer n w1 M) fun r1 M2 => some (r1, M2)
set_option maxRecDepth 4000 in
theorem t_X11_peace_L24 {g : JG} {ad : Nat → Nat} (hs : jStr g ad) (n : Nat) (w1 : Int) (M : JMem) : jB g D_X11_peace ad 24 [none, none, none] [ji w1, .ref 0] M (f_X11_peace_L24 n w1 M) := by
  unfold f_X11_peace_L24
  refine jo_callV (st := []) (m_X11_answer hs n w1 M) ok_X11_answer (And.intro (Nat.le_of_ble_eq_true rfl) (Nat.le_of_ble_eq_true rfl)) lm_X11_193 in_X11_answer se_X11_answer rfl kc_0 rfl rfl (And.intro (Nat.zero_le _) (Nat.zero_le _)) rfl (Nat.le_of_ble_eq_true rfl) d_X11_peace_24 (fun r1 M2 => ?_)
  refine jo_goto 35 d_X11_peace_27 (by decide) ?_
  exact jo_iret rfl d_X11_peace_35
def f_X11_peace (n : Nat) (x1 : Int) (M : JMem) : Option (Int × JMem) := bnd (f_X11_whyNotLetOut n x1 M) fun r1 M2 => letv r1 fun y3 => if jw y3 = 0 then (bnd (f_X11_eatenOutside n x1 M2) fun r6 M7 => if jw r6 = 0 then (f_X11_peace_L24 n 1 M7) else (f_X11_peace_L24 n 0 M7)) else (bnd (f_X11_refuse n y3 M2) fun r4 M5 => some (r4, M5))
set_option maxRecDepth 4000 in
theorem t_X11_peace {g : JG} {ad : Nat → Nat} (hs : jStr g ad) (n : Nat) (x1 : Int) (M : JMem) : jB g D_X11_peace ad 0 [some (.ref 0), some (ji x1), none] [] M (f_X11_peace n x1 M) := by
  unfold f_X11_peace
  refine jo_aload 0 d_X11_peace_0 rfl rfl ?_
  refine jo_iload 1 d_X11_peace_1 rfl rfl ?_
  refine jo_callV (st := []) (m_X11_whyNotLetOut hs n x1 M) ok_X11_whyNotLetOut (And.intro (Nat.le_of_ble_eq_true rfl) (Nat.le_of_ble_eq_true rfl)) lm_X11_335 in_X11_whyNotLetOut se_X11_whyNotLetOut rfl kc_0 rfl rfl (And.intro (Nat.zero_le _) (Nat.zero_le _)) rfl (Nat.le_of_ble_eq_true rfl) d_X11_peace_2 (fun r1 M2 => ?_)
  refine jo_istore 2 d_X11_peace_5 rfl (Nat.le_of_ble_eq_true rfl) (fun y3 => ?_)
  refine jo_iload 2 d_X11_peace_6 rfl rfl ?_
  refine jo_if_ne 30 d_X11_peace_7 (by decide) ?_ ?_
  · skip
    refine jo_aload 0 d_X11_peace_30 rfl rfl ?_
    refine jo_iload 2 d_X11_peace_31 rfl rfl ?_
    refine jo_callV (st := []) (m_X11_refuse hs n y3 M2) ok_X11_refuse (And.intro (Nat.le_of_ble_eq_true rfl) (Nat.le_of_ble_eq_true rfl)) lm_X11_143 in_X11_refuse se_X11_refuse rfl kc_0 rfl rfl (And.intro (Nat.zero_le _) (Nat.zero_le _)) rfl (Nat.le_of_ble_eq_true rfl) d_X11_peace_32 (fun r4 M5 => ?_)
    exact jo_iret rfl d_X11_peace_35
  · skip
    refine jo_aload 0 d_X11_peace_10 rfl rfl ?_
    refine jo_aload 0 d_X11_peace_11 rfl rfl ?_
    refine jo_iload 1 d_X11_peace_12 rfl rfl ?_
    refine jo_callV (st := [.ref 0]) (m_X11_eatenOutside hs n x1 M2) ok_X11_eatenOutside (And.intro (Nat.le_of_ble_eq_true rfl) (Nat.le_of_ble_eq_true rfl)) lm_X11_338 in_X11_eatenOutside se_X11_eatenOutside rfl kc_0 rfl rfl (And.intro (Nat.zero_le _) (Nat.zero_le _)) rfl (Nat.le_of_ble_eq_true rfl) d_X11_peace_13 (fun r6 M7 => ?_)
    refine jo_if_ne 23 d_X11_peace_16 (by decide) ?_ ?_
    · skip
      refine jo_iconst 0 d_X11_peace_23 ?_
      exact jO.sub (t_X11_peace_L24 hs n 0 M7) True.intro
    · skip
      refine jo_iconst 1 d_X11_peace_19 ?_
      refine jo_goto 24 d_X11_peace_20 (by decide) ?_
      exact jO.sub (t_X11_peace_L24 hs n 1 M7) True.intro
theorem m_X11_peace {g : JG} {ad : Nat → Nat} (hs : jStr g ad) (n : Nat) (x1 : Int) (M : JMem) : jMet g jNN ad jR D_X11_peace yX11_peace [.ref 0, ji x1] M (f_X11_peace n x1 M) :=
  jMet.of (lo0 := [some (.ref 0), some (ji x1), none]) (by decide) rfl rfl (Nat.le_of_ble_eq_true rfl) (And.intro rfl (And.intro rfl True.intro)) (t_X11_peace hs n x1 M)
/-! CageLeave.pour(IIIII)Z -/
def D_X11_pour : JD := (RX11, cX11_pour, 6, some .boolean, "pour", { frames := 1, cells := 0, slots := 0, locals := 60 })
theorem ok_X11_pour : jOk D_X11_pour yX11_pour 5 := ⟨jTW_mem (k := 731) (by decide +kernel) rfl, jTW_mem (k := 135) (by decide +kernel) rfl, ⟨by decide +kernel, by decide +kernel⟩, by decide +kernel, rfl, rfl⟩
theorem in_X11_pour : Cond.instanceMethod yX11_pour ∈ jTW := jTW_mem (k := 729) (by decide +kernel) rfl
theorem se_X11_pour : Cond.selects yX11_pour.cls yX11_pour yX11_pour ∈ jTW := jTW_mem (k := 730) (by decide +kernel) rfl
theorem lm_X11_120 : Cond.methodLink RX11 120 yX7_isTray ∈ jTW := jTW_mem (k := 684) (by decide +kernel) rfl
theorem lm_X11_151 : Cond.methodLink RX11 151 yX7_isMissing ∈ jTW := jTW_mem (k := 732) (by decide +kernel) rfl
theorem lk_X11_154 : Cond.fieldLink RX11 154 (TX7 1).1 (TX7 1).2.1 (TX7 1).2.2.1 ∈ jTW := jTW_mem (k := 174) (by decide +kernel) rfl
theorem lm_X11_158 : Cond.methodLink RX11 158 yX7_hasRun ∈ jTW := jTW_mem (k := 733) (by decide +kernel) rfl
theorem lk_X11_147 : Cond.fieldLink RX11 147 (TX7 0).1 (TX7 0).2.1 (TX7 0).2.2.1 ∈ jTW := jTW_mem (k := 172) (by decide +kernel) rfl
theorem lm_X11_162 : Cond.methodLink RX11 162 arraycopyName ∈ jTW := jTW_mem (k := 737) (by decide +kernel) rfl
theorem d_X11_pour_0 : decode (D_X11_pour).2.1 0 = .ok (.iload_n 1, 1) := by decide +kernel
theorem d_X11_pour_1 : decode (D_X11_pour).2.1 1 = .ok (.invokestatic 120, 3) := by decide +kernel
theorem d_X11_pour_4 : decode (D_X11_pour).2.1 4 = .ok (.ifCond .eq 24, 3) := by decide +kernel
theorem d_X11_pour_7 : decode (D_X11_pour).2.1 7 = .ok (.iload_n 3, 1) := by decide +kernel
theorem d_X11_pour_8 : decode (D_X11_pour).2.1 8 = .ok (.invokestatic 120, 3) := by decide +kernel
theorem d_X11_pour_11 : decode (D_X11_pour).2.1 11 = .ok (.ifCond .eq 17, 3) := by decide +kernel
theorem d_X11_pour_14 : decode (D_X11_pour).2.1 14 = .ok (.iload_n 2, 1) := by decide +kernel
theorem d_X11_pour_15 : decode (D_X11_pour).2.1 15 = .ok (.ifCond .lt 13, 3) := by decide +kernel
theorem d_X11_pour_18 : decode (D_X11_pour).2.1 18 = .ok (.iload 4, 2) := by decide +kernel
theorem d_X11_pour_20 : decode (D_X11_pour).2.1 20 = .ok (.ifCond .lt 8, 3) := by decide +kernel
theorem d_X11_pour_23 : decode (D_X11_pour).2.1 23 = .ok (.iload 5, 2) := by decide +kernel
theorem d_X11_pour_25 : decode (D_X11_pour).2.1 25 = .ok (.ifCond .ge 9, 3) := by decide +kernel
theorem d_X11_pour_28 : decode (D_X11_pour).2.1 28 = .ok (.aload_n 0, 1) := by decide +kernel
theorem d_X11_pour_29 : decode (D_X11_pour).2.1 29 = .ok (.iconst 1, 1) := by decide +kernel
theorem d_X11_pour_30 : decode (D_X11_pour).2.1 30 = .ok (.invokevirtual 124, 3) := by decide +kernel
theorem d_X11_pour_33 : decode (D_X11_pour).2.1 33 = .ok (.ireturn, 1) := by decide +kernel
theorem d_X11_pour_34 : decode (D_X11_pour).2.1 34 = .ok (.aload_n 0, 1) := by decide +kernel
theorem d_X11_pour_35 : decode (D_X11_pour).2.1 35 = .ok (.getfield 23, 3) := by decide +kernel
theorem d_X11_pour_38 : decode (D_X11_pour).2.1 38 = .ok (.iload_n 1, 1) := by decide +kernel
theorem d_X11_pour_39 : decode (D_X11_pour).2.1 39 = .ok (.invokevirtual 151, 3) := by decide +kernel
theorem d_X11_pour_42 : decode (D_X11_pour).2.1 42 = .ok (.ifCond .ne 14, 3) := by decide +kernel
theorem d_X11_pour_45 : decode (D_X11_pour).2.1 45 = .ok (.aload_n 0, 1) := by decide +kernel
theorem d_X11_pour_46 : decode (D_X11_pour).2.1 46 = .ok (.getfield 23, 3) := by decide +kernel
theorem d_X11_pour_49 : decode (D_X11_pour).2.1 49 = .ok (.iload_n 3, 1) := by decide +kernel
theorem d_X11_pour_50 : decode (D_X11_pour).2.1 50 = .ok (.invokevirtual 151, 3) := by decide +kernel
theorem d_X11_pour_53 : decode (D_X11_pour).2.1 53 = .ok (.ifCond .eq 9, 3) := by decide +kernel
theorem d_X11_pour_56 : decode (D_X11_pour).2.1 56 = .ok (.aload_n 0, 1) := by decide +kernel
theorem d_X11_pour_57 : decode (D_X11_pour).2.1 57 = .ok (.iconst 2, 1) := by decide +kernel
theorem d_X11_pour_58 : decode (D_X11_pour).2.1 58 = .ok (.invokevirtual 124, 3) := by decide +kernel
theorem d_X11_pour_61 : decode (D_X11_pour).2.1 61 = .ok (.ireturn, 1) := by decide +kernel
theorem d_X11_pour_62 : decode (D_X11_pour).2.1 62 = .ok (.aload_n 0, 1) := by decide +kernel
theorem d_X11_pour_63 : decode (D_X11_pour).2.1 63 = .ok (.getfield 23, 3) := by decide +kernel
theorem d_X11_pour_66 : decode (D_X11_pour).2.1 66 = .ok (.getfield 154, 3) := by decide +kernel
theorem d_X11_pour_69 : decode (D_X11_pour).2.1 69 = .ok (.iload_n 1, 1) := by decide +kernel
theorem d_X11_pour_70 : decode (D_X11_pour).2.1 70 = .ok (.iaload, 1) := by decide +kernel
theorem d_X11_pour_71 : decode (D_X11_pour).2.1 71 = .ok (.aload_n 0, 1) := by decide +kernel
theorem d_X11_pour_72 : decode (D_X11_pour).2.1 72 = .ok (.getfield 23, 3) := by decide +kernel
theorem d_X11_pour_75 : decode (D_X11_pour).2.1 75 = .ok (.getfield 154, 3) := by decide +kernel
theorem d_X11_pour_78 : decode (D_X11_pour).2.1 78 = .ok (.iload_n 3, 1) := by decide +kernel
theorem d_X11_pour_79 : decode (D_X11_pour).2.1 79 = .ok (.iaload, 1) := by decide +kernel
theorem d_X11_pour_80 : decode (D_X11_pour).2.1 80 = .ok (.if_icmp .eq 10, 3) := by decide +kernel
theorem d_X11_pour_83 : decode (D_X11_pour).2.1 83 = .ok (.aload_n 0, 1) := by decide +kernel
theorem d_X11_pour_84 : decode (D_X11_pour).2.1 84 = .ok (.bipush 8, 2) := by decide +kernel
theorem d_X11_pour_86 : decode (D_X11_pour).2.1 86 = .ok (.invokevirtual 124, 3) := by decide +kernel
theorem d_X11_pour_89 : decode (D_X11_pour).2.1 89 = .ok (.ireturn, 1) := by decide +kernel
theorem d_X11_pour_90 : decode (D_X11_pour).2.1 90 = .ok (.aload_n 0, 1) := by decide +kernel
theorem d_X11_pour_91 : decode (D_X11_pour).2.1 91 = .ok (.getfield 23, 3) := by decide +kernel
theorem d_X11_pour_94 : decode (D_X11_pour).2.1 94 = .ok (.iload_n 1, 1) := by decide +kernel
theorem d_X11_pour_95 : decode (D_X11_pour).2.1 95 = .ok (.iload_n 2, 1) := by decide +kernel
theorem d_X11_pour_96 : decode (D_X11_pour).2.1 96 = .ok (.iload 5, 2) := by decide +kernel
theorem d_X11_pour_98 : decode (D_X11_pour).2.1 98 = .ok (.invokevirtual 158, 3) := by decide +kernel
theorem d_X11_pour_101 : decode (D_X11_pour).2.1 101 = .ok (.ifCond .eq 18, 3) := by decide +kernel
theorem d_X11_pour_104 : decode (D_X11_pour).2.1 104 = .ok (.aload_n 0, 1) := by decide +kernel
theorem d_X11_pour_105 : decode (D_X11_pour).2.1 105 = .ok (.getfield 23, 3) := by decide +kernel
theorem d_X11_pour_108 : decode (D_X11_pour).2.1 108 = .ok (.iload_n 3, 1) := by decide +kernel
theorem d_X11_pour_109 : decode (D_X11_pour).2.1 109 = .ok (.iload 4, 2) := by decide +kernel
theorem d_X11_pour_111 : decode (D_X11_pour).2.1 111 = .ok (.iload 5, 2) := by decide +kernel
theorem d_X11_pour_113 : decode (D_X11_pour).2.1 113 = .ok (.invokevirtual 158, 3) := by decide +kernel
theorem d_X11_pour_116 : decode (D_X11_pour).2.1 116 = .ok (.ifCond .ne 9, 3) := by decide +kernel
theorem d_X11_pour_119 : decode (D_X11_pour).2.1 119 = .ok (.aload_n 0, 1) := by decide +kernel
theorem d_X11_pour_120 : decode (D_X11_pour).2.1 120 = .ok (.iconst 3, 1) := by decide +kernel
theorem d_X11_pour_121 : decode (D_X11_pour).2.1 121 = .ok (.invokevirtual 124, 3) := by decide +kernel
theorem d_X11_pour_124 : decode (D_X11_pour).2.1 124 = .ok (.ireturn, 1) := by decide +kernel
theorem d_X11_pour_125 : decode (D_X11_pour).2.1 125 = .ok (.aload_n 0, 1) := by decide +kernel
theorem d_X11_pour_126 : decode (D_X11_pour).2.1 126 = .ok (.getfield 23, 3) := by decide +kernel
theorem d_X11_pour_129 : decode (D_X11_pour).2.1 129 = .ok (.getfield 147, 3) := by decide +kernel
theorem d_X11_pour_132 : decode (D_X11_pour).2.1 132 = .ok (.iload_n 1, 1) := by decide +kernel
theorem d_X11_pour_133 : decode (D_X11_pour).2.1 133 = .ok (.aaload, 1) := by decide +kernel
theorem d_X11_pour_134 : decode (D_X11_pour).2.1 134 = .ok (.iload_n 2, 1) := by decide +kernel
theorem d_X11_pour_135 : decode (D_X11_pour).2.1 135 = .ok (.aload_n 0, 1) := by decide +kernel
theorem d_X11_pour_136 : decode (D_X11_pour).2.1 136 = .ok (.getfield 23, 3) := by decide +kernel
theorem d_X11_pour_139 : decode (D_X11_pour).2.1 139 = .ok (.getfield 147, 3) := by decide +kernel
theorem d_X11_pour_142 : decode (D_X11_pour).2.1 142 = .ok (.iload_n 3, 1) := by decide +kernel
theorem d_X11_pour_143 : decode (D_X11_pour).2.1 143 = .ok (.aaload, 1) := by decide +kernel
theorem d_X11_pour_144 : decode (D_X11_pour).2.1 144 = .ok (.iload 4, 2) := by decide +kernel
theorem d_X11_pour_146 : decode (D_X11_pour).2.1 146 = .ok (.iload 5, 2) := by decide +kernel
theorem d_X11_pour_148 : decode (D_X11_pour).2.1 148 = .ok (.invokestatic 162, 3) := by decide +kernel
theorem d_X11_pour_151 : decode (D_X11_pour).2.1 151 = .ok (.aload_n 0, 1) := by decide +kernel
theorem d_X11_pour_152 : decode (D_X11_pour).2.1 152 = .ok (.invokevirtual 131, 3) := by decide +kernel
theorem d_X11_pour_155 : decode (D_X11_pour).2.1 155 = .ok (.ireturn, 1) := by decide +kernel
def f_X11_pour_L28 (n : Nat) (M : JMem) : Option (Int × JMem) := bnd (f_X11_deny n 1 M) fun r1 M2 => chk (jw r1 = 0 ∨ jw r1 = 1) (some (r1, M2))
set_option maxRecDepth 4000 in
theorem t_X11_pour_L28 {g : JG} {ad : Nat → Nat} (hs : jStr g ad) (n : Nat) (M : JMem) : jB g D_X11_pour ad 28 [some (.ref 0), none, none, none, none, none] [] M (f_X11_pour_L28 n M) := by
  unfold f_X11_pour_L28
  refine jo_aload 0 d_X11_pour_28 rfl rfl ?_
  refine jo_iconst 1 d_X11_pour_29 ?_
  refine jo_callV (st := []) (m_X11_deny hs n 1 M) ok_X11_deny (And.intro (Nat.le_of_ble_eq_true rfl) (Nat.le_of_ble_eq_true rfl)) lm_X11_124 in_X11_deny se_X11_deny rfl kc_0 rfl rfl (And.intro (Nat.zero_le _) (Nat.zero_le _)) rfl (Nat.le_of_ble_eq_true rfl) d_X11_pour_30 (fun r1 M2 => ?_)
  exact jo_zretq rfl d_X11_pour_33
def f_X11_pour_L56 (n : Nat) (M : JMem) : Option (Int × JMem) := bnd (f_X11_deny n 2 M) fun r1 M2 => chk (jw r1 = 0 ∨ jw r1 = 1) (some (r1, M2))
set_option maxRecDepth 4000 in
theorem t_X11_pour_L56 {g : JG} {ad : Nat → Nat} (hs : jStr g ad) (n : Nat) (M : JMem) : jB g D_X11_pour ad 56 [some (.ref 0), none, none, none, none, none] [] M (f_X11_pour_L56 n M) := by
  unfold f_X11_pour_L56
  refine jo_aload 0 d_X11_pour_56 rfl rfl ?_
  refine jo_iconst 2 d_X11_pour_57 ?_
  refine jo_callV (st := []) (m_X11_deny hs n 2 M) ok_X11_deny (And.intro (Nat.le_of_ble_eq_true rfl) (Nat.le_of_ble_eq_true rfl)) lm_X11_124 in_X11_deny se_X11_deny rfl kc_0 rfl rfl (And.intro (Nat.zero_le _) (Nat.zero_le _)) rfl (Nat.le_of_ble_eq_true rfl) d_X11_pour_58 (fun r1 M2 => ?_)
  exact jo_zretq rfl d_X11_pour_61
def f_X11_pour_L119 (n : Nat) (M : JMem) : Option (Int × JMem) := bnd (f_X11_deny n 3 M) fun r1 M2 => chk (jw r1 = 0 ∨ jw r1 = 1) (some (r1, M2))
set_option maxRecDepth 4000 in
theorem t_X11_pour_L119 {g : JG} {ad : Nat → Nat} (hs : jStr g ad) (n : Nat) (M : JMem) : jB g D_X11_pour ad 119 [some (.ref 0), none, none, none, none, none] [] M (f_X11_pour_L119 n M) := by
  unfold f_X11_pour_L119
  refine jo_aload 0 d_X11_pour_119 rfl rfl ?_
  refine jo_iconst 3 d_X11_pour_120 ?_
  refine jo_callV (st := []) (m_X11_deny hs n 3 M) ok_X11_deny (And.intro (Nat.le_of_ble_eq_true rfl) (Nat.le_of_ble_eq_true rfl)) lm_X11_124 in_X11_deny se_X11_deny rfl kc_0 rfl rfl (And.intro (Nat.zero_le _) (Nat.zero_le _)) rfl (Nat.le_of_ble_eq_true rfl) d_X11_pour_121 (fun r1 M2 => ?_)
  exact jo_zretq rfl d_X11_pour_124
def f_X11_pour (n : Nat) (x1 : Int) (x2 : Int) (x3 : Int) (x4 : Int) (x5 : Int) (M : JMem) : Option (Int × JMem) := bnd (f_X7_isTray n x1 M) fun r1 M2 => if jw r1 = 0 then (f_X11_pour_L28 n M2) else (bnd (f_X7_isTray n x3 M2) fun r3 M4 => if jw r3 = 0 then (f_X11_pour_L28 n M4) else (if jw x2 < 0 then (f_X11_pour_L28 n M4) else (if jw x4 < 0 then (f_X11_pour_L28 n M4) else (if 0 ≤ jw x5 then (bnd (f_X7_isMissing n x1 M4) fun r5 M6 => if jw r5 = 0 then (bnd (f_X7_isMissing n x3 M6) fun r7 M8 => if jw r7 = 0 then (chk (jin x1 4) <| chk (jin x3 4) <| if jw (M8 7 (jw x1).toNat) = jw (M8 7 (jw x3).toNat) then (bnd (f_X7_hasRun n x1 x2 x5 M8) fun r9 M10 => if jw r9 = 0 then (f_X11_pour_L119 n M10) else (bnd (f_X7_hasRun n x3 x4 x5 M10) fun r11 M12 => if jw r11 = 0 then (f_X11_pour_L119 n M12) else (chk (jin x1 4) <| chk (jin x3 4) <| chk (jcpok x2 x4 x5 60 60) <| letm (jcpy M12 (jRn 2 (jw x1).toNat) x2 (jRn 2 (jw x3).toNat) x4 x5) fun M15 => bnd (f_X11_allow n M15) fun r16 M17 => chk (jw r16 = 0 ∨ jw r16 = 1) (some (r16, M17))))) else (bnd (f_X11_deny n 8 M8) fun r18 M19 => chk (jw r18 = 0 ∨ jw r18 = 1) (some (r18, M19)))) else (f_X11_pour_L56 n M8)) else (f_X11_pour_L56 n M6)) else (f_X11_pour_L28 n M4)))))
set_option maxRecDepth 4000 in
theorem t_X11_pour {g : JG} {ad : Nat → Nat} (hs : jStr g ad) (n : Nat) (x1 : Int) (x2 : Int) (x3 : Int) (x4 : Int) (x5 : Int) (M : JMem) : jB g D_X11_pour ad 0 [some (.ref 0), some (ji x1), some (ji x2), some (ji x3), some (ji x4), some (ji x5)] [] M (f_X11_pour n x1 x2 x3 x4 x5 M) := by
  unfold f_X11_pour
  refine jo_iload 1 d_X11_pour_0 rfl rfl ?_
  refine jo_callS (st := []) (m_X7_isTray hs n x1 M) ok_X7_isTray (And.intro (Nat.le_of_ble_eq_true rfl) (Nat.le_of_ble_eq_true rfl)) lm_X11_120 st_X7_isTray rfl (And.intro (Nat.zero_le _) (Nat.zero_le _)) rfl (Nat.le_of_ble_eq_true rfl) d_X11_pour_1 (fun r1 M2 => ?_)
  refine jo_if_eq 28 d_X11_pour_4 (by decide) ?_ ?_
  · skip
    exact jO.sub (t_X11_pour_L28 hs n M2) (And.intro rfl True.intro)
  · skip
    refine jo_iload 3 d_X11_pour_7 rfl rfl ?_
    refine jo_callS (st := []) (m_X7_isTray hs n x3 M2) ok_X7_isTray (And.intro (Nat.le_of_ble_eq_true rfl) (Nat.le_of_ble_eq_true rfl)) lm_X11_120 st_X7_isTray rfl (And.intro (Nat.zero_le _) (Nat.zero_le _)) rfl (Nat.le_of_ble_eq_true rfl) d_X11_pour_8 (fun r3 M4 => ?_)
    refine jo_if_eq 28 d_X11_pour_11 (by decide) ?_ ?_
    · skip
      exact jO.sub (t_X11_pour_L28 hs n M4) (And.intro rfl True.intro)
    · skip
      refine jo_iload 2 d_X11_pour_14 rfl rfl ?_
      refine jo_if_lt 28 d_X11_pour_15 (by decide) ?_ ?_
      · skip
        exact jO.sub (t_X11_pour_L28 hs n M4) (And.intro rfl True.intro)
      · skip
        refine jo_iloadW 4 d_X11_pour_18 rfl ?_
        refine jo_if_lt 28 d_X11_pour_20 (by decide) ?_ ?_
        · skip
          exact jO.sub (t_X11_pour_L28 hs n M4) (And.intro rfl True.intro)
        · skip
          refine jo_iloadW 5 d_X11_pour_23 rfl ?_
          refine jo_if_ge 34 d_X11_pour_25 (by decide) ?_ ?_
          · skip
            refine jo_aload 0 d_X11_pour_34 rfl rfl ?_
            refine jo_getR (k := 3) cl_11 (Nat.le_of_ble_eq_true rfl) lk_X11_23 rfl kc_0 kr_0_3 d_X11_pour_35 ?_
            refine jo_iload 1 d_X11_pour_38 rfl rfl ?_
            refine jo_callV (st := []) (m_X7_isMissing hs n x1 M4) ok_X7_isMissing (And.intro (Nat.le_of_ble_eq_true rfl) (Nat.le_of_ble_eq_true rfl)) lm_X11_151 in_X7_isMissing se_X7_isMissing rfl kc_1 rfl rfl (And.intro (Nat.zero_le _) (Nat.zero_le _)) rfl (Nat.le_of_ble_eq_true rfl) d_X11_pour_39 (fun r5 M6 => ?_)
            refine jo_if_ne 56 d_X11_pour_42 (by decide) ?_ ?_
            · skip
              exact jO.sub (t_X11_pour_L56 hs n M6) (And.intro rfl True.intro)
            · skip
              refine jo_aload 0 d_X11_pour_45 rfl rfl ?_
              refine jo_getR (k := 3) cl_11 (Nat.le_of_ble_eq_true rfl) lk_X11_23 rfl kc_0 kr_0_3 d_X11_pour_46 ?_
              refine jo_iload 3 d_X11_pour_49 rfl rfl ?_
              refine jo_callV (st := []) (m_X7_isMissing hs n x3 M6) ok_X7_isMissing (And.intro (Nat.le_of_ble_eq_true rfl) (Nat.le_of_ble_eq_true rfl)) lm_X11_151 in_X7_isMissing se_X7_isMissing rfl kc_1 rfl rfl (And.intro (Nat.zero_le _) (Nat.zero_le _)) rfl (Nat.le_of_ble_eq_true rfl) d_X11_pour_50 (fun r7 M8 => ?_)
              refine jo_if_eq 62 d_X11_pour_53 (by decide) ?_ ?_
              · skip
                refine jo_aload 0 d_X11_pour_62 rfl rfl ?_
                refine jo_getR (k := 3) cl_11 (Nat.le_of_ble_eq_true rfl) lk_X11_23 rfl kc_0 kr_0_3 d_X11_pour_63 ?_
                refine jo_getR (k := 1) cl_7 (Nat.le_of_ble_eq_true rfl) lk_X11_154 rfl kc_1 kr_1_1 d_X11_pour_66 ?_
                refine jo_iload 1 d_X11_pour_69 rfl rfl ?_
                refine jo_iald (N := 4) kc_7 d_X11_pour_70 ?_
                refine jo_aload 0 d_X11_pour_71 rfl rfl ?_
                refine jo_getR (k := 3) cl_11 (Nat.le_of_ble_eq_true rfl) lk_X11_23 rfl kc_0 kr_0_3 d_X11_pour_72 ?_
                refine jo_getR (k := 1) cl_7 (Nat.le_of_ble_eq_true rfl) lk_X11_154 rfl kc_1 kr_1_1 d_X11_pour_75 ?_
                refine jo_iload 3 d_X11_pour_78 rfl rfl ?_
                refine jo_iald (N := 4) kc_7 d_X11_pour_79 ?_
                refine jo_icmp_eq 90 d_X11_pour_80 (by decide) ?_ ?_
                · skip
                  refine jo_aload 0 d_X11_pour_90 rfl rfl ?_
                  refine jo_getR (k := 3) cl_11 (Nat.le_of_ble_eq_true rfl) lk_X11_23 rfl kc_0 kr_0_3 d_X11_pour_91 ?_
                  refine jo_iload 1 d_X11_pour_94 rfl rfl ?_
                  refine jo_iload 2 d_X11_pour_95 rfl rfl ?_
                  refine jo_iloadW 5 d_X11_pour_96 rfl ?_
                  refine jo_callV (st := []) (m_X7_hasRun hs n x1 x2 x5 M8) ok_X7_hasRun (And.intro (Nat.le_of_ble_eq_true rfl) (Nat.le_of_ble_eq_true rfl)) lm_X11_158 in_X7_hasRun se_X7_hasRun rfl kc_1 rfl rfl (And.intro (Nat.zero_le _) (Nat.zero_le _)) rfl (Nat.le_of_ble_eq_true rfl) d_X11_pour_98 (fun r9 M10 => ?_)
                  refine jo_if_eq 119 d_X11_pour_101 (by decide) ?_ ?_
                  · skip
                    exact jO.sub (t_X11_pour_L119 hs n M10) (And.intro rfl True.intro)
                  · skip
                    refine jo_aload 0 d_X11_pour_104 rfl rfl ?_
                    refine jo_getR (k := 3) cl_11 (Nat.le_of_ble_eq_true rfl) lk_X11_23 rfl kc_0 kr_0_3 d_X11_pour_105 ?_
                    refine jo_iload 3 d_X11_pour_108 rfl rfl ?_
                    refine jo_iloadW 4 d_X11_pour_109 rfl ?_
                    refine jo_iloadW 5 d_X11_pour_111 rfl ?_
                    refine jo_callV (st := []) (m_X7_hasRun hs n x3 x4 x5 M10) ok_X7_hasRun (And.intro (Nat.le_of_ble_eq_true rfl) (Nat.le_of_ble_eq_true rfl)) lm_X11_158 in_X7_hasRun se_X7_hasRun rfl kc_1 rfl rfl (And.intro (Nat.zero_le _) (Nat.zero_le _)) rfl (Nat.le_of_ble_eq_true rfl) d_X11_pour_113 (fun r11 M12 => ?_)
                    refine jo_if_ne 125 d_X11_pour_116 (by decide) ?_ ?_
                    · skip
                      refine jo_aload 0 d_X11_pour_125 rfl rfl ?_
                      refine jo_getR (k := 3) cl_11 (Nat.le_of_ble_eq_true rfl) lk_X11_23 rfl kc_0 kr_0_3 d_X11_pour_126 ?_
                      refine jo_getR (k := 0) cl_7 (Nat.le_of_ble_eq_true rfl) lk_X11_147 rfl kc_1 kr_1_0 d_X11_pour_129 ?_
                      refine jo_iload 1 d_X11_pour_132 rfl rfl ?_
                      refine jo_aald_2 d_X11_pour_133 (fun h13 => ?_)
                      refine jo_iload 2 d_X11_pour_134 rfl rfl ?_
                      refine jo_aload 0 d_X11_pour_135 rfl rfl ?_
                      refine jo_getR (k := 3) cl_11 (Nat.le_of_ble_eq_true rfl) lk_X11_23 rfl kc_0 kr_0_3 d_X11_pour_136 ?_
                      refine jo_getR (k := 0) cl_7 (Nat.le_of_ble_eq_true rfl) lk_X11_147 rfl kc_1 kr_1_0 d_X11_pour_139 ?_
                      refine jo_iload 3 d_X11_pour_142 rfl rfl ?_
                      refine jo_aald_2 d_X11_pour_143 (fun h14 => ?_)
                      refine jo_iloadW 4 d_X11_pour_144 rfl ?_
                      refine jo_iloadW 5 d_X11_pour_146 rfl ?_
                      refine jo_cpyL lm_X11_162 h13 h14 (Nat.le_of_ble_eq_true rfl) (Nat.le_of_ble_eq_true rfl) d_X11_pour_148 (fun M15 => ?_)
                      refine jo_aload 0 d_X11_pour_151 rfl rfl ?_
                      refine jo_callV (st := []) (m_X11_allow hs n M15) ok_X11_allow (And.intro (Nat.le_of_ble_eq_true rfl) (Nat.le_of_ble_eq_true rfl)) lm_X11_131 in_X11_allow se_X11_allow rfl kc_0 rfl rfl (And.intro (Nat.zero_le _) (Nat.zero_le _)) rfl (Nat.le_of_ble_eq_true rfl) d_X11_pour_152 (fun r16 M17 => ?_)
                      exact jo_zretq rfl d_X11_pour_155
                    · skip
                      exact jO.sub (t_X11_pour_L119 hs n M12) (And.intro rfl True.intro)
                · skip
                  refine jo_aload 0 d_X11_pour_83 rfl rfl ?_
                  refine jo_bipush 8 d_X11_pour_84 (by decide) ?_
                  refine jo_callV (st := []) (m_X11_deny hs n 8 M8) ok_X11_deny (And.intro (Nat.le_of_ble_eq_true rfl) (Nat.le_of_ble_eq_true rfl)) lm_X11_124 in_X11_deny se_X11_deny rfl kc_0 rfl rfl (And.intro (Nat.zero_le _) (Nat.zero_le _)) rfl (Nat.le_of_ble_eq_true rfl) d_X11_pour_86 (fun r18 M19 => ?_)
                  exact jo_zretq rfl d_X11_pour_89
              · skip
                exact jO.sub (t_X11_pour_L56 hs n M8) (And.intro rfl True.intro)
          · skip
            exact jO.sub (t_X11_pour_L28 hs n M4) (And.intro rfl True.intro)
theorem m_X11_pour {g : JG} {ad : Nat → Nat} (hs : jStr g ad) (n : Nat) (x1 : Int) (x2 : Int) (x3 : Int) (x4 : Int) (x5 : Int) (M : JMem) : jMet g jNN ad jR D_X11_pour yX11_pour [.ref 0, ji x1, ji x2, ji x3, ji x4, ji x5] M (f_X11_pour n x1 x2 x3 x4 x5 M) :=
  jMet.of (lo0 := [some (.ref 0), some (ji x1), some (ji x2), some (ji x3), some (ji x4), some (ji x5)]) (by decide) rfl rfl (Nat.le_of_ble_eq_true rfl) (And.intro rfl (And.intro rfl (And.intro rfl (And.intro rfl (And.intro rfl (And.intro rfl True.intro)))))) (t_X11_pour hs n x1 x2 x3 x4 x5 M)
/-! CageLeave.reach()I -/
def D_X11_reach : JD := (RX11, cX11_reach, 3, some .int, "reach", { frames := 2, cells := 0, slots := 0, locals := 48 })
theorem ok_X11_reach : jOk D_X11_reach yX11_reach 0 := ⟨jTW_mem (k := 1201) (by decide +kernel) rfl, jTW_mem (k := 135) (by decide +kernel) rfl, ⟨by decide +kernel, by decide +kernel⟩, by decide +kernel, rfl, rfl⟩
theorem in_X11_reach : Cond.instanceMethod yX11_reach ∈ jTW := jTW_mem (k := 1199) (by decide +kernel) rfl
theorem se_X11_reach : Cond.selects yX11_reach.cls yX11_reach yX11_reach ∈ jTW := jTW_mem (k := 1200) (by decide +kernel) rfl
theorem lk_X11_363 : Cond.fieldLink RX11 363 (TX8 0).1 (TX8 0).2.1 (TX8 0).2.2.1 ∈ jTW := jTW_mem (k := 544) (by decide +kernel) rfl
theorem lm_X11_359 : Cond.methodLink RX11 359 yX8_setOut ∈ jTW := jTW_mem (k := 1202) (by decide +kernel) rfl
theorem d_X11_reach_0 : decode (D_X11_reach).2.1 0 = .ok (.aload_n 0, 1) := by decide +kernel
theorem d_X11_reach_1 : decode (D_X11_reach).2.1 1 = .ok (.getfield 53, 3) := by decide +kernel
theorem d_X11_reach_4 : decode (D_X11_reach).2.1 4 = .ok (.getfield 212, 3) := by decide +kernel
theorem d_X11_reach_7 : decode (D_X11_reach).2.1 7 = .ok (.ifCond .ne 10, 3) := by decide +kernel
theorem d_X11_reach_10 : decode (D_X11_reach).2.1 10 = .ok (.aload_n 0, 1) := by decide +kernel
theorem d_X11_reach_11 : decode (D_X11_reach).2.1 11 = .ok (.bipush 6, 2) := by decide +kernel
theorem d_X11_reach_13 : decode (D_X11_reach).2.1 13 = .ok (.invokevirtual 143, 3) := by decide +kernel
theorem d_X11_reach_16 : decode (D_X11_reach).2.1 16 = .ok (.ireturn, 1) := by decide +kernel
theorem d_X11_reach_17 : decode (D_X11_reach).2.1 17 = .ok (.aload_n 0, 1) := by decide +kernel
theorem d_X11_reach_18 : decode (D_X11_reach).2.1 18 = .ok (.getfield 92, 3) := by decide +kernel
theorem d_X11_reach_21 : decode (D_X11_reach).2.1 21 = .ok (.aload_n 0, 1) := by decide +kernel
theorem d_X11_reach_22 : decode (D_X11_reach).2.1 22 = .ok (.getfield 53, 3) := by decide +kernel
theorem d_X11_reach_25 : decode (D_X11_reach).2.1 25 = .ok (.invokevirtual 346, 3) := by decide +kernel
theorem d_X11_reach_28 : decode (D_X11_reach).2.1 28 = .ok (.aload_n 0, 1) := by decide +kernel
theorem d_X11_reach_29 : decode (D_X11_reach).2.1 29 = .ok (.getfield 92, 3) := by decide +kernel
theorem d_X11_reach_32 : decode (D_X11_reach).2.1 32 = .ok (.aload_n 0, 1) := by decide +kernel
theorem d_X11_reach_33 : decode (D_X11_reach).2.1 33 = .ok (.getfield 53, 3) := by decide +kernel
theorem d_X11_reach_36 : decode (D_X11_reach).2.1 36 = .ok (.aload_n 0, 1) := by decide +kernel
theorem d_X11_reach_37 : decode (D_X11_reach).2.1 37 = .ok (.getfield 60, 3) := by decide +kernel
theorem d_X11_reach_40 : decode (D_X11_reach).2.1 40 = .ok (.getfield 237, 3) := by decide +kernel
theorem d_X11_reach_43 : decode (D_X11_reach).2.1 43 = .ok (.iconst 0, 1) := by decide +kernel
theorem d_X11_reach_44 : decode (D_X11_reach).2.1 44 = .ok (.iconst 0, 1) := by decide +kernel
theorem d_X11_reach_45 : decode (D_X11_reach).2.1 45 = .ok (.invokevirtual 359, 3) := by decide +kernel
theorem d_X11_reach_48 : decode (D_X11_reach).2.1 48 = .ok (.iconst 0, 1) := by decide +kernel
theorem d_X11_reach_49 : decode (D_X11_reach).2.1 49 = .ok (.istore_n 1, 1) := by decide +kernel
theorem d_X11_reach_50 : decode (D_X11_reach).2.1 50 = .ok (.iconst 0, 1) := by decide +kernel
theorem d_X11_reach_51 : decode (D_X11_reach).2.1 51 = .ok (.istore_n 2, 1) := by decide +kernel
theorem d_X11_reach_52 : decode (D_X11_reach).2.1 52 = .ok (.iload_n 2, 1) := by decide +kernel
theorem d_X11_reach_53 : decode (D_X11_reach).2.1 53 = .ok (.aload_n 0, 1) := by decide +kernel
theorem d_X11_reach_54 : decode (D_X11_reach).2.1 54 = .ok (.getfield 53, 3) := by decide +kernel
theorem d_X11_reach_57 : decode (D_X11_reach).2.1 57 = .ok (.getfield 212, 3) := by decide +kernel
theorem d_X11_reach_60 : decode (D_X11_reach).2.1 60 = .ok (.if_icmp .ge 29, 3) := by decide +kernel
theorem d_X11_reach_63 : decode (D_X11_reach).2.1 63 = .ok (.aload_n 0, 1) := by decide +kernel
theorem d_X11_reach_64 : decode (D_X11_reach).2.1 64 = .ok (.getfield 92, 3) := by decide +kernel
theorem d_X11_reach_67 : decode (D_X11_reach).2.1 67 = .ok (.getfield 363, 3) := by decide +kernel
theorem d_X11_reach_70 : decode (D_X11_reach).2.1 70 = .ok (.iload_n 2, 1) := by decide +kernel
theorem d_X11_reach_71 : decode (D_X11_reach).2.1 71 = .ok (.iaload, 1) := by decide +kernel
theorem d_X11_reach_72 : decode (D_X11_reach).2.1 72 = .ok (.bipush 64, 2) := by decide +kernel
theorem d_X11_reach_74 : decode (D_X11_reach).2.1 74 = .ok (.if_icmp .gt 9, 3) := by decide +kernel
theorem d_X11_reach_77 : decode (D_X11_reach).2.1 77 = .ok (.iload_n 1, 1) := by decide +kernel
theorem d_X11_reach_78 : decode (D_X11_reach).2.1 78 = .ok (.iconst 1, 1) := by decide +kernel
theorem d_X11_reach_79 : decode (D_X11_reach).2.1 79 = .ok (.iload_n 2, 1) := by decide +kernel
theorem d_X11_reach_80 : decode (D_X11_reach).2.1 80 = .ok (.ishl, 1) := by decide +kernel
theorem d_X11_reach_81 : decode (D_X11_reach).2.1 81 = .ok (.ior, 1) := by decide +kernel
theorem d_X11_reach_82 : decode (D_X11_reach).2.1 82 = .ok (.istore_n 1, 1) := by decide +kernel
theorem d_X11_reach_83 : decode (D_X11_reach).2.1 83 = .ok (.iinc 2 1, 3) := by decide +kernel
theorem d_X11_reach_86 : decode (D_X11_reach).2.1 86 = .ok (.goto (-34), 3) := by decide +kernel
theorem d_X11_reach_89 : decode (D_X11_reach).2.1 89 = .ok (.aload_n 0, 1) := by decide +kernel
theorem d_X11_reach_90 : decode (D_X11_reach).2.1 90 = .ok (.iload_n 1, 1) := by decide +kernel
theorem d_X11_reach_91 : decode (D_X11_reach).2.1 91 = .ok (.invokevirtual 193, 3) := by decide +kernel
theorem d_X11_reach_94 : decode (D_X11_reach).2.1 94 = .ok (.ireturn, 1) := by decide +kernel
def f_X11_reach_L83 (n : Nat) (r52 : Int → Int → JMem → Option (Int × JMem)) (v1 v2 : Int) (M : JMem) : Option (Int × JMem) := letv (v2 + 1) fun y1 => r52 v1 y1 M
set_option maxRecDepth 4000 in
theorem t_X11_reach_L83 {g : JG} {ad : Nat → Nat} (hs : jStr g ad) (n : Nat) (r52 : Int → Int → JMem → Option (Int × JMem)) (hr52 : ∀ (v1 v2 : Int) (M : JMem), jB g D_X11_reach ad 52 [some (.ref 0), some (ji v1), some (ji v2)] [] M (r52 v1 v2 M)) (v1 v2 : Int) (M : JMem) : jB g D_X11_reach ad 83 [some (.ref 0), some (ji v1), some (ji v2)] [] M (f_X11_reach_L83 n r52 v1 v2 M) := by
  unfold f_X11_reach_L83
  refine jo_iinc 2 d_X11_reach_83 rfl (Nat.le_of_ble_eq_true rfl) (fun y1 => ?_)
  refine jo_goto 52 d_X11_reach_86 (by decide) ?_
  exact jO.sub (hr52 v1 y1 M) (And.intro rfl (And.intro rfl (And.intro rfl True.intro)))
def f_X11_reach_L89 (n : Nat) (v1 : Int) (M : JMem) : Option (Int × JMem) := bnd (f_X11_answer n v1 M) fun r1 M2 => some (r1, M2)
set_option maxRecDepth 4000 in
theorem t_X11_reach_L89 {g : JG} {ad : Nat → Nat} (hs : jStr g ad) (n : Nat) (v1 : Int) (M : JMem) : jB g D_X11_reach ad 89 [some (.ref 0), some (ji v1), none] [] M (f_X11_reach_L89 n v1 M) := by
  unfold f_X11_reach_L89
  refine jo_aload 0 d_X11_reach_89 rfl rfl ?_
  refine jo_iload 1 d_X11_reach_90 rfl rfl ?_
  refine jo_callV (st := []) (m_X11_answer hs n v1 M) ok_X11_answer (And.intro (Nat.le_of_ble_eq_true rfl) (Nat.le_of_ble_eq_true rfl)) lm_X11_193 in_X11_answer se_X11_answer rfl kc_0 rfl rfl (And.intro (Nat.zero_le _) (Nat.zero_le _)) rfl (Nat.le_of_ble_eq_true rfl) d_X11_reach_91 (fun r1 M2 => ?_)
  exact jo_iret rfl d_X11_reach_94
def f_X11_reach_L52 (n : Nat) : Nat → Int → Int → JMem → Option (Int × JMem)
  | 0, _, _, _ => none
  | k + 1, v1, v2, M => if jw (M 40 0) ≤ jw v2 then (f_X11_reach_L89 n v1 M) else (chk (jin v2 6) <| if jw 64 < jw (M 77 (jw v2).toNat) then (f_X11_reach_L83 n (f_X11_reach_L52 n k) v1 v2 M) else (letv (jor v1 (jshl 1 v2)) fun y1 => f_X11_reach_L83 n (f_X11_reach_L52 n k) y1 v2 M))
set_option maxRecDepth 4000 in
theorem t_X11_reach_L52 {g : JG} {ad : Nat → Nat} (hs : jStr g ad) (n : Nat) : ∀ (k : Nat) (v1 v2 : Int) (M : JMem), jB g D_X11_reach ad 52 [some (.ref 0), some (ji v1), some (ji v2)] [] M (f_X11_reach_L52 n k v1 v2 M) := by
  intro k
  induction k with
  | zero => intro v1 v2 M; exact jO.none
  | succ k ih =>
    intro v1 v2 M
    rw [f_X11_reach_L52]
    refine jo_iload 2 d_X11_reach_52 rfl rfl ?_
    refine jo_aload 0 d_X11_reach_53 rfl rfl ?_
    refine jo_getR (k := 7) cl_11 (Nat.le_of_ble_eq_true rfl) lk_X11_53 rfl kc_0 kr_0_7 d_X11_reach_54 ?_
    refine jo_getI (k := 0) cl_4 (Nat.le_of_ble_eq_true rfl) lk_X11_212 (Or.inl rfl) kc_40 d_X11_reach_57 ?_
    refine jo_icmp_ge 89 d_X11_reach_60 (by decide) ?_ ?_
    · skip
      exact jO.sub (t_X11_reach_L89 hs n v1 M) (And.intro rfl (And.intro rfl True.intro))
    · skip
      refine jo_aload 0 d_X11_reach_63 rfl rfl ?_
      refine jo_getR (k := 15) cl_11 (Nat.le_of_ble_eq_true rfl) lk_X11_92 rfl kc_0 kr_0_15 d_X11_reach_64 ?_
      refine jo_getR (k := 0) cl_8 (Nat.le_of_ble_eq_true rfl) lk_X11_363 rfl kc_76 kr_76_0 d_X11_reach_67 ?_
      refine jo_iload 2 d_X11_reach_70 rfl rfl ?_
      refine jo_iald (N := 6) kc_77 d_X11_reach_71 ?_
      refine jo_bipush 64 d_X11_reach_72 (by decide) ?_
      refine jo_icmp_gt 83 d_X11_reach_74 (by decide) ?_ ?_
      · skip
        exact jO.sub (t_X11_reach_L83 hs n (f_X11_reach_L52 n k) ih v1 v2 M) (And.intro rfl (And.intro rfl (And.intro rfl True.intro)))
      · skip
        refine jo_iload 1 d_X11_reach_77 rfl rfl ?_
        refine jo_iconst 1 d_X11_reach_78 ?_
        refine jo_iload 2 d_X11_reach_79 rfl rfl ?_
        refine jo_ishl d_X11_reach_80 ?_
        refine jo_ior d_X11_reach_81 ?_
        refine jo_istore 1 d_X11_reach_82 rfl (Nat.le_of_ble_eq_true rfl) (fun y1 => ?_)
        exact jO.sub (t_X11_reach_L83 hs n (f_X11_reach_L52 n k) ih y1 v2 M) (And.intro rfl (And.intro rfl (And.intro rfl True.intro)))
def f_X11_reach (n : Nat) (M : JMem) : Option (Int × JMem) := if jw (M 40 0) = 0 then (bnd (f_X11_refuse n 6 M) fun r7 M8 => some (r7, M8)) else (bnd (f_X8_order n 40 M) fun _ M2 => bnd (f_X8_setOut n 40 (M2 52 4) 0 0 M2) fun _ M4 => letv 0 fun y5 => letv 0 fun y6 => f_X11_reach_L52 n n y5 y6 M4)
set_option maxRecDepth 4000 in
theorem t_X11_reach {g : JG} {ad : Nat → Nat} (hs : jStr g ad) (n : Nat) (M : JMem) : jB g D_X11_reach ad 0 [some (.ref 0), none, none] [] M (f_X11_reach n M) := by
  unfold f_X11_reach
  refine jo_aload 0 d_X11_reach_0 rfl rfl ?_
  refine jo_getR (k := 7) cl_11 (Nat.le_of_ble_eq_true rfl) lk_X11_53 rfl kc_0 kr_0_7 d_X11_reach_1 ?_
  refine jo_getI (k := 0) cl_4 (Nat.le_of_ble_eq_true rfl) lk_X11_212 (Or.inl rfl) kc_40 d_X11_reach_4 ?_
  refine jo_if_ne 17 d_X11_reach_7 (by decide) ?_ ?_
  · skip
    refine jo_aload 0 d_X11_reach_17 rfl rfl ?_
    refine jo_getR (k := 15) cl_11 (Nat.le_of_ble_eq_true rfl) lk_X11_92 rfl kc_0 kr_0_15 d_X11_reach_18 ?_
    refine jo_aload 0 d_X11_reach_21 rfl rfl ?_
    refine jo_getR (k := 7) cl_11 (Nat.le_of_ble_eq_true rfl) lk_X11_53 rfl kc_0 kr_0_7 d_X11_reach_22 ?_
    refine jo_callV (st := []) (m_X8_order hs n 40 kc_40 M) ok_X8_order (And.intro (Nat.le_of_ble_eq_true rfl) (Nat.le_of_ble_eq_true rfl)) lm_X11_346 in_X8_order se_X8_order rfl kc_76 rfl rfl (And.intro (Nat.zero_le _) (Nat.zero_le _)) rfl (Nat.le_of_ble_eq_true rfl) d_X11_reach_25 (fun _ M2 => ?_)
    refine jo_aload 0 d_X11_reach_28 rfl rfl ?_
    refine jo_getR (k := 15) cl_11 (Nat.le_of_ble_eq_true rfl) lk_X11_92 rfl kc_0 kr_0_15 d_X11_reach_29 ?_
    refine jo_aload 0 d_X11_reach_32 rfl rfl ?_
    refine jo_getR (k := 7) cl_11 (Nat.le_of_ble_eq_true rfl) lk_X11_53 rfl kc_0 kr_0_7 d_X11_reach_33 ?_
    refine jo_aload 0 d_X11_reach_36 rfl rfl ?_
    refine jo_getR (k := 8) cl_11 (Nat.le_of_ble_eq_true rfl) lk_X11_60 rfl kc_0 kr_0_8 d_X11_reach_37 ?_
    refine jo_getI (k := 4) cl_1 (Nat.le_of_ble_eq_true rfl) lk_X11_237 (Or.inl rfl) kc_52 d_X11_reach_40 ?_
    refine jo_iconst 0 d_X11_reach_43 ?_
    refine jo_iconst 0 d_X11_reach_44 ?_
    refine jo_callV (st := []) (m_X8_setOut hs n 40 (M2 52 4) 0 0 kc_40 M2) ok_X8_setOut (And.intro (Nat.le_of_ble_eq_true rfl) (Nat.le_of_ble_eq_true rfl)) lm_X11_359 in_X8_setOut se_X8_setOut rfl kc_76 rfl rfl (And.intro (Nat.zero_le _) (Nat.zero_le _)) rfl (Nat.le_of_ble_eq_true rfl) d_X11_reach_45 (fun _ M4 => ?_)
    refine jo_iconst 0 d_X11_reach_48 ?_
    refine jo_istore 1 d_X11_reach_49 rfl (Nat.le_of_ble_eq_true rfl) (fun y5 => ?_)
    refine jo_iconst 0 d_X11_reach_50 ?_
    refine jo_istore 2 d_X11_reach_51 rfl (Nat.le_of_ble_eq_true rfl) (fun y6 => ?_)
    exact jO.sub (t_X11_reach_L52 hs n n y5 y6 M4) (And.intro rfl (And.intro rfl (And.intro rfl True.intro)))
  · skip
    refine jo_aload 0 d_X11_reach_10 rfl rfl ?_
    refine jo_bipush 6 d_X11_reach_11 (by decide) ?_
    refine jo_callV (st := []) (m_X11_refuse hs n 6 M) ok_X11_refuse (And.intro (Nat.le_of_ble_eq_true rfl) (Nat.le_of_ble_eq_true rfl)) lm_X11_143 in_X11_refuse se_X11_refuse rfl kc_0 rfl rfl (And.intro (Nat.zero_le _) (Nat.zero_le _)) rfl (Nat.le_of_ble_eq_true rfl) d_X11_reach_13 (fun r7 M8 => ?_)
    exact jo_iret rfl d_X11_reach_16
theorem m_X11_reach {g : JG} {ad : Nat → Nat} (hs : jStr g ad) (n : Nat) (M : JMem) : jMet g jNN ad jR D_X11_reach yX11_reach [.ref 0] M (f_X11_reach n M) :=
  jMet.of (lo0 := [some (.ref 0), none, none]) (by decide) rfl rfl (Nat.le_of_ble_eq_true rfl) (And.intro rfl True.intro) (t_X11_reach hs n M)
/-! CageLeave.read(II)J -/
def D_X11_read : JD := (RX11, cX11_read, 4, some .long, "read", { frames := 3, cells := 0, slots := 0, locals := 66 })
theorem ok_X11_read : jOk D_X11_read yX11_read 2 := ⟨jTW_mem (k := 723) (by decide +kernel) rfl, jTW_mem (k := 135) (by decide +kernel) rfl, ⟨by decide +kernel, by decide +kernel⟩, by decide +kernel, rfl, rfl⟩
theorem in_X11_read : Cond.instanceMethod yX11_read ∈ jTW := jTW_mem (k := 721) (by decide +kernel) rfl
theorem se_X11_read : Cond.selects yX11_read.cls yX11_read yX11_read ∈ jTW := jTW_mem (k := 722) (by decide +kernel) rfl
theorem lm_X11_135 : Cond.methodLink RX11 135 yX7_whyNotAt ∈ jTW := jTW_mem (k := 703) (by decide +kernel) rfl
theorem d_X11_read_0 : decode (D_X11_read).2.1 0 = .ok (.aload_n 0, 1) := by decide +kernel
theorem d_X11_read_1 : decode (D_X11_read).2.1 1 = .ok (.getfield 23, 3) := by decide +kernel
theorem d_X11_read_4 : decode (D_X11_read).2.1 4 = .ok (.iload_n 1, 1) := by decide +kernel
theorem d_X11_read_5 : decode (D_X11_read).2.1 5 = .ok (.iload_n 2, 1) := by decide +kernel
theorem d_X11_read_6 : decode (D_X11_read).2.1 6 = .ok (.invokevirtual 135, 3) := by decide +kernel
theorem d_X11_read_9 : decode (D_X11_read).2.1 9 = .ok (.istore_n 3, 1) := by decide +kernel
theorem d_X11_read_10 : decode (D_X11_read).2.1 10 = .ok (.iload_n 3, 1) := by decide +kernel
theorem d_X11_read_11 : decode (D_X11_read).2.1 11 = .ok (.ifCond .eq 10, 3) := by decide +kernel
theorem d_X11_read_14 : decode (D_X11_read).2.1 14 = .ok (.aload_n 0, 1) := by decide +kernel
theorem d_X11_read_15 : decode (D_X11_read).2.1 15 = .ok (.iload_n 3, 1) := by decide +kernel
theorem d_X11_read_16 : decode (D_X11_read).2.1 16 = .ok (.invokevirtual 143, 3) := by decide +kernel
theorem d_X11_read_19 : decode (D_X11_read).2.1 19 = .ok (.i2l, 1) := by decide +kernel
theorem d_X11_read_20 : decode (D_X11_read).2.1 20 = .ok (.lreturn, 1) := by decide +kernel
theorem d_X11_read_21 : decode (D_X11_read).2.1 21 = .ok (.aload_n 0, 1) := by decide +kernel
theorem d_X11_read_22 : decode (D_X11_read).2.1 22 = .ok (.iconst 0, 1) := by decide +kernel
theorem d_X11_read_23 : decode (D_X11_read).2.1 23 = .ok (.putfield 9, 3) := by decide +kernel
theorem d_X11_read_26 : decode (D_X11_read).2.1 26 = .ok (.aload_n 0, 1) := by decide +kernel
theorem d_X11_read_27 : decode (D_X11_read).2.1 27 = .ok (.getfield 23, 3) := by decide +kernel
theorem d_X11_read_30 : decode (D_X11_read).2.1 30 = .ok (.getfield 147, 3) := by decide +kernel
theorem d_X11_read_33 : decode (D_X11_read).2.1 33 = .ok (.iload_n 1, 1) := by decide +kernel
theorem d_X11_read_34 : decode (D_X11_read).2.1 34 = .ok (.aaload, 1) := by decide +kernel
theorem d_X11_read_35 : decode (D_X11_read).2.1 35 = .ok (.iload_n 2, 1) := by decide +kernel
theorem d_X11_read_36 : decode (D_X11_read).2.1 36 = .ok (.laload, 1) := by decide +kernel
theorem d_X11_read_37 : decode (D_X11_read).2.1 37 = .ok (.lreturn, 1) := by decide +kernel
def f_X11_read (n : Nat) (x1 : Int) (x2 : Int) (M : JMem) : Option (Int × JMem) := bnd (f_X7_whyNotAt n x1 x2 M) fun r1 M2 => letv r1 fun y3 => if jw y3 = 0 then (letm (jup M2 0 0 0) fun M4 => chk (jin x1 4) <| chk (jin x2 60) <| some ((M4 (jRn 2 (jw x1).toNat) (jw x2).toNat), M4)) else (bnd (f_X11_refuse n y3 M2) fun r6 M7 => some ((jw r6), M7))
set_option maxRecDepth 4000 in
theorem t_X11_read {g : JG} {ad : Nat → Nat} (hs : jStr g ad) (n : Nat) (x1 : Int) (x2 : Int) (M : JMem) : jB g D_X11_read ad 0 [some (.ref 0), some (ji x1), some (ji x2), none] [] M (f_X11_read n x1 x2 M) := by
  unfold f_X11_read
  refine jo_aload 0 d_X11_read_0 rfl rfl ?_
  refine jo_getR (k := 3) cl_11 (Nat.le_of_ble_eq_true rfl) lk_X11_23 rfl kc_0 kr_0_3 d_X11_read_1 ?_
  refine jo_iload 1 d_X11_read_4 rfl rfl ?_
  refine jo_iload 2 d_X11_read_5 rfl rfl ?_
  refine jo_callV (st := []) (m_X7_whyNotAt hs n x1 x2 M) ok_X7_whyNotAt (And.intro (Nat.le_of_ble_eq_true rfl) (Nat.le_of_ble_eq_true rfl)) lm_X11_135 in_X7_whyNotAt se_X7_whyNotAt rfl kc_1 rfl rfl (And.intro (Nat.zero_le _) (Nat.zero_le _)) rfl (Nat.le_of_ble_eq_true rfl) d_X11_read_6 (fun r1 M2 => ?_)
  refine jo_istore 3 d_X11_read_9 rfl (Nat.le_of_ble_eq_true rfl) (fun y3 => ?_)
  refine jo_iload 3 d_X11_read_10 rfl rfl ?_
  refine jo_if_eq 21 d_X11_read_11 (by decide) ?_ ?_
  · skip
    refine jo_aload 0 d_X11_read_21 rfl rfl ?_
    refine jo_iconst 0 d_X11_read_22 ?_
    refine jo_putI (k := 0) cl_11 (Nat.le_of_ble_eq_true rfl) lk_X11_9 rfl rfl kc_0 d_X11_read_23 (fun M4 => ?_)
    refine jo_aload 0 d_X11_read_26 rfl rfl ?_
    refine jo_getR (k := 3) cl_11 (Nat.le_of_ble_eq_true rfl) lk_X11_23 rfl kc_0 kr_0_3 d_X11_read_27 ?_
    refine jo_getR (k := 0) cl_7 (Nat.le_of_ble_eq_true rfl) lk_X11_147 rfl kc_1 kr_1_0 d_X11_read_30 ?_
    refine jo_iload 1 d_X11_read_33 rfl rfl ?_
    refine jo_aald_2 d_X11_read_34 (fun h5 => ?_)
    refine jo_iload 2 d_X11_read_35 rfl rfl ?_
    refine jo_lald (N := 60) h5 d_X11_read_36 ?_
    exact jo_lret rfl d_X11_read_37
  · skip
    refine jo_aload 0 d_X11_read_14 rfl rfl ?_
    refine jo_iload 3 d_X11_read_15 rfl rfl ?_
    refine jo_callV (st := []) (m_X11_refuse hs n y3 M2) ok_X11_refuse (And.intro (Nat.le_of_ble_eq_true rfl) (Nat.le_of_ble_eq_true rfl)) lm_X11_143 in_X11_refuse se_X11_refuse rfl kc_0 rfl rfl (And.intro (Nat.zero_le _) (Nat.zero_le _)) rfl (Nat.le_of_ble_eq_true rfl) d_X11_read_16 (fun r6 M7 => ?_)
    refine jo_i2l d_X11_read_19 ?_
    exact jo_lret rfl d_X11_read_20
theorem m_X11_read {g : JG} {ad : Nat → Nat} (hs : jStr g ad) (n : Nat) (x1 : Int) (x2 : Int) (M : JMem) : jMet g jNN ad jR D_X11_read yX11_read [.ref 0, ji x1, ji x2] M (f_X11_read n x1 x2 M) :=
  jMet.of (lo0 := [some (.ref 0), some (ji x1), some (ji x2), none]) (by decide) rfl rfl (Nat.le_of_ble_eq_true rfl) (And.intro rfl (And.intro rfl (And.intro rfl True.intro))) (t_X11_read hs n x1 x2 M)
/-! CageLeave.roomSize(II)I -/
def D_X11_roomSize : JD := (RX11, cX11_roomSize, 7, some .int, "roomSize", { frames := 3, cells := 0, slots := 0, locals := 90 })
theorem ok_X11_roomSize : jOk D_X11_roomSize yX11_roomSize 2 := ⟨jTW_mem (k := 1265) (by decide +kernel) rfl, jTW_mem (k := 135) (by decide +kernel) rfl, ⟨by decide +kernel, by decide +kernel⟩, by decide +kernel, rfl, rfl⟩
theorem in_X11_roomSize : Cond.instanceMethod yX11_roomSize ∈ jTW := jTW_mem (k := 1263) (by decide +kernel) rfl
theorem se_X11_roomSize : Cond.selects yX11_roomSize.cls yX11_roomSize yX11_roomSize ∈ jTW := jTW_mem (k := 1264) (by decide +kernel) rfl
theorem lk_X11_99 : Cond.fieldLink RX11 99 (TX11 16).1 (TX11 16).2.1 (TX11 16).2.2.1 ∈ jTW := jTW_mem (k := 623) (by decide +kernel) rfl
theorem lm_X11_389 : Cond.methodLink RX11 389 yX5_fewest ∈ jTW := jTW_mem (k := 1251) (by decide +kernel) rfl
theorem lm_X11_386 : Cond.methodLink RX11 386 yX5_weigh ∈ jTW := jTW_mem (k := 1246) (by decide +kernel) rfl
theorem d_X11_roomSize_0 : decode (D_X11_roomSize).2.1 0 = .ok (.aload_n 0, 1) := by decide +kernel
theorem d_X11_roomSize_1 : decode (D_X11_roomSize).2.1 1 = .ok (.iload_n 1, 1) := by decide +kernel
theorem d_X11_roomSize_2 : decode (D_X11_roomSize).2.1 2 = .ok (.invokevirtual 379, 3) := by decide +kernel
theorem d_X11_roomSize_5 : decode (D_X11_roomSize).2.1 5 = .ok (.ifCond .eq 14, 3) := by decide +kernel
theorem d_X11_roomSize_8 : decode (D_X11_roomSize).2.1 8 = .ok (.iload_n 2, 1) := by decide +kernel
theorem d_X11_roomSize_9 : decode (D_X11_roomSize).2.1 9 = .ok (.iconst 1, 1) := by decide +kernel
theorem d_X11_roomSize_10 : decode (D_X11_roomSize).2.1 10 = .ok (.if_icmp .lt 9, 3) := by decide +kernel
theorem d_X11_roomSize_13 : decode (D_X11_roomSize).2.1 13 = .ok (.iload_n 2, 1) := by decide +kernel
theorem d_X11_roomSize_14 : decode (D_X11_roomSize).2.1 14 = .ok (.bipush 8, 2) := by decide +kernel
theorem d_X11_roomSize_16 : decode (D_X11_roomSize).2.1 16 = .ok (.if_icmp .le 9, 3) := by decide +kernel
theorem d_X11_roomSize_19 : decode (D_X11_roomSize).2.1 19 = .ok (.aload_n 0, 1) := by decide +kernel
theorem d_X11_roomSize_20 : decode (D_X11_roomSize).2.1 20 = .ok (.iconst 1, 1) := by decide +kernel
theorem d_X11_roomSize_21 : decode (D_X11_roomSize).2.1 21 = .ok (.invokevirtual 143, 3) := by decide +kernel
theorem d_X11_roomSize_24 : decode (D_X11_roomSize).2.1 24 = .ok (.ireturn, 1) := by decide +kernel
theorem d_X11_roomSize_25 : decode (D_X11_roomSize).2.1 25 = .ok (.aload_n 0, 1) := by decide +kernel
theorem d_X11_roomSize_26 : decode (D_X11_roomSize).2.1 26 = .ok (.getfield 99, 3) := by decide +kernel
theorem d_X11_roomSize_29 : decode (D_X11_roomSize).2.1 29 = .ok (.aload_n 0, 1) := by decide +kernel
theorem d_X11_roomSize_30 : decode (D_X11_roomSize).2.1 30 = .ok (.getfield 53, 3) := by decide +kernel
theorem d_X11_roomSize_33 : decode (D_X11_roomSize).2.1 33 = .ok (.invokevirtual 386, 3) := by decide +kernel
theorem d_X11_roomSize_36 : decode (D_X11_roomSize).2.1 36 = .ok (.iconst 1, 1) := by decide +kernel
theorem d_X11_roomSize_37 : decode (D_X11_roomSize).2.1 37 = .ok (.istore_n 3, 1) := by decide +kernel
theorem d_X11_roomSize_38 : decode (D_X11_roomSize).2.1 38 = .ok (.bipush 73, 2) := by decide +kernel
theorem d_X11_roomSize_40 : decode (D_X11_roomSize).2.1 40 = .ok (.istore 4, 2) := by decide +kernel
theorem d_X11_roomSize_42 : decode (D_X11_roomSize).2.1 42 = .ok (.iconst 0, 1) := by decide +kernel
theorem d_X11_roomSize_43 : decode (D_X11_roomSize).2.1 43 = .ok (.istore 5, 2) := by decide +kernel
theorem d_X11_roomSize_45 : decode (D_X11_roomSize).2.1 45 = .ok (.iload 5, 2) := by decide +kernel
theorem d_X11_roomSize_47 : decode (D_X11_roomSize).2.1 47 = .ok (.bipush 8, 2) := by decide +kernel
theorem d_X11_roomSize_49 : decode (D_X11_roomSize).2.1 49 = .ok (.if_icmp .ge 49, 3) := by decide +kernel
theorem d_X11_roomSize_52 : decode (D_X11_roomSize).2.1 52 = .ok (.iload_n 3, 1) := by decide +kernel
theorem d_X11_roomSize_53 : decode (D_X11_roomSize).2.1 53 = .ok (.iload 4, 2) := by decide +kernel
theorem d_X11_roomSize_55 : decode (D_X11_roomSize).2.1 55 = .ok (.if_icmp .ge 43, 3) := by decide +kernel
theorem d_X11_roomSize_58 : decode (D_X11_roomSize).2.1 58 = .ok (.iload_n 3, 1) := by decide +kernel
theorem d_X11_roomSize_59 : decode (D_X11_roomSize).2.1 59 = .ok (.iload 4, 2) := by decide +kernel
theorem d_X11_roomSize_61 : decode (D_X11_roomSize).2.1 61 = .ok (.iadd, 1) := by decide +kernel
theorem d_X11_roomSize_62 : decode (D_X11_roomSize).2.1 62 = .ok (.iconst 2, 1) := by decide +kernel
theorem d_X11_roomSize_63 : decode (D_X11_roomSize).2.1 63 = .ok (.idiv, 1) := by decide +kernel
theorem d_X11_roomSize_64 : decode (D_X11_roomSize).2.1 64 = .ok (.istore 6, 2) := by decide +kernel
theorem d_X11_roomSize_66 : decode (D_X11_roomSize).2.1 66 = .ok (.aload_n 0, 1) := by decide +kernel
theorem d_X11_roomSize_67 : decode (D_X11_roomSize).2.1 67 = .ok (.getfield 99, 3) := by decide +kernel
theorem d_X11_roomSize_70 : decode (D_X11_roomSize).2.1 70 = .ok (.iload_n 1, 1) := by decide +kernel
theorem d_X11_roomSize_71 : decode (D_X11_roomSize).2.1 71 = .ok (.iload 6, 2) := by decide +kernel
theorem d_X11_roomSize_73 : decode (D_X11_roomSize).2.1 73 = .ok (.invokevirtual 389, 3) := by decide +kernel
theorem d_X11_roomSize_76 : decode (D_X11_roomSize).2.1 76 = .ok (.iload_n 2, 1) := by decide +kernel
theorem d_X11_roomSize_77 : decode (D_X11_roomSize).2.1 77 = .ok (.if_icmp .gt 10, 3) := by decide +kernel
theorem d_X11_roomSize_80 : decode (D_X11_roomSize).2.1 80 = .ok (.iload 6, 2) := by decide +kernel
theorem d_X11_roomSize_82 : decode (D_X11_roomSize).2.1 82 = .ok (.istore 4, 2) := by decide +kernel
theorem d_X11_roomSize_84 : decode (D_X11_roomSize).2.1 84 = .ok (.goto 8, 3) := by decide +kernel
theorem d_X11_roomSize_87 : decode (D_X11_roomSize).2.1 87 = .ok (.iload 6, 2) := by decide +kernel
theorem d_X11_roomSize_89 : decode (D_X11_roomSize).2.1 89 = .ok (.iconst 1, 1) := by decide +kernel
theorem d_X11_roomSize_90 : decode (D_X11_roomSize).2.1 90 = .ok (.iadd, 1) := by decide +kernel
theorem d_X11_roomSize_91 : decode (D_X11_roomSize).2.1 91 = .ok (.istore_n 3, 1) := by decide +kernel
theorem d_X11_roomSize_92 : decode (D_X11_roomSize).2.1 92 = .ok (.iinc 5 1, 3) := by decide +kernel
theorem d_X11_roomSize_95 : decode (D_X11_roomSize).2.1 95 = .ok (.goto (-50), 3) := by decide +kernel
theorem d_X11_roomSize_98 : decode (D_X11_roomSize).2.1 98 = .ok (.iload_n 3, 1) := by decide +kernel
theorem d_X11_roomSize_99 : decode (D_X11_roomSize).2.1 99 = .ok (.bipush 72, 2) := by decide +kernel
theorem d_X11_roomSize_101 : decode (D_X11_roomSize).2.1 101 = .ok (.if_icmp .le 12, 3) := by decide +kernel
theorem d_X11_roomSize_104 : decode (D_X11_roomSize).2.1 104 = .ok (.aload_n 0, 1) := by decide +kernel
theorem d_X11_roomSize_105 : decode (D_X11_roomSize).2.1 105 = .ok (.bipush 6, 2) := by decide +kernel
theorem d_X11_roomSize_107 : decode (D_X11_roomSize).2.1 107 = .ok (.invokevirtual 143, 3) := by decide +kernel
theorem d_X11_roomSize_110 : decode (D_X11_roomSize).2.1 110 = .ok (.goto 8, 3) := by decide +kernel
theorem d_X11_roomSize_113 : decode (D_X11_roomSize).2.1 113 = .ok (.aload_n 0, 1) := by decide +kernel
theorem d_X11_roomSize_114 : decode (D_X11_roomSize).2.1 114 = .ok (.iload_n 3, 1) := by decide +kernel
theorem d_X11_roomSize_115 : decode (D_X11_roomSize).2.1 115 = .ok (.invokevirtual 193, 3) := by decide +kernel
theorem d_X11_roomSize_118 : decode (D_X11_roomSize).2.1 118 = .ok (.ireturn, 1) := by decide +kernel
def f_X11_roomSize_L19 (n : Nat) (M : JMem) : Option (Int × JMem) := bnd (f_X11_refuse n 1 M) fun r1 M2 => some (r1, M2)
set_option maxRecDepth 4000 in
theorem t_X11_roomSize_L19 {g : JG} {ad : Nat → Nat} (hs : jStr g ad) (n : Nat) (M : JMem) : jB g D_X11_roomSize ad 19 [some (.ref 0), none, none, none, none, none, none] [] M (f_X11_roomSize_L19 n M) := by
  unfold f_X11_roomSize_L19
  refine jo_aload 0 d_X11_roomSize_19 rfl rfl ?_
  refine jo_iconst 1 d_X11_roomSize_20 ?_
  refine jo_callV (st := []) (m_X11_refuse hs n 1 M) ok_X11_refuse (And.intro (Nat.le_of_ble_eq_true rfl) (Nat.le_of_ble_eq_true rfl)) lm_X11_143 in_X11_refuse se_X11_refuse rfl kc_0 rfl rfl (And.intro (Nat.zero_le _) (Nat.zero_le _)) rfl (Nat.le_of_ble_eq_true rfl) d_X11_roomSize_21 (fun r1 M2 => ?_)
  exact jo_iret rfl d_X11_roomSize_24
def f_X11_roomSize_L92 (n : Nat) (r45 : Int → Int → Int → Int → Int → JMem → Option (Int × JMem)) (v1 v2 v3 v4 v5 : Int) (M : JMem) : Option (Int × JMem) := letv (v5 + 1) fun y1 => r45 v1 v2 v3 v4 y1 M
set_option maxRecDepth 4000 in
theorem t_X11_roomSize_L92 {g : JG} {ad : Nat → Nat} (hs : jStr g ad) (n : Nat) (r45 : Int → Int → Int → Int → Int → JMem → Option (Int × JMem)) (hr45 : ∀ (v1 v2 v3 v4 v5 : Int) (M : JMem), jB g D_X11_roomSize ad 45 [some (.ref 0), some (ji v1), some (ji v2), some (ji v3), some (ji v4), some (ji v5), none] [] M (r45 v1 v2 v3 v4 v5 M)) (v1 v2 v3 v4 v5 : Int) (M : JMem) : jB g D_X11_roomSize ad 92 [some (.ref 0), some (ji v1), some (ji v2), some (ji v3), some (ji v4), some (ji v5), none] [] M (f_X11_roomSize_L92 n r45 v1 v2 v3 v4 v5 M) := by
  unfold f_X11_roomSize_L92
  refine jo_iinc 5 d_X11_roomSize_92 rfl (Nat.le_of_ble_eq_true rfl) (fun y1 => ?_)
  refine jo_goto 45 d_X11_roomSize_95 (by decide) ?_
  exact jO.sub (hr45 v1 v2 v3 v4 y1 M) (And.intro rfl (And.intro rfl (And.intro rfl (And.intro rfl (And.intro rfl (And.intro rfl True.intro))))))
def f_X11_roomSize_L98 (n : Nat) (v3 : Int) (M : JMem) : Option (Int × JMem) := if jw v3 ≤ jw 72 then (bnd (f_X11_answer n v3 M) fun r1 M2 => some (r1, M2)) else (bnd (f_X11_refuse n 6 M) fun r3 M4 => some (r3, M4))
set_option maxRecDepth 4000 in
theorem t_X11_roomSize_L98 {g : JG} {ad : Nat → Nat} (hs : jStr g ad) (n : Nat) (v3 : Int) (M : JMem) : jB g D_X11_roomSize ad 98 [some (.ref 0), none, none, some (ji v3), none, none, none] [] M (f_X11_roomSize_L98 n v3 M) := by
  unfold f_X11_roomSize_L98
  refine jo_iload 3 d_X11_roomSize_98 rfl rfl ?_
  refine jo_bipush 72 d_X11_roomSize_99 (by decide) ?_
  refine jo_icmp_le 113 d_X11_roomSize_101 (by decide) ?_ ?_
  · skip
    refine jo_aload 0 d_X11_roomSize_113 rfl rfl ?_
    refine jo_iload 3 d_X11_roomSize_114 rfl rfl ?_
    refine jo_callV (st := []) (m_X11_answer hs n v3 M) ok_X11_answer (And.intro (Nat.le_of_ble_eq_true rfl) (Nat.le_of_ble_eq_true rfl)) lm_X11_193 in_X11_answer se_X11_answer rfl kc_0 rfl rfl (And.intro (Nat.zero_le _) (Nat.zero_le _)) rfl (Nat.le_of_ble_eq_true rfl) d_X11_roomSize_115 (fun r1 M2 => ?_)
    exact jo_iret rfl d_X11_roomSize_118
  · skip
    refine jo_aload 0 d_X11_roomSize_104 rfl rfl ?_
    refine jo_bipush 6 d_X11_roomSize_105 (by decide) ?_
    refine jo_callV (st := []) (m_X11_refuse hs n 6 M) ok_X11_refuse (And.intro (Nat.le_of_ble_eq_true rfl) (Nat.le_of_ble_eq_true rfl)) lm_X11_143 in_X11_refuse se_X11_refuse rfl kc_0 rfl rfl (And.intro (Nat.zero_le _) (Nat.zero_le _)) rfl (Nat.le_of_ble_eq_true rfl) d_X11_roomSize_107 (fun r3 M4 => ?_)
    refine jo_goto 118 d_X11_roomSize_110 (by decide) ?_
    exact jo_iret rfl d_X11_roomSize_118
def f_X11_roomSize_L45 (n : Nat) : Nat → Int → Int → Int → Int → Int → JMem → Option (Int × JMem)
  | 0, _, _, _, _, _, _ => none
  | k + 1, v1, v2, v3, v4, v5, M => if jw 8 ≤ jw v5 then (f_X11_roomSize_L98 n v3 M) else (if jw v4 ≤ jw v3 then (f_X11_roomSize_L98 n v3 M) else (letv (jdiv (v3 + v4) 2) fun y1 => bnd (f_X5_fewest n v1 y1 M) fun r2 M3 => if jw v2 < jw r2 then (letv (y1 + 1) fun y4 => f_X11_roomSize_L92 n (f_X11_roomSize_L45 n k) v1 v2 y4 v4 v5 M3) else (letv y1 fun y5 => f_X11_roomSize_L92 n (f_X11_roomSize_L45 n k) v1 v2 v3 y5 v5 M3)))
set_option maxRecDepth 4000 in
theorem t_X11_roomSize_L45 {g : JG} {ad : Nat → Nat} (hs : jStr g ad) (n : Nat) : ∀ (k : Nat) (v1 v2 v3 v4 v5 : Int) (M : JMem), jB g D_X11_roomSize ad 45 [some (.ref 0), some (ji v1), some (ji v2), some (ji v3), some (ji v4), some (ji v5), none] [] M (f_X11_roomSize_L45 n k v1 v2 v3 v4 v5 M) := by
  intro k
  induction k with
  | zero => intro v1 v2 v3 v4 v5 M; exact jO.none
  | succ k ih =>
    intro v1 v2 v3 v4 v5 M
    rw [f_X11_roomSize_L45]
    refine jo_iloadW 5 d_X11_roomSize_45 rfl ?_
    refine jo_bipush 8 d_X11_roomSize_47 (by decide) ?_
    refine jo_icmp_ge 98 d_X11_roomSize_49 (by decide) ?_ ?_
    · skip
      exact jO.sub (t_X11_roomSize_L98 hs n v3 M) (And.intro rfl (And.intro rfl True.intro))
    · skip
      refine jo_iload 3 d_X11_roomSize_52 rfl rfl ?_
      refine jo_iloadW 4 d_X11_roomSize_53 rfl ?_
      refine jo_icmp_ge 98 d_X11_roomSize_55 (by decide) ?_ ?_
      · skip
        exact jO.sub (t_X11_roomSize_L98 hs n v3 M) (And.intro rfl (And.intro rfl True.intro))
      · skip
        refine jo_iload 3 d_X11_roomSize_58 rfl rfl ?_
        refine jo_iloadW 4 d_X11_roomSize_59 rfl ?_
        refine jo_iadd d_X11_roomSize_61 ?_
        refine jo_iconst 2 d_X11_roomSize_62 ?_
        refine jo_idiv d_X11_roomSize_63 (by decide) ?_
        refine jo_istoreW 6 d_X11_roomSize_64 (Nat.le_of_ble_eq_true rfl) (fun y1 => ?_)
        refine jo_aload 0 d_X11_roomSize_66 rfl rfl ?_
        refine jo_getR (k := 16) cl_11 (Nat.le_of_ble_eq_true rfl) lk_X11_99 rfl kc_0 kr_0_16 d_X11_roomSize_67 ?_
        refine jo_iload 1 d_X11_roomSize_70 rfl rfl ?_
        refine jo_iloadW 6 d_X11_roomSize_71 rfl ?_
        refine jo_callV (st := []) (m_X5_fewest hs n v1 y1 M) ok_X5_fewest (And.intro (Nat.le_of_ble_eq_true rfl) (Nat.le_of_ble_eq_true rfl)) lm_X11_389 in_X5_fewest se_X5_fewest rfl kc_79 rfl rfl (And.intro (Nat.zero_le _) (Nat.zero_le _)) rfl (Nat.le_of_ble_eq_true rfl) d_X11_roomSize_73 (fun r2 M3 => ?_)
        refine jo_iload 2 d_X11_roomSize_76 rfl rfl ?_
        refine jo_icmp_gt 87 d_X11_roomSize_77 (by decide) ?_ ?_
        · skip
          refine jo_iloadW 6 d_X11_roomSize_87 rfl ?_
          refine jo_iconst 1 d_X11_roomSize_89 ?_
          refine jo_iadd d_X11_roomSize_90 ?_
          refine jo_istore 3 d_X11_roomSize_91 rfl (Nat.le_of_ble_eq_true rfl) (fun y4 => ?_)
          exact jO.sub (t_X11_roomSize_L92 hs n (f_X11_roomSize_L45 n k) ih v1 v2 y4 v4 v5 M3) (And.intro rfl (And.intro rfl (And.intro rfl (And.intro rfl (And.intro rfl (And.intro rfl True.intro))))))
        · skip
          refine jo_iloadW 6 d_X11_roomSize_80 rfl ?_
          refine jo_istoreW 4 d_X11_roomSize_82 (Nat.le_of_ble_eq_true rfl) (fun y5 => ?_)
          refine jo_goto 92 d_X11_roomSize_84 (by decide) ?_
          exact jO.sub (t_X11_roomSize_L92 hs n (f_X11_roomSize_L45 n k) ih v1 v2 v3 y5 v5 M3) (And.intro rfl (And.intro rfl (And.intro rfl (And.intro rfl (And.intro rfl (And.intro rfl True.intro))))))
def f_X11_roomSize (n : Nat) (x1 : Int) (x2 : Int) (M : JMem) : Option (Int × JMem) := bnd (f_X11_isSet n x1 M) fun r1 M2 => if jw r1 = 0 then (f_X11_roomSize_L19 n M2) else (if jw x2 < jw 1 then (f_X11_roomSize_L19 n M2) else (if jw x2 ≤ jw 8 then (bnd (f_X5_weigh n 40 M2) fun _ M4 => letv 1 fun y5 => letv 73 fun y6 => letv 0 fun y7 => f_X11_roomSize_L45 n n x1 x2 y5 y6 y7 M4) else (f_X11_roomSize_L19 n M2)))
set_option maxRecDepth 4000 in
theorem t_X11_roomSize {g : JG} {ad : Nat → Nat} (hs : jStr g ad) (n : Nat) (x1 : Int) (x2 : Int) (M : JMem) : jB g D_X11_roomSize ad 0 [some (.ref 0), some (ji x1), some (ji x2), none, none, none, none] [] M (f_X11_roomSize n x1 x2 M) := by
  unfold f_X11_roomSize
  refine jo_aload 0 d_X11_roomSize_0 rfl rfl ?_
  refine jo_iload 1 d_X11_roomSize_1 rfl rfl ?_
  refine jo_callV (st := []) (m_X11_isSet hs n x1 M) ok_X11_isSet (And.intro (Nat.le_of_ble_eq_true rfl) (Nat.le_of_ble_eq_true rfl)) lm_X11_379 in_X11_isSet se_X11_isSet rfl kc_0 rfl rfl (And.intro (Nat.zero_le _) (Nat.zero_le _)) rfl (Nat.le_of_ble_eq_true rfl) d_X11_roomSize_2 (fun r1 M2 => ?_)
  refine jo_if_eq 19 d_X11_roomSize_5 (by decide) ?_ ?_
  · skip
    exact jO.sub (t_X11_roomSize_L19 hs n M2) (And.intro rfl True.intro)
  · skip
    refine jo_iload 2 d_X11_roomSize_8 rfl rfl ?_
    refine jo_iconst 1 d_X11_roomSize_9 ?_
    refine jo_icmp_lt 19 d_X11_roomSize_10 (by decide) ?_ ?_
    · skip
      exact jO.sub (t_X11_roomSize_L19 hs n M2) (And.intro rfl True.intro)
    · skip
      refine jo_iload 2 d_X11_roomSize_13 rfl rfl ?_
      refine jo_bipush 8 d_X11_roomSize_14 (by decide) ?_
      refine jo_icmp_le 25 d_X11_roomSize_16 (by decide) ?_ ?_
      · skip
        refine jo_aload 0 d_X11_roomSize_25 rfl rfl ?_
        refine jo_getR (k := 16) cl_11 (Nat.le_of_ble_eq_true rfl) lk_X11_99 rfl kc_0 kr_0_16 d_X11_roomSize_26 ?_
        refine jo_aload 0 d_X11_roomSize_29 rfl rfl ?_
        refine jo_getR (k := 7) cl_11 (Nat.le_of_ble_eq_true rfl) lk_X11_53 rfl kc_0 kr_0_7 d_X11_roomSize_30 ?_
        refine jo_callV (st := []) (m_X5_weigh hs n 40 kc_40 M2) ok_X5_weigh (And.intro (Nat.le_of_ble_eq_true rfl) (Nat.le_of_ble_eq_true rfl)) lm_X11_386 in_X5_weigh se_X5_weigh rfl kc_79 rfl rfl (And.intro (Nat.zero_le _) (Nat.zero_le _)) rfl (Nat.le_of_ble_eq_true rfl) d_X11_roomSize_33 (fun _ M4 => ?_)
        refine jo_iconst 1 d_X11_roomSize_36 ?_
        refine jo_istore 3 d_X11_roomSize_37 rfl (Nat.le_of_ble_eq_true rfl) (fun y5 => ?_)
        refine jo_bipush 73 d_X11_roomSize_38 (by decide) ?_
        refine jo_istoreW 4 d_X11_roomSize_40 (Nat.le_of_ble_eq_true rfl) (fun y6 => ?_)
        refine jo_iconst 0 d_X11_roomSize_42 ?_
        refine jo_istoreW 5 d_X11_roomSize_43 (Nat.le_of_ble_eq_true rfl) (fun y7 => ?_)
        exact jO.sub (t_X11_roomSize_L45 hs n n x1 x2 y5 y6 y7 M4) (And.intro rfl (And.intro rfl (And.intro rfl (And.intro rfl (And.intro rfl (And.intro rfl True.intro))))))
      · skip
        exact jO.sub (t_X11_roomSize_L19 hs n M2) (And.intro rfl True.intro)
theorem m_X11_roomSize {g : JG} {ad : Nat → Nat} (hs : jStr g ad) (n : Nat) (x1 : Int) (x2 : Int) (M : JMem) : jMet g jNN ad jR D_X11_roomSize yX11_roomSize [.ref 0, ji x1, ji x2] M (f_X11_roomSize n x1 x2 M) :=
  jMet.of (lo0 := [some (.ref 0), some (ji x1), some (ji x2), none, none, none, none]) (by decide) rfl rfl (Nat.le_of_ble_eq_true rfl) (And.intro rfl (And.intro rfl (And.intro rfl True.intro))) (t_X11_roomSize hs n x1 x2 M)
/-! CageLeave.rooms(II)I -/
def D_X11_rooms : JD := (RX11, cX11_rooms, 4, some .int, "rooms", { frames := 3, cells := 0, slots := 0, locals := 90 })
theorem ok_X11_rooms : jOk D_X11_rooms yX11_rooms 2 := ⟨jTW_mem (k := 1245) (by decide +kernel) rfl, jTW_mem (k := 135) (by decide +kernel) rfl, ⟨by decide +kernel, by decide +kernel⟩, by decide +kernel, rfl, rfl⟩
theorem in_X11_rooms : Cond.instanceMethod yX11_rooms ∈ jTW := jTW_mem (k := 1243) (by decide +kernel) rfl
theorem se_X11_rooms : Cond.selects yX11_rooms.cls yX11_rooms yX11_rooms ∈ jTW := jTW_mem (k := 1244) (by decide +kernel) rfl
theorem d_X11_rooms_0 : decode (D_X11_rooms).2.1 0 = .ok (.aload_n 0, 1) := by decide +kernel
theorem d_X11_rooms_1 : decode (D_X11_rooms).2.1 1 = .ok (.iload_n 1, 1) := by decide +kernel
theorem d_X11_rooms_2 : decode (D_X11_rooms).2.1 2 = .ok (.invokevirtual 379, 3) := by decide +kernel
theorem d_X11_rooms_5 : decode (D_X11_rooms).2.1 5 = .ok (.ifCond .eq 14, 3) := by decide +kernel
theorem d_X11_rooms_8 : decode (D_X11_rooms).2.1 8 = .ok (.iload_n 2, 1) := by decide +kernel
theorem d_X11_rooms_9 : decode (D_X11_rooms).2.1 9 = .ok (.iconst 1, 1) := by decide +kernel
theorem d_X11_rooms_10 : decode (D_X11_rooms).2.1 10 = .ok (.if_icmp .lt 9, 3) := by decide +kernel
theorem d_X11_rooms_13 : decode (D_X11_rooms).2.1 13 = .ok (.iload_n 2, 1) := by decide +kernel
theorem d_X11_rooms_14 : decode (D_X11_rooms).2.1 14 = .ok (.bipush 72, 2) := by decide +kernel
theorem d_X11_rooms_16 : decode (D_X11_rooms).2.1 16 = .ok (.if_icmp .le 9, 3) := by decide +kernel
theorem d_X11_rooms_19 : decode (D_X11_rooms).2.1 19 = .ok (.aload_n 0, 1) := by decide +kernel
theorem d_X11_rooms_20 : decode (D_X11_rooms).2.1 20 = .ok (.iconst 1, 1) := by decide +kernel
theorem d_X11_rooms_21 : decode (D_X11_rooms).2.1 21 = .ok (.invokevirtual 143, 3) := by decide +kernel
theorem d_X11_rooms_24 : decode (D_X11_rooms).2.1 24 = .ok (.ireturn, 1) := by decide +kernel
theorem d_X11_rooms_25 : decode (D_X11_rooms).2.1 25 = .ok (.aload_n 0, 1) := by decide +kernel
theorem d_X11_rooms_26 : decode (D_X11_rooms).2.1 26 = .ok (.getfield 99, 3) := by decide +kernel
theorem d_X11_rooms_29 : decode (D_X11_rooms).2.1 29 = .ok (.aload_n 0, 1) := by decide +kernel
theorem d_X11_rooms_30 : decode (D_X11_rooms).2.1 30 = .ok (.getfield 53, 3) := by decide +kernel
theorem d_X11_rooms_33 : decode (D_X11_rooms).2.1 33 = .ok (.invokevirtual 386, 3) := by decide +kernel
theorem d_X11_rooms_36 : decode (D_X11_rooms).2.1 36 = .ok (.aload_n 0, 1) := by decide +kernel
theorem d_X11_rooms_37 : decode (D_X11_rooms).2.1 37 = .ok (.getfield 99, 3) := by decide +kernel
theorem d_X11_rooms_40 : decode (D_X11_rooms).2.1 40 = .ok (.iload_n 1, 1) := by decide +kernel
theorem d_X11_rooms_41 : decode (D_X11_rooms).2.1 41 = .ok (.iload_n 2, 1) := by decide +kernel
theorem d_X11_rooms_42 : decode (D_X11_rooms).2.1 42 = .ok (.invokevirtual 389, 3) := by decide +kernel
theorem d_X11_rooms_45 : decode (D_X11_rooms).2.1 45 = .ok (.istore_n 3, 1) := by decide +kernel
theorem d_X11_rooms_46 : decode (D_X11_rooms).2.1 46 = .ok (.iload_n 3, 1) := by decide +kernel
theorem d_X11_rooms_47 : decode (D_X11_rooms).2.1 47 = .ok (.bipush 8, 2) := by decide +kernel
theorem d_X11_rooms_49 : decode (D_X11_rooms).2.1 49 = .ok (.if_icmp .le 12, 3) := by decide +kernel
theorem d_X11_rooms_52 : decode (D_X11_rooms).2.1 52 = .ok (.aload_n 0, 1) := by decide +kernel
theorem d_X11_rooms_53 : decode (D_X11_rooms).2.1 53 = .ok (.bipush 6, 2) := by decide +kernel
theorem d_X11_rooms_55 : decode (D_X11_rooms).2.1 55 = .ok (.invokevirtual 143, 3) := by decide +kernel
theorem d_X11_rooms_58 : decode (D_X11_rooms).2.1 58 = .ok (.goto 8, 3) := by decide +kernel
theorem d_X11_rooms_61 : decode (D_X11_rooms).2.1 61 = .ok (.aload_n 0, 1) := by decide +kernel
theorem d_X11_rooms_62 : decode (D_X11_rooms).2.1 62 = .ok (.iload_n 3, 1) := by decide +kernel
theorem d_X11_rooms_63 : decode (D_X11_rooms).2.1 63 = .ok (.invokevirtual 193, 3) := by decide +kernel
theorem d_X11_rooms_66 : decode (D_X11_rooms).2.1 66 = .ok (.ireturn, 1) := by decide +kernel
def f_X11_rooms_L19 (n : Nat) (M : JMem) : Option (Int × JMem) := bnd (f_X11_refuse n 1 M) fun r1 M2 => some (r1, M2)
set_option maxRecDepth 4000 in
theorem t_X11_rooms_L19 {g : JG} {ad : Nat → Nat} (hs : jStr g ad) (n : Nat) (M : JMem) : jB g D_X11_rooms ad 19 [some (.ref 0), none, none, none] [] M (f_X11_rooms_L19 n M) := by
  unfold f_X11_rooms_L19
  refine jo_aload 0 d_X11_rooms_19 rfl rfl ?_
  refine jo_iconst 1 d_X11_rooms_20 ?_
  refine jo_callV (st := []) (m_X11_refuse hs n 1 M) ok_X11_refuse (And.intro (Nat.le_of_ble_eq_true rfl) (Nat.le_of_ble_eq_true rfl)) lm_X11_143 in_X11_refuse se_X11_refuse rfl kc_0 rfl rfl (And.intro (Nat.zero_le _) (Nat.zero_le _)) rfl (Nat.le_of_ble_eq_true rfl) d_X11_rooms_21 (fun r1 M2 => ?_)
  exact jo_iret rfl d_X11_rooms_24
def f_X11_rooms (n : Nat) (x1 : Int) (x2 : Int) (M : JMem) : Option (Int × JMem) := bnd (f_X11_isSet n x1 M) fun r1 M2 => if jw r1 = 0 then (f_X11_rooms_L19 n M2) else (if jw x2 < jw 1 then (f_X11_rooms_L19 n M2) else (if jw x2 ≤ jw 72 then (bnd (f_X5_weigh n 40 M2) fun _ M4 => bnd (f_X5_fewest n x1 x2 M4) fun r5 M6 => letv r5 fun y7 => if jw y7 ≤ jw 8 then (bnd (f_X11_answer n y7 M6) fun r8 M9 => some (r8, M9)) else (bnd (f_X11_refuse n 6 M6) fun r10 M11 => some (r10, M11))) else (f_X11_rooms_L19 n M2)))
set_option maxRecDepth 4000 in
theorem t_X11_rooms {g : JG} {ad : Nat → Nat} (hs : jStr g ad) (n : Nat) (x1 : Int) (x2 : Int) (M : JMem) : jB g D_X11_rooms ad 0 [some (.ref 0), some (ji x1), some (ji x2), none] [] M (f_X11_rooms n x1 x2 M) := by
  unfold f_X11_rooms
  refine jo_aload 0 d_X11_rooms_0 rfl rfl ?_
  refine jo_iload 1 d_X11_rooms_1 rfl rfl ?_
  refine jo_callV (st := []) (m_X11_isSet hs n x1 M) ok_X11_isSet (And.intro (Nat.le_of_ble_eq_true rfl) (Nat.le_of_ble_eq_true rfl)) lm_X11_379 in_X11_isSet se_X11_isSet rfl kc_0 rfl rfl (And.intro (Nat.zero_le _) (Nat.zero_le _)) rfl (Nat.le_of_ble_eq_true rfl) d_X11_rooms_2 (fun r1 M2 => ?_)
  refine jo_if_eq 19 d_X11_rooms_5 (by decide) ?_ ?_
  · skip
    exact jO.sub (t_X11_rooms_L19 hs n M2) (And.intro rfl True.intro)
  · skip
    refine jo_iload 2 d_X11_rooms_8 rfl rfl ?_
    refine jo_iconst 1 d_X11_rooms_9 ?_
    refine jo_icmp_lt 19 d_X11_rooms_10 (by decide) ?_ ?_
    · skip
      exact jO.sub (t_X11_rooms_L19 hs n M2) (And.intro rfl True.intro)
    · skip
      refine jo_iload 2 d_X11_rooms_13 rfl rfl ?_
      refine jo_bipush 72 d_X11_rooms_14 (by decide) ?_
      refine jo_icmp_le 25 d_X11_rooms_16 (by decide) ?_ ?_
      · skip
        refine jo_aload 0 d_X11_rooms_25 rfl rfl ?_
        refine jo_getR (k := 16) cl_11 (Nat.le_of_ble_eq_true rfl) lk_X11_99 rfl kc_0 kr_0_16 d_X11_rooms_26 ?_
        refine jo_aload 0 d_X11_rooms_29 rfl rfl ?_
        refine jo_getR (k := 7) cl_11 (Nat.le_of_ble_eq_true rfl) lk_X11_53 rfl kc_0 kr_0_7 d_X11_rooms_30 ?_
        refine jo_callV (st := []) (m_X5_weigh hs n 40 kc_40 M2) ok_X5_weigh (And.intro (Nat.le_of_ble_eq_true rfl) (Nat.le_of_ble_eq_true rfl)) lm_X11_386 in_X5_weigh se_X5_weigh rfl kc_79 rfl rfl (And.intro (Nat.zero_le _) (Nat.zero_le _)) rfl (Nat.le_of_ble_eq_true rfl) d_X11_rooms_33 (fun _ M4 => ?_)
        refine jo_aload 0 d_X11_rooms_36 rfl rfl ?_
        refine jo_getR (k := 16) cl_11 (Nat.le_of_ble_eq_true rfl) lk_X11_99 rfl kc_0 kr_0_16 d_X11_rooms_37 ?_
        refine jo_iload 1 d_X11_rooms_40 rfl rfl ?_
        refine jo_iload 2 d_X11_rooms_41 rfl rfl ?_
        refine jo_callV (st := []) (m_X5_fewest hs n x1 x2 M4) ok_X5_fewest (And.intro (Nat.le_of_ble_eq_true rfl) (Nat.le_of_ble_eq_true rfl)) lm_X11_389 in_X5_fewest se_X5_fewest rfl kc_79 rfl rfl (And.intro (Nat.zero_le _) (Nat.zero_le _)) rfl (Nat.le_of_ble_eq_true rfl) d_X11_rooms_42 (fun r5 M6 => ?_)
        refine jo_istore 3 d_X11_rooms_45 rfl (Nat.le_of_ble_eq_true rfl) (fun y7 => ?_)
        refine jo_iload 3 d_X11_rooms_46 rfl rfl ?_
        refine jo_bipush 8 d_X11_rooms_47 (by decide) ?_
        refine jo_icmp_le 61 d_X11_rooms_49 (by decide) ?_ ?_
        · skip
          refine jo_aload 0 d_X11_rooms_61 rfl rfl ?_
          refine jo_iload 3 d_X11_rooms_62 rfl rfl ?_
          refine jo_callV (st := []) (m_X11_answer hs n y7 M6) ok_X11_answer (And.intro (Nat.le_of_ble_eq_true rfl) (Nat.le_of_ble_eq_true rfl)) lm_X11_193 in_X11_answer se_X11_answer rfl kc_0 rfl rfl (And.intro (Nat.zero_le _) (Nat.zero_le _)) rfl (Nat.le_of_ble_eq_true rfl) d_X11_rooms_63 (fun r8 M9 => ?_)
          exact jo_iret rfl d_X11_rooms_66
        · skip
          refine jo_aload 0 d_X11_rooms_52 rfl rfl ?_
          refine jo_bipush 6 d_X11_rooms_53 (by decide) ?_
          refine jo_callV (st := []) (m_X11_refuse hs n 6 M6) ok_X11_refuse (And.intro (Nat.le_of_ble_eq_true rfl) (Nat.le_of_ble_eq_true rfl)) lm_X11_143 in_X11_refuse se_X11_refuse rfl kc_0 rfl rfl (And.intro (Nat.zero_le _) (Nat.zero_le _)) rfl (Nat.le_of_ble_eq_true rfl) d_X11_rooms_55 (fun r10 M11 => ?_)
          refine jo_goto 66 d_X11_rooms_58 (by decide) ?_
          exact jo_iret rfl d_X11_rooms_66
      · skip
        exact jO.sub (t_X11_rooms_L19 hs n M2) (And.intro rfl True.intro)
theorem m_X11_rooms {g : JG} {ad : Nat → Nat} (hs : jStr g ad) (n : Nat) (x1 : Int) (x2 : Int) (M : JMem) : jMet g jNN ad jR D_X11_rooms yX11_rooms [.ref 0, ji x1, ji x2] M (f_X11_rooms n x1 x2 M) :=
  jMet.of (lo0 := [some (.ref 0), some (ji x1), some (ji x2), none]) (by decide) rfl rfl (Nat.le_of_ble_eq_true rfl) (And.intro rfl (And.intro rfl (And.intro rfl True.intro))) (t_X11_rooms hs n x1 x2 M)
/-! CageLeave.rule(I)Z -/
def D_X11_rule : JD := (RX11, cX11_rule, 2, some .boolean, "rule", { frames := 1, cells := 0, slots := 0, locals := 21 })
theorem ok_X11_rule : jOk D_X11_rule yX11_rule 1 := ⟨jTW_mem (k := 1092) (by decide +kernel) rfl, jTW_mem (k := 135) (by decide +kernel) rfl, ⟨by decide +kernel, by decide +kernel⟩, by decide +kernel, rfl, rfl⟩
theorem in_X11_rule : Cond.instanceMethod yX11_rule ∈ jTW := jTW_mem (k := 1090) (by decide +kernel) rfl
theorem se_X11_rule : Cond.selects yX11_rule.cls yX11_rule yX11_rule ∈ jTW := jTW_mem (k := 1091) (by decide +kernel) rfl
theorem lk_X11_218 : Cond.fieldLink RX11 218 (TX4 3).1 (TX4 3).2.1 (TX4 3).2.2.1 ∈ jTW := jTW_mem (k := 321) (by decide +kernel) rfl
theorem d_X11_rule_0 : decode (D_X11_rule).2.1 0 = .ok (.iload_n 1, 1) := by decide +kernel
theorem d_X11_rule_1 : decode (D_X11_rule).2.1 1 = .ok (.ifCond .lt 9, 3) := by decide +kernel
theorem d_X11_rule_4 : decode (D_X11_rule).2.1 4 = .ok (.iload_n 1, 1) := by decide +kernel
theorem d_X11_rule_5 : decode (D_X11_rule).2.1 5 = .ok (.bipush 16, 2) := by decide +kernel
theorem d_X11_rule_7 : decode (D_X11_rule).2.1 7 = .ok (.if_icmp .le 9, 3) := by decide +kernel
theorem d_X11_rule_10 : decode (D_X11_rule).2.1 10 = .ok (.aload_n 0, 1) := by decide +kernel
theorem d_X11_rule_11 : decode (D_X11_rule).2.1 11 = .ok (.iconst 1, 1) := by decide +kernel
theorem d_X11_rule_12 : decode (D_X11_rule).2.1 12 = .ok (.invokevirtual 124, 3) := by decide +kernel
theorem d_X11_rule_15 : decode (D_X11_rule).2.1 15 = .ok (.ireturn, 1) := by decide +kernel
theorem d_X11_rule_16 : decode (D_X11_rule).2.1 16 = .ok (.aload_n 0, 1) := by decide +kernel
theorem d_X11_rule_17 : decode (D_X11_rule).2.1 17 = .ok (.getfield 53, 3) := by decide +kernel
theorem d_X11_rule_20 : decode (D_X11_rule).2.1 20 = .ok (.iload_n 1, 1) := by decide +kernel
theorem d_X11_rule_21 : decode (D_X11_rule).2.1 21 = .ok (.putfield 218, 3) := by decide +kernel
theorem d_X11_rule_24 : decode (D_X11_rule).2.1 24 = .ok (.aload_n 0, 1) := by decide +kernel
theorem d_X11_rule_25 : decode (D_X11_rule).2.1 25 = .ok (.invokevirtual 131, 3) := by decide +kernel
theorem d_X11_rule_28 : decode (D_X11_rule).2.1 28 = .ok (.ireturn, 1) := by decide +kernel
def f_X11_rule_L10 (n : Nat) (M : JMem) : Option (Int × JMem) := bnd (f_X11_deny n 1 M) fun r1 M2 => chk (jw r1 = 0 ∨ jw r1 = 1) (some (r1, M2))
set_option maxRecDepth 4000 in
theorem t_X11_rule_L10 {g : JG} {ad : Nat → Nat} (hs : jStr g ad) (n : Nat) (M : JMem) : jB g D_X11_rule ad 10 [some (.ref 0), none] [] M (f_X11_rule_L10 n M) := by
  unfold f_X11_rule_L10
  refine jo_aload 0 d_X11_rule_10 rfl rfl ?_
  refine jo_iconst 1 d_X11_rule_11 ?_
  refine jo_callV (st := []) (m_X11_deny hs n 1 M) ok_X11_deny (And.intro (Nat.le_of_ble_eq_true rfl) (Nat.le_of_ble_eq_true rfl)) lm_X11_124 in_X11_deny se_X11_deny rfl kc_0 rfl rfl (And.intro (Nat.zero_le _) (Nat.zero_le _)) rfl (Nat.le_of_ble_eq_true rfl) d_X11_rule_12 (fun r1 M2 => ?_)
  exact jo_zretq rfl d_X11_rule_15
def f_X11_rule (n : Nat) (x1 : Int) (M : JMem) : Option (Int × JMem) := if jw x1 < 0 then (f_X11_rule_L10 n M) else (if jw x1 ≤ jw 16 then (letm (jup M 40 3 x1) fun M1 => bnd (f_X11_allow n M1) fun r2 M3 => chk (jw r2 = 0 ∨ jw r2 = 1) (some (r2, M3))) else (f_X11_rule_L10 n M))
set_option maxRecDepth 4000 in
theorem t_X11_rule {g : JG} {ad : Nat → Nat} (hs : jStr g ad) (n : Nat) (x1 : Int) (M : JMem) : jB g D_X11_rule ad 0 [some (.ref 0), some (ji x1)] [] M (f_X11_rule n x1 M) := by
  unfold f_X11_rule
  refine jo_iload 1 d_X11_rule_0 rfl rfl ?_
  refine jo_if_lt 10 d_X11_rule_1 (by decide) ?_ ?_
  · skip
    exact jO.sub (t_X11_rule_L10 hs n M) (And.intro rfl True.intro)
  · skip
    refine jo_iload 1 d_X11_rule_4 rfl rfl ?_
    refine jo_bipush 16 d_X11_rule_5 (by decide) ?_
    refine jo_icmp_le 16 d_X11_rule_7 (by decide) ?_ ?_
    · skip
      refine jo_aload 0 d_X11_rule_16 rfl rfl ?_
      refine jo_getR (k := 7) cl_11 (Nat.le_of_ble_eq_true rfl) lk_X11_53 rfl kc_0 kr_0_7 d_X11_rule_17 ?_
      refine jo_iload 1 d_X11_rule_20 rfl rfl ?_
      refine jo_putI (k := 3) cl_4 (Nat.le_of_ble_eq_true rfl) lk_X11_218 rfl rfl kc_40 d_X11_rule_21 (fun M1 => ?_)
      refine jo_aload 0 d_X11_rule_24 rfl rfl ?_
      refine jo_callV (st := []) (m_X11_allow hs n M1) ok_X11_allow (And.intro (Nat.le_of_ble_eq_true rfl) (Nat.le_of_ble_eq_true rfl)) lm_X11_131 in_X11_allow se_X11_allow rfl kc_0 rfl rfl (And.intro (Nat.zero_le _) (Nat.zero_le _)) rfl (Nat.le_of_ble_eq_true rfl) d_X11_rule_25 (fun r2 M3 => ?_)
      exact jo_zretq rfl d_X11_rule_28
    · skip
      exact jO.sub (t_X11_rule_L10 hs n M) (And.intro rfl True.intro)
theorem m_X11_rule {g : JG} {ad : Nat → Nat} (hs : jStr g ad) (n : Nat) (x1 : Int) (M : JMem) : jMet g jNN ad jR D_X11_rule yX11_rule [.ref 0, ji x1] M (f_X11_rule n x1 M) :=
  jMet.of (lo0 := [some (.ref 0), some (ji x1)]) (by decide) rfl rfl (Nat.le_of_ble_eq_true rfl) (And.intro rfl (And.intro rfl True.intro)) (t_X11_rule hs n x1 M)
/-! CageLeave.whyNotHeard(III)I -/
def D_X11_whyNotHeard : JD := (RX11, cX11_whyNotHeard, 5, some .int, "whyNotHeard", { frames := 2, cells := 0, slots := 0, locals := 54 })
theorem ok_X11_whyNotHeard : jOk D_X11_whyNotHeard yX11_whyNotHeard 3 := ⟨jTW_mem (k := 1273) (by decide +kernel) rfl, jTW_mem (k := 135) (by decide +kernel) rfl, ⟨by decide +kernel, by decide +kernel⟩, by decide +kernel, rfl, rfl⟩
theorem in_X11_whyNotHeard : Cond.instanceMethod yX11_whyNotHeard ∈ jTW := jTW_mem (k := 1272) (by decide +kernel) rfl
theorem se_X11_whyNotHeard : Cond.selects yX11_whyNotHeard.cls yX11_whyNotHeard yX11_whyNotHeard ∈ jTW := jTW_mem (k := 39) (by decide +kernel) rfl
theorem lm_X11_431 : Cond.methodLink RX11 431 yX3_hears ∈ jTW := jTW_mem (k := 1275) (by decide +kernel) rfl
theorem d_X11_whyNotHeard_0 : decode (D_X11_whyNotHeard).2.1 0 = .ok (.iload_n 1, 1) := by decide +kernel
theorem d_X11_whyNotHeard_1 : decode (D_X11_whyNotHeard).2.1 1 = .ok (.invokestatic 120, 3) := by decide +kernel
theorem d_X11_whyNotHeard_4 : decode (D_X11_whyNotHeard).2.1 4 = .ok (.ifCond .eq 23, 3) := by decide +kernel
theorem d_X11_whyNotHeard_7 : decode (D_X11_whyNotHeard).2.1 7 = .ok (.iload_n 2, 1) := by decide +kernel
theorem d_X11_whyNotHeard_8 : decode (D_X11_whyNotHeard).2.1 8 = .ok (.ifCond .lt 19, 3) := by decide +kernel
theorem d_X11_whyNotHeard_11 : decode (D_X11_whyNotHeard).2.1 11 = .ok (.iload_n 2, 1) := by decide +kernel
theorem d_X11_whyNotHeard_12 : decode (D_X11_whyNotHeard).2.1 12 = .ok (.bipush 20, 2) := by decide +kernel
theorem d_X11_whyNotHeard_14 : decode (D_X11_whyNotHeard).2.1 14 = .ok (.if_icmp .gt 13, 3) := by decide +kernel
theorem d_X11_whyNotHeard_17 : decode (D_X11_whyNotHeard).2.1 17 = .ok (.iload_n 3, 1) := by decide +kernel
theorem d_X11_whyNotHeard_18 : decode (D_X11_whyNotHeard).2.1 18 = .ok (.ifCond .lt 9, 3) := by decide +kernel
theorem d_X11_whyNotHeard_21 : decode (D_X11_whyNotHeard).2.1 21 = .ok (.iload_n 3, 1) := by decide +kernel
theorem d_X11_whyNotHeard_22 : decode (D_X11_whyNotHeard).2.1 22 = .ok (.bipush 20, 2) := by decide +kernel
theorem d_X11_whyNotHeard_24 : decode (D_X11_whyNotHeard).2.1 24 = .ok (.if_icmp .le 5, 3) := by decide +kernel
theorem d_X11_whyNotHeard_27 : decode (D_X11_whyNotHeard).2.1 27 = .ok (.iconst 1, 1) := by decide +kernel
theorem d_X11_whyNotHeard_28 : decode (D_X11_whyNotHeard).2.1 28 = .ok (.ireturn, 1) := by decide +kernel
theorem d_X11_whyNotHeard_29 : decode (D_X11_whyNotHeard).2.1 29 = .ok (.aload_n 0, 1) := by decide +kernel
theorem d_X11_whyNotHeard_30 : decode (D_X11_whyNotHeard).2.1 30 = .ok (.getfield 23, 3) := by decide +kernel
theorem d_X11_whyNotHeard_33 : decode (D_X11_whyNotHeard).2.1 33 = .ok (.iload_n 1, 1) := by decide +kernel
theorem d_X11_whyNotHeard_34 : decode (D_X11_whyNotHeard).2.1 34 = .ok (.iconst 3, 1) := by decide +kernel
theorem d_X11_whyNotHeard_35 : decode (D_X11_whyNotHeard).2.1 35 = .ok (.iload_n 2, 1) := by decide +kernel
theorem d_X11_whyNotHeard_36 : decode (D_X11_whyNotHeard).2.1 36 = .ok (.imul, 1) := by decide +kernel
theorem d_X11_whyNotHeard_37 : decode (D_X11_whyNotHeard).2.1 37 = .ok (.invokevirtual 408, 3) := by decide +kernel
theorem d_X11_whyNotHeard_40 : decode (D_X11_whyNotHeard).2.1 40 = .ok (.istore 4, 2) := by decide +kernel
theorem d_X11_whyNotHeard_42 : decode (D_X11_whyNotHeard).2.1 42 = .ok (.iload 4, 2) := by decide +kernel
theorem d_X11_whyNotHeard_44 : decode (D_X11_whyNotHeard).2.1 44 = .ok (.ifCond .eq 6, 3) := by decide +kernel
theorem d_X11_whyNotHeard_47 : decode (D_X11_whyNotHeard).2.1 47 = .ok (.iload 4, 2) := by decide +kernel
theorem d_X11_whyNotHeard_49 : decode (D_X11_whyNotHeard).2.1 49 = .ok (.ireturn, 1) := by decide +kernel
theorem d_X11_whyNotHeard_50 : decode (D_X11_whyNotHeard).2.1 50 = .ok (.aload_n 0, 1) := by decide +kernel
theorem d_X11_whyNotHeard_51 : decode (D_X11_whyNotHeard).2.1 51 = .ok (.getfield 106, 3) := by decide +kernel
theorem d_X11_whyNotHeard_54 : decode (D_X11_whyNotHeard).2.1 54 = .ok (.aload_n 0, 1) := by decide +kernel
theorem d_X11_whyNotHeard_55 : decode (D_X11_whyNotHeard).2.1 55 = .ok (.getfield 53, 3) := by decide +kernel
theorem d_X11_whyNotHeard_58 : decode (D_X11_whyNotHeard).2.1 58 = .ok (.aload_n 0, 1) := by decide +kernel
theorem d_X11_whyNotHeard_59 : decode (D_X11_whyNotHeard).2.1 59 = .ok (.getfield 23, 3) := by decide +kernel
theorem d_X11_whyNotHeard_62 : decode (D_X11_whyNotHeard).2.1 62 = .ok (.getfield 147, 3) := by decide +kernel
theorem d_X11_whyNotHeard_65 : decode (D_X11_whyNotHeard).2.1 65 = .ok (.iload_n 1, 1) := by decide +kernel
theorem d_X11_whyNotHeard_66 : decode (D_X11_whyNotHeard).2.1 66 = .ok (.aaload, 1) := by decide +kernel
theorem d_X11_whyNotHeard_67 : decode (D_X11_whyNotHeard).2.1 67 = .ok (.iload_n 2, 1) := by decide +kernel
theorem d_X11_whyNotHeard_68 : decode (D_X11_whyNotHeard).2.1 68 = .ok (.invokevirtual 431, 3) := by decide +kernel
theorem d_X11_whyNotHeard_71 : decode (D_X11_whyNotHeard).2.1 71 = .ok (.ifCond .eq 7, 3) := by decide +kernel
theorem d_X11_whyNotHeard_74 : decode (D_X11_whyNotHeard).2.1 74 = .ok (.iconst 0, 1) := by decide +kernel
theorem d_X11_whyNotHeard_75 : decode (D_X11_whyNotHeard).2.1 75 = .ok (.goto 4, 3) := by decide +kernel
theorem d_X11_whyNotHeard_78 : decode (D_X11_whyNotHeard).2.1 78 = .ok (.iconst 5, 1) := by decide +kernel
theorem d_X11_whyNotHeard_79 : decode (D_X11_whyNotHeard).2.1 79 = .ok (.ireturn, 1) := by decide +kernel
def f_X11_whyNotHeard (n : Nat) (x1 : Int) (x2 : Int) (x3 : Int) (M : JMem) : Option (Int × JMem) := bnd (f_X7_isTray n x1 M) fun r1 M2 => if jw r1 = 0 then (some (1, M2)) else (if jw x2 < 0 then (some (1, M2)) else (if jw 20 < jw x2 then (some (1, M2)) else (if jw x3 < 0 then (some (1, M2)) else (if jw x3 ≤ jw 20 then (bnd (f_X7_whyNotLong n x1 (3 * x2) M2) fun r3 M4 => letv r3 fun y5 => if jw y5 = 0 then (chk (jin x1 4) <| bnd (f_X3_hears n 40 (jRn 2 (jw x1).toNat) x2 M4) fun r7 M8 => if jw r7 = 0 then (some (5, M8)) else (some (0, M8))) else (some (y5, M4))) else (some (1, M2))))))
set_option maxRecDepth 4000 in
theorem t_X11_whyNotHeard {g : JG} {ad : Nat → Nat} (hs : jStr g ad) (n : Nat) (x1 : Int) (x2 : Int) (x3 : Int) (M : JMem) : jB g D_X11_whyNotHeard ad 0 [some (.ref 0), some (ji x1), some (ji x2), some (ji x3), none] [] M (f_X11_whyNotHeard n x1 x2 x3 M) := by
  unfold f_X11_whyNotHeard
  refine jo_iload 1 d_X11_whyNotHeard_0 rfl rfl ?_
  refine jo_callS (st := []) (m_X7_isTray hs n x1 M) ok_X7_isTray (And.intro (Nat.le_of_ble_eq_true rfl) (Nat.le_of_ble_eq_true rfl)) lm_X11_120 st_X7_isTray rfl (And.intro (Nat.zero_le _) (Nat.zero_le _)) rfl (Nat.le_of_ble_eq_true rfl) d_X11_whyNotHeard_1 (fun r1 M2 => ?_)
  refine jo_if_eq 27 d_X11_whyNotHeard_4 (by decide) ?_ ?_
  · skip
    refine jo_iconst 1 d_X11_whyNotHeard_27 ?_
    exact jo_iret rfl d_X11_whyNotHeard_28
  · skip
    refine jo_iload 2 d_X11_whyNotHeard_7 rfl rfl ?_
    refine jo_if_lt 27 d_X11_whyNotHeard_8 (by decide) ?_ ?_
    · skip
      refine jo_iconst 1 d_X11_whyNotHeard_27 ?_
      exact jo_iret rfl d_X11_whyNotHeard_28
    · skip
      refine jo_iload 2 d_X11_whyNotHeard_11 rfl rfl ?_
      refine jo_bipush 20 d_X11_whyNotHeard_12 (by decide) ?_
      refine jo_icmp_gt 27 d_X11_whyNotHeard_14 (by decide) ?_ ?_
      · skip
        refine jo_iconst 1 d_X11_whyNotHeard_27 ?_
        exact jo_iret rfl d_X11_whyNotHeard_28
      · skip
        refine jo_iload 3 d_X11_whyNotHeard_17 rfl rfl ?_
        refine jo_if_lt 27 d_X11_whyNotHeard_18 (by decide) ?_ ?_
        · skip
          refine jo_iconst 1 d_X11_whyNotHeard_27 ?_
          exact jo_iret rfl d_X11_whyNotHeard_28
        · skip
          refine jo_iload 3 d_X11_whyNotHeard_21 rfl rfl ?_
          refine jo_bipush 20 d_X11_whyNotHeard_22 (by decide) ?_
          refine jo_icmp_le 29 d_X11_whyNotHeard_24 (by decide) ?_ ?_
          · skip
            refine jo_aload 0 d_X11_whyNotHeard_29 rfl rfl ?_
            refine jo_getR (k := 3) cl_11 (Nat.le_of_ble_eq_true rfl) lk_X11_23 rfl kc_0 kr_0_3 d_X11_whyNotHeard_30 ?_
            refine jo_iload 1 d_X11_whyNotHeard_33 rfl rfl ?_
            refine jo_iconst 3 d_X11_whyNotHeard_34 ?_
            refine jo_iload 2 d_X11_whyNotHeard_35 rfl rfl ?_
            refine jo_imul d_X11_whyNotHeard_36 ?_
            refine jo_callV (st := []) (m_X7_whyNotLong hs n x1 (3 * x2) M2) ok_X7_whyNotLong (And.intro (Nat.le_of_ble_eq_true rfl) (Nat.le_of_ble_eq_true rfl)) lm_X11_408 in_X7_whyNotLong se_X7_whyNotLong rfl kc_1 rfl rfl (And.intro (Nat.zero_le _) (Nat.zero_le _)) rfl (Nat.le_of_ble_eq_true rfl) d_X11_whyNotHeard_37 (fun r3 M4 => ?_)
            refine jo_istoreW 4 d_X11_whyNotHeard_40 (Nat.le_of_ble_eq_true rfl) (fun y5 => ?_)
            refine jo_iloadW 4 d_X11_whyNotHeard_42 rfl ?_
            refine jo_if_eq 50 d_X11_whyNotHeard_44 (by decide) ?_ ?_
            · skip
              refine jo_aload 0 d_X11_whyNotHeard_50 rfl rfl ?_
              refine jo_getR (k := 17) cl_11 (Nat.le_of_ble_eq_true rfl) lk_X11_106 rfl kc_0 kr_0_17 d_X11_whyNotHeard_51 ?_
              refine jo_aload 0 d_X11_whyNotHeard_54 rfl rfl ?_
              refine jo_getR (k := 7) cl_11 (Nat.le_of_ble_eq_true rfl) lk_X11_53 rfl kc_0 kr_0_7 d_X11_whyNotHeard_55 ?_
              refine jo_aload 0 d_X11_whyNotHeard_58 rfl rfl ?_
              refine jo_getR (k := 3) cl_11 (Nat.le_of_ble_eq_true rfl) lk_X11_23 rfl kc_0 kr_0_3 d_X11_whyNotHeard_59 ?_
              refine jo_getR (k := 0) cl_7 (Nat.le_of_ble_eq_true rfl) lk_X11_147 rfl kc_1 kr_1_0 d_X11_whyNotHeard_62 ?_
              refine jo_iload 1 d_X11_whyNotHeard_65 rfl rfl ?_
              refine jo_aald_2 d_X11_whyNotHeard_66 (fun h6 => ?_)
              refine jo_iload 2 d_X11_whyNotHeard_67 rfl rfl ?_
              refine jo_callV (st := []) (m_X3_hears hs n 40 (jRn 2 (jw x1).toNat) x2 kc_40 h6 M4) ok_X3_hears (And.intro (Nat.le_of_ble_eq_true rfl) (Nat.le_of_ble_eq_true rfl)) lm_X11_431 in_X3_hears se_X3_hears rfl kc_82 rfl rfl (And.intro (Nat.zero_le _) (Nat.zero_le _)) rfl (Nat.le_of_ble_eq_true rfl) d_X11_whyNotHeard_68 (fun r7 M8 => ?_)
              refine jo_if_eq 78 d_X11_whyNotHeard_71 (by decide) ?_ ?_
              · skip
                refine jo_iconst 5 d_X11_whyNotHeard_78 ?_
                exact jo_iret rfl d_X11_whyNotHeard_79
              · skip
                refine jo_iconst 0 d_X11_whyNotHeard_74 ?_
                refine jo_goto 79 d_X11_whyNotHeard_75 (by decide) ?_
                exact jo_iret rfl d_X11_whyNotHeard_79
            · skip
              refine jo_iloadW 4 d_X11_whyNotHeard_47 rfl ?_
              exact jo_iret rfl d_X11_whyNotHeard_49
          · skip
            refine jo_iconst 1 d_X11_whyNotHeard_27 ?_
            exact jo_iret rfl d_X11_whyNotHeard_28
theorem m_X11_whyNotHeard {g : JG} {ad : Nat → Nat} (hs : jStr g ad) (n : Nat) (x1 : Int) (x2 : Int) (x3 : Int) (M : JMem) : jMet g jNN ad jR D_X11_whyNotHeard yX11_whyNotHeard [.ref 0, ji x1, ji x2, ji x3] M (f_X11_whyNotHeard n x1 x2 x3 M) :=
  jMet.of (lo0 := [some (.ref 0), some (ji x1), some (ji x2), some (ji x3), none]) (by decide) rfl rfl (Nat.le_of_ble_eq_true rfl) (And.intro rfl (And.intro rfl (And.intro rfl (And.intro rfl True.intro)))) (t_X11_whyNotHeard hs n x1 x2 x3 M)
/-! CageLeave.sets(III)I -/
def D_X11_sets : JD := (RX11, cX11_sets, 7, some .int, "sets", { frames := 6, cells := 0, slots := 0, locals := 152 })
theorem ok_X11_sets : jOk D_X11_sets yX11_sets 3 := ⟨jTW_mem (k := 1269) (by decide +kernel) rfl, jTW_mem (k := 135) (by decide +kernel) rfl, ⟨by decide +kernel, by decide +kernel⟩, by decide +kernel, rfl, rfl⟩
theorem in_X11_sets : Cond.instanceMethod yX11_sets ∈ jTW := jTW_mem (k := 1267) (by decide +kernel) rfl
theorem se_X11_sets : Cond.selects yX11_sets.cls yX11_sets yX11_sets ∈ jTW := jTW_mem (k := 1268) (by decide +kernel) rfl
theorem lm_X11_396 : Cond.methodLink RX11 396 yX11_fitsParrot ∈ jTW := jTW_mem (k := 1284) (by decide +kernel) rfl
theorem lm_X11_392 : Cond.methodLink RX11 392 yX11_whyNotHeard ∈ jTW := jTW_mem (k := 1270) (by decide +kernel) rfl
theorem d_X11_sets_0 : decode (D_X11_sets).2.1 0 = .ok (.aload_n 0, 1) := by decide +kernel
theorem d_X11_sets_1 : decode (D_X11_sets).2.1 1 = .ok (.iload_n 1, 1) := by decide +kernel
theorem d_X11_sets_2 : decode (D_X11_sets).2.1 2 = .ok (.iload_n 2, 1) := by decide +kernel
theorem d_X11_sets_3 : decode (D_X11_sets).2.1 3 = .ok (.iload_n 3, 1) := by decide +kernel
theorem d_X11_sets_4 : decode (D_X11_sets).2.1 4 = .ok (.invokevirtual 392, 3) := by decide +kernel
theorem d_X11_sets_7 : decode (D_X11_sets).2.1 7 = .ok (.istore 4, 2) := by decide +kernel
theorem d_X11_sets_9 : decode (D_X11_sets).2.1 9 = .ok (.iload 4, 2) := by decide +kernel
theorem d_X11_sets_11 : decode (D_X11_sets).2.1 11 = .ok (.ifCond .eq 10, 3) := by decide +kernel
theorem d_X11_sets_14 : decode (D_X11_sets).2.1 14 = .ok (.aload_n 0, 1) := by decide +kernel
theorem d_X11_sets_15 : decode (D_X11_sets).2.1 15 = .ok (.iload 4, 2) := by decide +kernel
theorem d_X11_sets_17 : decode (D_X11_sets).2.1 17 = .ok (.invokevirtual 143, 3) := by decide +kernel
theorem d_X11_sets_20 : decode (D_X11_sets).2.1 20 = .ok (.ireturn, 1) := by decide +kernel
theorem d_X11_sets_21 : decode (D_X11_sets).2.1 21 = .ok (.iconst 0, 1) := by decide +kernel
theorem d_X11_sets_22 : decode (D_X11_sets).2.1 22 = .ok (.istore 5, 2) := by decide +kernel
theorem d_X11_sets_24 : decode (D_X11_sets).2.1 24 = .ok (.iconst 0, 1) := by decide +kernel
theorem d_X11_sets_25 : decode (D_X11_sets).2.1 25 = .ok (.istore 6, 2) := by decide +kernel
theorem d_X11_sets_27 : decode (D_X11_sets).2.1 27 = .ok (.iload 6, 2) := by decide +kernel
theorem d_X11_sets_29 : decode (D_X11_sets).2.1 29 = .ok (.iconst 1, 1) := by decide +kernel
theorem d_X11_sets_30 : decode (D_X11_sets).2.1 30 = .ok (.aload_n 0, 1) := by decide +kernel
theorem d_X11_sets_31 : decode (D_X11_sets).2.1 31 = .ok (.getfield 53, 3) := by decide +kernel
theorem d_X11_sets_34 : decode (D_X11_sets).2.1 34 = .ok (.getfield 190, 3) := by decide +kernel
theorem d_X11_sets_37 : decode (D_X11_sets).2.1 37 = .ok (.ishl, 1) := by decide +kernel
theorem d_X11_sets_38 : decode (D_X11_sets).2.1 38 = .ok (.if_icmp .ge 22, 3) := by decide +kernel
theorem d_X11_sets_41 : decode (D_X11_sets).2.1 41 = .ok (.aload_n 0, 1) := by decide +kernel
theorem d_X11_sets_42 : decode (D_X11_sets).2.1 42 = .ok (.iload 6, 2) := by decide +kernel
theorem d_X11_sets_44 : decode (D_X11_sets).2.1 44 = .ok (.iload_n 3, 1) := by decide +kernel
theorem d_X11_sets_45 : decode (D_X11_sets).2.1 45 = .ok (.invokevirtual 396, 3) := by decide +kernel
theorem d_X11_sets_48 : decode (D_X11_sets).2.1 48 = .ok (.ifCond .eq 6, 3) := by decide +kernel
theorem d_X11_sets_51 : decode (D_X11_sets).2.1 51 = .ok (.iinc 5 1, 3) := by decide +kernel
theorem d_X11_sets_54 : decode (D_X11_sets).2.1 54 = .ok (.iinc 6 1, 3) := by decide +kernel
theorem d_X11_sets_57 : decode (D_X11_sets).2.1 57 = .ok (.goto (-30), 3) := by decide +kernel
theorem d_X11_sets_60 : decode (D_X11_sets).2.1 60 = .ok (.aload_n 0, 1) := by decide +kernel
theorem d_X11_sets_61 : decode (D_X11_sets).2.1 61 = .ok (.iload 5, 2) := by decide +kernel
theorem d_X11_sets_63 : decode (D_X11_sets).2.1 63 = .ok (.invokevirtual 193, 3) := by decide +kernel
theorem d_X11_sets_66 : decode (D_X11_sets).2.1 66 = .ok (.ireturn, 1) := by decide +kernel
def f_X11_sets_L54 (n : Nat) (r27 : Int → Int → Int → JMem → Option (Int × JMem)) (v3 v5 v6 : Int) (M : JMem) : Option (Int × JMem) := letv (v6 + 1) fun y1 => r27 v3 v5 y1 M
set_option maxRecDepth 4000 in
theorem t_X11_sets_L54 {g : JG} {ad : Nat → Nat} (hs : jStr g ad) (n : Nat) (r27 : Int → Int → Int → JMem → Option (Int × JMem)) (hr27 : ∀ (v3 v5 v6 : Int) (M : JMem), jB g D_X11_sets ad 27 [some (.ref 0), none, none, some (ji v3), none, some (ji v5), some (ji v6)] [] M (r27 v3 v5 v6 M)) (v3 v5 v6 : Int) (M : JMem) : jB g D_X11_sets ad 54 [some (.ref 0), none, none, some (ji v3), none, some (ji v5), some (ji v6)] [] M (f_X11_sets_L54 n r27 v3 v5 v6 M) := by
  unfold f_X11_sets_L54
  refine jo_iinc 6 d_X11_sets_54 rfl (Nat.le_of_ble_eq_true rfl) (fun y1 => ?_)
  refine jo_goto 27 d_X11_sets_57 (by decide) ?_
  exact jO.sub (hr27 v3 v5 y1 M) (And.intro rfl (And.intro rfl (And.intro rfl (And.intro rfl True.intro))))
def f_X11_sets_L60 (n : Nat) (v5 : Int) (M : JMem) : Option (Int × JMem) := bnd (f_X11_answer n v5 M) fun r1 M2 => some (r1, M2)
set_option maxRecDepth 4000 in
theorem t_X11_sets_L60 {g : JG} {ad : Nat → Nat} (hs : jStr g ad) (n : Nat) (v5 : Int) (M : JMem) : jB g D_X11_sets ad 60 [some (.ref 0), none, none, none, none, some (ji v5), none] [] M (f_X11_sets_L60 n v5 M) := by
  unfold f_X11_sets_L60
  refine jo_aload 0 d_X11_sets_60 rfl rfl ?_
  refine jo_iloadW 5 d_X11_sets_61 rfl ?_
  refine jo_callV (st := []) (m_X11_answer hs n v5 M) ok_X11_answer (And.intro (Nat.le_of_ble_eq_true rfl) (Nat.le_of_ble_eq_true rfl)) lm_X11_193 in_X11_answer se_X11_answer rfl kc_0 rfl rfl (And.intro (Nat.zero_le _) (Nat.zero_le _)) rfl (Nat.le_of_ble_eq_true rfl) d_X11_sets_63 (fun r1 M2 => ?_)
  exact jo_iret rfl d_X11_sets_66
def f_X11_sets_L27 (n : Nat) : Nat → Int → Int → Int → JMem → Option (Int × JMem)
  | 0, _, _, _, _ => none
  | k + 1, v3, v5, v6, M => if jw (jshl 1 (M 40 2)) ≤ jw v6 then (f_X11_sets_L60 n v5 M) else (bnd (f_X11_fitsParrot n v6 v3 M) fun r1 M2 => if jw r1 = 0 then (f_X11_sets_L54 n (f_X11_sets_L27 n k) v3 v5 v6 M2) else (letv (v5 + 1) fun y3 => f_X11_sets_L54 n (f_X11_sets_L27 n k) v3 y3 v6 M2))
set_option maxRecDepth 4000 in
theorem t_X11_sets_L27 {g : JG} {ad : Nat → Nat} (hs : jStr g ad) (n : Nat) : ∀ (k : Nat) (v3 v5 v6 : Int) (M : JMem), jB g D_X11_sets ad 27 [some (.ref 0), none, none, some (ji v3), none, some (ji v5), some (ji v6)] [] M (f_X11_sets_L27 n k v3 v5 v6 M) := by
  intro k
  induction k with
  | zero => intro v3 v5 v6 M; exact jO.none
  | succ k ih =>
    intro v3 v5 v6 M
    rw [f_X11_sets_L27]
    refine jo_iloadW 6 d_X11_sets_27 rfl ?_
    refine jo_iconst 1 d_X11_sets_29 ?_
    refine jo_aload 0 d_X11_sets_30 rfl rfl ?_
    refine jo_getR (k := 7) cl_11 (Nat.le_of_ble_eq_true rfl) lk_X11_53 rfl kc_0 kr_0_7 d_X11_sets_31 ?_
    refine jo_getI (k := 2) cl_4 (Nat.le_of_ble_eq_true rfl) lk_X11_190 (Or.inl rfl) kc_40 d_X11_sets_34 ?_
    refine jo_ishl d_X11_sets_37 ?_
    refine jo_icmp_ge 60 d_X11_sets_38 (by decide) ?_ ?_
    · skip
      exact jO.sub (t_X11_sets_L60 hs n v5 M) (And.intro rfl (And.intro rfl True.intro))
    · skip
      refine jo_aload 0 d_X11_sets_41 rfl rfl ?_
      refine jo_iloadW 6 d_X11_sets_42 rfl ?_
      refine jo_iload 3 d_X11_sets_44 rfl rfl ?_
      refine jo_callV (st := []) (m_X11_fitsParrot hs n v6 v3 M) ok_X11_fitsParrot (And.intro (Nat.le_of_ble_eq_true rfl) (Nat.le_of_ble_eq_true rfl)) lm_X11_396 in_X11_fitsParrot se_X11_fitsParrot rfl kc_0 rfl rfl (And.intro (Nat.zero_le _) (Nat.zero_le _)) rfl (Nat.le_of_ble_eq_true rfl) d_X11_sets_45 (fun r1 M2 => ?_)
      refine jo_if_eq 54 d_X11_sets_48 (by decide) ?_ ?_
      · skip
        exact jO.sub (t_X11_sets_L54 hs n (f_X11_sets_L27 n k) ih v3 v5 v6 M2) (And.intro rfl (And.intro rfl (And.intro rfl (And.intro rfl True.intro))))
      · skip
        refine jo_iinc 5 d_X11_sets_51 rfl (Nat.le_of_ble_eq_true rfl) (fun y3 => ?_)
        exact jO.sub (t_X11_sets_L54 hs n (f_X11_sets_L27 n k) ih v3 y3 v6 M2) (And.intro rfl (And.intro rfl (And.intro rfl (And.intro rfl True.intro))))
def f_X11_sets (n : Nat) (x1 : Int) (x2 : Int) (x3 : Int) (M : JMem) : Option (Int × JMem) := bnd (f_X11_whyNotHeard n x1 x2 x3 M) fun r1 M2 => letv r1 fun y3 => if jw y3 = 0 then (letv 0 fun y4 => letv 0 fun y5 => f_X11_sets_L27 n n x3 y4 y5 M2) else (bnd (f_X11_refuse n y3 M2) fun r6 M7 => some (r6, M7))
set_option maxRecDepth 4000 in
theorem t_X11_sets {g : JG} {ad : Nat → Nat} (hs : jStr g ad) (n : Nat) (x1 : Int) (x2 : Int) (x3 : Int) (M : JMem) : jB g D_X11_sets ad 0 [some (.ref 0), some (ji x1), some (ji x2), some (ji x3), none, none, none] [] M (f_X11_sets n x1 x2 x3 M) := by
  unfold f_X11_sets
  refine jo_aload 0 d_X11_sets_0 rfl rfl ?_
  refine jo_iload 1 d_X11_sets_1 rfl rfl ?_
  refine jo_iload 2 d_X11_sets_2 rfl rfl ?_
  refine jo_iload 3 d_X11_sets_3 rfl rfl ?_
  refine jo_callV (st := []) (m_X11_whyNotHeard hs n x1 x2 x3 M) ok_X11_whyNotHeard (And.intro (Nat.le_of_ble_eq_true rfl) (Nat.le_of_ble_eq_true rfl)) lm_X11_392 in_X11_whyNotHeard se_X11_whyNotHeard rfl kc_0 rfl rfl (And.intro (Nat.zero_le _) (Nat.zero_le _)) rfl (Nat.le_of_ble_eq_true rfl) d_X11_sets_4 (fun r1 M2 => ?_)
  refine jo_istoreW 4 d_X11_sets_7 (Nat.le_of_ble_eq_true rfl) (fun y3 => ?_)
  refine jo_iloadW 4 d_X11_sets_9 rfl ?_
  refine jo_if_eq 21 d_X11_sets_11 (by decide) ?_ ?_
  · skip
    refine jo_iconst 0 d_X11_sets_21 ?_
    refine jo_istoreW 5 d_X11_sets_22 (Nat.le_of_ble_eq_true rfl) (fun y4 => ?_)
    refine jo_iconst 0 d_X11_sets_24 ?_
    refine jo_istoreW 6 d_X11_sets_25 (Nat.le_of_ble_eq_true rfl) (fun y5 => ?_)
    exact jO.sub (t_X11_sets_L27 hs n n x3 y4 y5 M2) (And.intro rfl (And.intro rfl (And.intro rfl (And.intro rfl True.intro))))
  · skip
    refine jo_aload 0 d_X11_sets_14 rfl rfl ?_
    refine jo_iloadW 4 d_X11_sets_15 rfl ?_
    refine jo_callV (st := []) (m_X11_refuse hs n y3 M2) ok_X11_refuse (And.intro (Nat.le_of_ble_eq_true rfl) (Nat.le_of_ble_eq_true rfl)) lm_X11_143 in_X11_refuse se_X11_refuse rfl kc_0 rfl rfl (And.intro (Nat.zero_le _) (Nat.zero_le _)) rfl (Nat.le_of_ble_eq_true rfl) d_X11_sets_17 (fun r6 M7 => ?_)
    exact jo_iret rfl d_X11_sets_20
theorem m_X11_sets {g : JG} {ad : Nat → Nat} (hs : jStr g ad) (n : Nat) (x1 : Int) (x2 : Int) (x3 : Int) (M : JMem) : jMet g jNN ad jR D_X11_sets yX11_sets [.ref 0, ji x1, ji x2, ji x3] M (f_X11_sets n x1 x2 x3 M) :=
  jMet.of (lo0 := [some (.ref 0), some (ji x1), some (ji x2), some (ji x3), none, none, none]) (by decide) rfl rfl (Nat.le_of_ble_eq_true rfl) (And.intro rfl (And.intro rfl (And.intro rfl (And.intro rfl True.intro)))) (t_X11_sets hs n x1 x2 x3 M)
/-! CageLeave.shift(II)Z -/
def D_X11_shift : JD := (RX11, cX11_shift, 3, some .boolean, "shift", { frames := 1, cells := 0, slots := 0, locals := 21 })
theorem ok_X11_shift : jOk D_X11_shift yX11_shift 2 := ⟨jTW_mem (k := 1080) (by decide +kernel) rfl, jTW_mem (k := 135) (by decide +kernel) rfl, ⟨by decide +kernel, by decide +kernel⟩, by decide +kernel, rfl, rfl⟩
theorem in_X11_shift : Cond.instanceMethod yX11_shift ∈ jTW := jTW_mem (k := 1078) (by decide +kernel) rfl
theorem se_X11_shift : Cond.selects yX11_shift.cls yX11_shift yX11_shift ∈ jTW := jTW_mem (k := 1079) (by decide +kernel) rfl
theorem lk_X11_261 : Cond.fieldLink RX11 261 (TX1 8).1 (TX1 8).2.1 (TX1 8).2.2.1 ∈ jTW := jTW_mem (k := 423) (by decide +kernel) rfl
theorem lk_X11_252 : Cond.fieldLink RX11 252 (TX4 10).1 (TX4 10).2.1 (TX4 10).2.2.1 ∈ jTW := jTW_mem (k := 339) (by decide +kernel) rfl
theorem d_X11_shift_0 : decode (D_X11_shift).2.1 0 = .ok (.aload_n 0, 1) := by decide +kernel
theorem d_X11_shift_1 : decode (D_X11_shift).2.1 1 = .ok (.iload_n 1, 1) := by decide +kernel
theorem d_X11_shift_2 : decode (D_X11_shift).2.1 2 = .ok (.invokevirtual 243, 3) := by decide +kernel
theorem d_X11_shift_5 : decode (D_X11_shift).2.1 5 = .ok (.ifCond .eq 13, 3) := by decide +kernel
theorem d_X11_shift_8 : decode (D_X11_shift).2.1 8 = .ok (.iload_n 2, 1) := by decide +kernel
theorem d_X11_shift_9 : decode (D_X11_shift).2.1 9 = .ok (.ifCond .lt 9, 3) := by decide +kernel
theorem d_X11_shift_12 : decode (D_X11_shift).2.1 12 = .ok (.iload_n 2, 1) := by decide +kernel
theorem d_X11_shift_13 : decode (D_X11_shift).2.1 13 = .ok (.bipush 64, 2) := by decide +kernel
theorem d_X11_shift_15 : decode (D_X11_shift).2.1 15 = .ok (.if_icmp .lt 9, 3) := by decide +kernel
theorem d_X11_shift_18 : decode (D_X11_shift).2.1 18 = .ok (.aload_n 0, 1) := by decide +kernel
theorem d_X11_shift_19 : decode (D_X11_shift).2.1 19 = .ok (.iconst 1, 1) := by decide +kernel
theorem d_X11_shift_20 : decode (D_X11_shift).2.1 20 = .ok (.invokevirtual 124, 3) := by decide +kernel
theorem d_X11_shift_23 : decode (D_X11_shift).2.1 23 = .ok (.ireturn, 1) := by decide +kernel
theorem d_X11_shift_24 : decode (D_X11_shift).2.1 24 = .ok (.aload_n 0, 1) := by decide +kernel
theorem d_X11_shift_25 : decode (D_X11_shift).2.1 25 = .ok (.getfield 60, 3) := by decide +kernel
theorem d_X11_shift_28 : decode (D_X11_shift).2.1 28 = .ok (.getfield 261, 3) := by decide +kernel
theorem d_X11_shift_31 : decode (D_X11_shift).2.1 31 = .ok (.iload_n 1, 1) := by decide +kernel
theorem d_X11_shift_32 : decode (D_X11_shift).2.1 32 = .ok (.iaload, 1) := by decide +kernel
theorem d_X11_shift_33 : decode (D_X11_shift).2.1 33 = .ok (.ifCond .eq 10, 3) := by decide +kernel
theorem d_X11_shift_36 : decode (D_X11_shift).2.1 36 = .ok (.aload_n 0, 1) := by decide +kernel
theorem d_X11_shift_37 : decode (D_X11_shift).2.1 37 = .ok (.bipush 7, 2) := by decide +kernel
theorem d_X11_shift_39 : decode (D_X11_shift).2.1 39 = .ok (.invokevirtual 124, 3) := by decide +kernel
theorem d_X11_shift_42 : decode (D_X11_shift).2.1 42 = .ok (.ireturn, 1) := by decide +kernel
theorem d_X11_shift_43 : decode (D_X11_shift).2.1 43 = .ok (.aload_n 0, 1) := by decide +kernel
theorem d_X11_shift_44 : decode (D_X11_shift).2.1 44 = .ok (.getfield 53, 3) := by decide +kernel
theorem d_X11_shift_47 : decode (D_X11_shift).2.1 47 = .ok (.getfield 252, 3) := by decide +kernel
theorem d_X11_shift_50 : decode (D_X11_shift).2.1 50 = .ok (.iload_n 1, 1) := by decide +kernel
theorem d_X11_shift_51 : decode (D_X11_shift).2.1 51 = .ok (.iload_n 2, 1) := by decide +kernel
theorem d_X11_shift_52 : decode (D_X11_shift).2.1 52 = .ok (.iastore, 1) := by decide +kernel
theorem d_X11_shift_53 : decode (D_X11_shift).2.1 53 = .ok (.aload_n 0, 1) := by decide +kernel
theorem d_X11_shift_54 : decode (D_X11_shift).2.1 54 = .ok (.invokevirtual 131, 3) := by decide +kernel
theorem d_X11_shift_57 : decode (D_X11_shift).2.1 57 = .ok (.ireturn, 1) := by decide +kernel
def f_X11_shift_L18 (n : Nat) (M : JMem) : Option (Int × JMem) := bnd (f_X11_deny n 1 M) fun r1 M2 => chk (jw r1 = 0 ∨ jw r1 = 1) (some (r1, M2))
set_option maxRecDepth 4000 in
theorem t_X11_shift_L18 {g : JG} {ad : Nat → Nat} (hs : jStr g ad) (n : Nat) (M : JMem) : jB g D_X11_shift ad 18 [some (.ref 0), none, none] [] M (f_X11_shift_L18 n M) := by
  unfold f_X11_shift_L18
  refine jo_aload 0 d_X11_shift_18 rfl rfl ?_
  refine jo_iconst 1 d_X11_shift_19 ?_
  refine jo_callV (st := []) (m_X11_deny hs n 1 M) ok_X11_deny (And.intro (Nat.le_of_ble_eq_true rfl) (Nat.le_of_ble_eq_true rfl)) lm_X11_124 in_X11_deny se_X11_deny rfl kc_0 rfl rfl (And.intro (Nat.zero_le _) (Nat.zero_le _)) rfl (Nat.le_of_ble_eq_true rfl) d_X11_shift_20 (fun r1 M2 => ?_)
  exact jo_zretq rfl d_X11_shift_23
def f_X11_shift (n : Nat) (x1 : Int) (x2 : Int) (M : JMem) : Option (Int × JMem) := bnd (f_X11_isTrain n x1 M) fun r1 M2 => if jw r1 = 0 then (f_X11_shift_L18 n M2) else (if jw x2 < 0 then (f_X11_shift_L18 n M2) else (if jw x2 < jw 64 then (chk (jin x1 8) <| if jw (M2 (52 + 4) (jw x1).toNat) = 0 then (chk (jin x1 8) <| letm (jup M2 (40 + 6) (jw x1).toNat x2) fun M3 => bnd (f_X11_allow n M3) fun r4 M5 => chk (jw r4 = 0 ∨ jw r4 = 1) (some (r4, M5))) else (bnd (f_X11_deny n 7 M2) fun r6 M7 => chk (jw r6 = 0 ∨ jw r6 = 1) (some (r6, M7)))) else (f_X11_shift_L18 n M2)))
set_option maxRecDepth 4000 in
theorem t_X11_shift {g : JG} {ad : Nat → Nat} (hs : jStr g ad) (n : Nat) (x1 : Int) (x2 : Int) (M : JMem) : jB g D_X11_shift ad 0 [some (.ref 0), some (ji x1), some (ji x2)] [] M (f_X11_shift n x1 x2 M) := by
  unfold f_X11_shift
  refine jo_aload 0 d_X11_shift_0 rfl rfl ?_
  refine jo_iload 1 d_X11_shift_1 rfl rfl ?_
  refine jo_callV (st := []) (m_X11_isTrain hs n x1 M) ok_X11_isTrain (And.intro (Nat.le_of_ble_eq_true rfl) (Nat.le_of_ble_eq_true rfl)) lm_X11_243 in_X11_isTrain se_X11_isTrain rfl kc_0 rfl rfl (And.intro (Nat.zero_le _) (Nat.zero_le _)) rfl (Nat.le_of_ble_eq_true rfl) d_X11_shift_2 (fun r1 M2 => ?_)
  refine jo_if_eq 18 d_X11_shift_5 (by decide) ?_ ?_
  · skip
    exact jO.sub (t_X11_shift_L18 hs n M2) (And.intro rfl True.intro)
  · skip
    refine jo_iload 2 d_X11_shift_8 rfl rfl ?_
    refine jo_if_lt 18 d_X11_shift_9 (by decide) ?_ ?_
    · skip
      exact jO.sub (t_X11_shift_L18 hs n M2) (And.intro rfl True.intro)
    · skip
      refine jo_iload 2 d_X11_shift_12 rfl rfl ?_
      refine jo_bipush 64 d_X11_shift_13 (by decide) ?_
      refine jo_icmp_lt 24 d_X11_shift_15 (by decide) ?_ ?_
      · skip
        refine jo_aload 0 d_X11_shift_24 rfl rfl ?_
        refine jo_getR (k := 8) cl_11 (Nat.le_of_ble_eq_true rfl) lk_X11_60 rfl kc_0 kr_0_8 d_X11_shift_25 ?_
        refine jo_getR (k := 8) cl_1 (Nat.le_of_ble_eq_true rfl) lk_X11_261 rfl kc_52 (kr_Now_8 kc_52) d_X11_shift_28 ?_
        refine jo_iload 1 d_X11_shift_31 rfl rfl ?_
        refine jo_iald (N := 8) (ka_Now_8 kc_52) d_X11_shift_32 ?_
        refine jo_if_eq 43 d_X11_shift_33 (by decide) ?_ ?_
        · skip
          refine jo_aload 0 d_X11_shift_43 rfl rfl ?_
          refine jo_getR (k := 7) cl_11 (Nat.le_of_ble_eq_true rfl) lk_X11_53 rfl kc_0 kr_0_7 d_X11_shift_44 ?_
          refine jo_getR (k := 10) cl_4 (Nat.le_of_ble_eq_true rfl) lk_X11_252 rfl kc_40 (kr_Plan_10 kc_40) d_X11_shift_47 ?_
          refine jo_iload 1 d_X11_shift_50 rfl rfl ?_
          refine jo_iload 2 d_X11_shift_51 rfl rfl ?_
          refine jo_iast (N := 8) (ka_Plan_10 kc_40) d_X11_shift_52 (fun M3 => ?_)
          refine jo_aload 0 d_X11_shift_53 rfl rfl ?_
          refine jo_callV (st := []) (m_X11_allow hs n M3) ok_X11_allow (And.intro (Nat.le_of_ble_eq_true rfl) (Nat.le_of_ble_eq_true rfl)) lm_X11_131 in_X11_allow se_X11_allow rfl kc_0 rfl rfl (And.intro (Nat.zero_le _) (Nat.zero_le _)) rfl (Nat.le_of_ble_eq_true rfl) d_X11_shift_54 (fun r4 M5 => ?_)
          exact jo_zretq rfl d_X11_shift_57
        · skip
          refine jo_aload 0 d_X11_shift_36 rfl rfl ?_
          refine jo_bipush 7 d_X11_shift_37 (by decide) ?_
          refine jo_callV (st := []) (m_X11_deny hs n 7 M2) ok_X11_deny (And.intro (Nat.le_of_ble_eq_true rfl) (Nat.le_of_ble_eq_true rfl)) lm_X11_124 in_X11_deny se_X11_deny rfl kc_0 rfl rfl (And.intro (Nat.zero_le _) (Nat.zero_le _)) rfl (Nat.le_of_ble_eq_true rfl) d_X11_shift_39 (fun r6 M7 => ?_)
          exact jo_zretq rfl d_X11_shift_42
      · skip
        exact jO.sub (t_X11_shift_L18 hs n M2) (And.intro rfl True.intro)
theorem m_X11_shift {g : JG} {ad : Nat → Nat} (hs : jStr g ad) (n : Nat) (x1 : Int) (x2 : Int) (M : JMem) : jMet g jNN ad jR D_X11_shift yX11_shift [.ref 0, ji x1, ji x2] M (f_X11_shift n x1 x2 M) :=
  jMet.of (lo0 := [some (.ref 0), some (ji x1), some (ji x2)]) (by decide) rfl rfl (Nat.le_of_ble_eq_true rfl) (And.intro rfl (And.intro rfl (And.intro rfl True.intro))) (t_X11_shift hs n x1 x2 M)
/-! CageLeave.slips(II)I -/
def D_X11_slips : JD := (RX11, cX11_slips, 6, some .int, "slips", { frames := 5, cells := 0, slots := 0, locals := 130 })
theorem ok_X11_slips : jOk D_X11_slips yX11_slips 2 := ⟨jTW_mem (k := 1302) (by decide +kernel) rfl, jTW_mem (k := 135) (by decide +kernel) rfl, ⟨by decide +kernel, by decide +kernel⟩, by decide +kernel, rfl, rfl⟩
theorem in_X11_slips : Cond.instanceMethod yX11_slips ∈ jTW := jTW_mem (k := 1300) (by decide +kernel) rfl
theorem se_X11_slips : Cond.selects yX11_slips.cls yX11_slips yX11_slips ∈ jTW := jTW_mem (k := 1301) (by decide +kernel) rfl
theorem lm_X11_403 : Cond.methodLink RX11 403 Lib.Math.min.name ∈ jTW := jTW_mem (k := 1303) (by decide +kernel) rfl
theorem d_X11_slips_0 : decode (D_X11_slips).2.1 0 = .ok (.aload_n 0, 1) := by decide +kernel
theorem d_X11_slips_1 : decode (D_X11_slips).2.1 1 = .ok (.iload_n 1, 1) := by decide +kernel
theorem d_X11_slips_2 : decode (D_X11_slips).2.1 2 = .ok (.iload_n 2, 1) := by decide +kernel
theorem d_X11_slips_3 : decode (D_X11_slips).2.1 3 = .ok (.iconst 0, 1) := by decide +kernel
theorem d_X11_slips_4 : decode (D_X11_slips).2.1 4 = .ok (.invokevirtual 392, 3) := by decide +kernel
theorem d_X11_slips_7 : decode (D_X11_slips).2.1 7 = .ok (.istore_n 3, 1) := by decide +kernel
theorem d_X11_slips_8 : decode (D_X11_slips).2.1 8 = .ok (.iload_n 3, 1) := by decide +kernel
theorem d_X11_slips_9 : decode (D_X11_slips).2.1 9 = .ok (.ifCond .eq 9, 3) := by decide +kernel
theorem d_X11_slips_12 : decode (D_X11_slips).2.1 12 = .ok (.aload_n 0, 1) := by decide +kernel
theorem d_X11_slips_13 : decode (D_X11_slips).2.1 13 = .ok (.iload_n 3, 1) := by decide +kernel
theorem d_X11_slips_14 : decode (D_X11_slips).2.1 14 = .ok (.invokevirtual 143, 3) := by decide +kernel
theorem d_X11_slips_17 : decode (D_X11_slips).2.1 17 = .ok (.ireturn, 1) := by decide +kernel
theorem d_X11_slips_18 : decode (D_X11_slips).2.1 18 = .ok (.iload_n 2, 1) := by decide +kernel
theorem d_X11_slips_19 : decode (D_X11_slips).2.1 19 = .ok (.istore 4, 2) := by decide +kernel
theorem d_X11_slips_21 : decode (D_X11_slips).2.1 21 = .ok (.iconst 0, 1) := by decide +kernel
theorem d_X11_slips_22 : decode (D_X11_slips).2.1 22 = .ok (.istore 5, 2) := by decide +kernel
theorem d_X11_slips_24 : decode (D_X11_slips).2.1 24 = .ok (.iload 5, 2) := by decide +kernel
theorem d_X11_slips_26 : decode (D_X11_slips).2.1 26 = .ok (.iconst 1, 1) := by decide +kernel
theorem d_X11_slips_27 : decode (D_X11_slips).2.1 27 = .ok (.aload_n 0, 1) := by decide +kernel
theorem d_X11_slips_28 : decode (D_X11_slips).2.1 28 = .ok (.getfield 53, 3) := by decide +kernel
theorem d_X11_slips_31 : decode (D_X11_slips).2.1 31 = .ok (.getfield 190, 3) := by decide +kernel
theorem d_X11_slips_34 : decode (D_X11_slips).2.1 34 = .ok (.ishl, 1) := by decide +kernel
theorem d_X11_slips_35 : decode (D_X11_slips).2.1 35 = .ok (.if_icmp .ge 50, 3) := by decide +kernel
theorem d_X11_slips_38 : decode (D_X11_slips).2.1 38 = .ok (.iload 5, 2) := by decide +kernel
theorem d_X11_slips_40 : decode (D_X11_slips).2.1 40 = .ok (.aload_n 0, 1) := by decide +kernel
theorem d_X11_slips_41 : decode (D_X11_slips).2.1 41 = .ok (.getfield 60, 3) := by decide +kernel
theorem d_X11_slips_44 : decode (D_X11_slips).2.1 44 = .ok (.getfield 230, 3) := by decide +kernel
theorem d_X11_slips_47 : decode (D_X11_slips).2.1 47 = .ok (.iand, 1) := by decide +kernel
theorem d_X11_slips_48 : decode (D_X11_slips).2.1 48 = .ok (.ifCond .ne 31, 3) := by decide +kernel
theorem d_X11_slips_51 : decode (D_X11_slips).2.1 51 = .ok (.iload 4, 2) := by decide +kernel
theorem d_X11_slips_53 : decode (D_X11_slips).2.1 53 = .ok (.aload_n 0, 1) := by decide +kernel
theorem d_X11_slips_54 : decode (D_X11_slips).2.1 54 = .ok (.getfield 106, 3) := by decide +kernel
theorem d_X11_slips_57 : decode (D_X11_slips).2.1 57 = .ok (.aload_n 0, 1) := by decide +kernel
theorem d_X11_slips_58 : decode (D_X11_slips).2.1 58 = .ok (.getfield 53, 3) := by decide +kernel
theorem d_X11_slips_61 : decode (D_X11_slips).2.1 61 = .ok (.aload_n 0, 1) := by decide +kernel
theorem d_X11_slips_62 : decode (D_X11_slips).2.1 62 = .ok (.getfield 60, 3) := by decide +kernel
theorem d_X11_slips_65 : decode (D_X11_slips).2.1 65 = .ok (.aload_n 0, 1) := by decide +kernel
theorem d_X11_slips_66 : decode (D_X11_slips).2.1 66 = .ok (.getfield 86, 3) := by decide +kernel
theorem d_X11_slips_69 : decode (D_X11_slips).2.1 69 = .ok (.iload 5, 2) := by decide +kernel
theorem d_X11_slips_71 : decode (D_X11_slips).2.1 71 = .ok (.invokevirtual 399, 3) := by decide +kernel
theorem d_X11_slips_74 : decode (D_X11_slips).2.1 74 = .ok (.invokestatic 403, 3) := by decide +kernel
theorem d_X11_slips_77 : decode (D_X11_slips).2.1 77 = .ok (.istore 4, 2) := by decide +kernel
theorem d_X11_slips_79 : decode (D_X11_slips).2.1 79 = .ok (.iinc 5 1, 3) := by decide +kernel
theorem d_X11_slips_82 : decode (D_X11_slips).2.1 82 = .ok (.goto (-58), 3) := by decide +kernel
theorem d_X11_slips_85 : decode (D_X11_slips).2.1 85 = .ok (.aload_n 0, 1) := by decide +kernel
theorem d_X11_slips_86 : decode (D_X11_slips).2.1 86 = .ok (.iload 4, 2) := by decide +kernel
theorem d_X11_slips_88 : decode (D_X11_slips).2.1 88 = .ok (.invokevirtual 193, 3) := by decide +kernel
theorem d_X11_slips_91 : decode (D_X11_slips).2.1 91 = .ok (.ireturn, 1) := by decide +kernel
def f_X11_slips_L79 (n : Nat) (r24 : Int → Int → JMem → Option (Int × JMem)) (v4 v5 : Int) (M : JMem) : Option (Int × JMem) := letv (v5 + 1) fun y1 => r24 v4 y1 M
set_option maxRecDepth 4000 in
theorem t_X11_slips_L79 {g : JG} {ad : Nat → Nat} (hs : jStr g ad) (n : Nat) (r24 : Int → Int → JMem → Option (Int × JMem)) (hr24 : ∀ (v4 v5 : Int) (M : JMem), jB g D_X11_slips ad 24 [some (.ref 0), none, none, none, some (ji v4), some (ji v5)] [] M (r24 v4 v5 M)) (v4 v5 : Int) (M : JMem) : jB g D_X11_slips ad 79 [some (.ref 0), none, none, none, some (ji v4), some (ji v5)] [] M (f_X11_slips_L79 n r24 v4 v5 M) := by
  unfold f_X11_slips_L79
  refine jo_iinc 5 d_X11_slips_79 rfl (Nat.le_of_ble_eq_true rfl) (fun y1 => ?_)
  refine jo_goto 24 d_X11_slips_82 (by decide) ?_
  exact jO.sub (hr24 v4 y1 M) (And.intro rfl (And.intro rfl (And.intro rfl True.intro)))
def f_X11_slips_L85 (n : Nat) (v4 : Int) (M : JMem) : Option (Int × JMem) := bnd (f_X11_answer n v4 M) fun r1 M2 => some (r1, M2)
set_option maxRecDepth 4000 in
theorem t_X11_slips_L85 {g : JG} {ad : Nat → Nat} (hs : jStr g ad) (n : Nat) (v4 : Int) (M : JMem) : jB g D_X11_slips ad 85 [some (.ref 0), none, none, none, some (ji v4), none] [] M (f_X11_slips_L85 n v4 M) := by
  unfold f_X11_slips_L85
  refine jo_aload 0 d_X11_slips_85 rfl rfl ?_
  refine jo_iloadW 4 d_X11_slips_86 rfl ?_
  refine jo_callV (st := []) (m_X11_answer hs n v4 M) ok_X11_answer (And.intro (Nat.le_of_ble_eq_true rfl) (Nat.le_of_ble_eq_true rfl)) lm_X11_193 in_X11_answer se_X11_answer rfl kc_0 rfl rfl (And.intro (Nat.zero_le _) (Nat.zero_le _)) rfl (Nat.le_of_ble_eq_true rfl) d_X11_slips_88 (fun r1 M2 => ?_)
  exact jo_iret rfl d_X11_slips_91
def f_X11_slips_L24 (n : Nat) : Nat → Int → Int → JMem → Option (Int × JMem)
  | 0, _, _, _ => none
  | k + 1, v4, v5, M => if jw (jshl 1 (M 40 2)) ≤ jw v5 then (f_X11_slips_L85 n v4 M) else (if jw (jand v5 (M 52 3)) = 0 then (bnd (f_X3_slipsIf n 40 52 68 v5 M) fun r1 M2 => letv (jmin v4 r1) fun y3 => f_X11_slips_L79 n (f_X11_slips_L24 n k) y3 v5 M2) else (f_X11_slips_L79 n (f_X11_slips_L24 n k) v4 v5 M))
set_option maxRecDepth 4000 in
theorem t_X11_slips_L24 {g : JG} {ad : Nat → Nat} (hs : jStr g ad) (n : Nat) : ∀ (k : Nat) (v4 v5 : Int) (M : JMem), jB g D_X11_slips ad 24 [some (.ref 0), none, none, none, some (ji v4), some (ji v5)] [] M (f_X11_slips_L24 n k v4 v5 M) := by
  intro k
  induction k with
  | zero => intro v4 v5 M; exact jO.none
  | succ k ih =>
    intro v4 v5 M
    rw [f_X11_slips_L24]
    refine jo_iloadW 5 d_X11_slips_24 rfl ?_
    refine jo_iconst 1 d_X11_slips_26 ?_
    refine jo_aload 0 d_X11_slips_27 rfl rfl ?_
    refine jo_getR (k := 7) cl_11 (Nat.le_of_ble_eq_true rfl) lk_X11_53 rfl kc_0 kr_0_7 d_X11_slips_28 ?_
    refine jo_getI (k := 2) cl_4 (Nat.le_of_ble_eq_true rfl) lk_X11_190 (Or.inl rfl) kc_40 d_X11_slips_31 ?_
    refine jo_ishl d_X11_slips_34 ?_
    refine jo_icmp_ge 85 d_X11_slips_35 (by decide) ?_ ?_
    · skip
      exact jO.sub (t_X11_slips_L85 hs n v4 M) (And.intro rfl (And.intro rfl True.intro))
    · skip
      refine jo_iloadW 5 d_X11_slips_38 rfl ?_
      refine jo_aload 0 d_X11_slips_40 rfl rfl ?_
      refine jo_getR (k := 8) cl_11 (Nat.le_of_ble_eq_true rfl) lk_X11_60 rfl kc_0 kr_0_8 d_X11_slips_41 ?_
      refine jo_getI (k := 3) cl_1 (Nat.le_of_ble_eq_true rfl) lk_X11_230 (Or.inl rfl) kc_52 d_X11_slips_44 ?_
      refine jo_iand d_X11_slips_47 ?_
      refine jo_if_ne 79 d_X11_slips_48 (by decide) ?_ ?_
      · skip
        exact jO.sub (t_X11_slips_L79 hs n (f_X11_slips_L24 n k) ih v4 v5 M) (And.intro rfl (And.intro rfl (And.intro rfl True.intro)))
      · skip
        refine jo_iloadW 4 d_X11_slips_51 rfl ?_
        refine jo_aload 0 d_X11_slips_53 rfl rfl ?_
        refine jo_getR (k := 17) cl_11 (Nat.le_of_ble_eq_true rfl) lk_X11_106 rfl kc_0 kr_0_17 d_X11_slips_54 ?_
        refine jo_aload 0 d_X11_slips_57 rfl rfl ?_
        refine jo_getR (k := 7) cl_11 (Nat.le_of_ble_eq_true rfl) lk_X11_53 rfl kc_0 kr_0_7 d_X11_slips_58 ?_
        refine jo_aload 0 d_X11_slips_61 rfl rfl ?_
        refine jo_getR (k := 8) cl_11 (Nat.le_of_ble_eq_true rfl) lk_X11_60 rfl kc_0 kr_0_8 d_X11_slips_62 ?_
        refine jo_aload 0 d_X11_slips_65 rfl rfl ?_
        refine jo_getR (k := 14) cl_11 (Nat.le_of_ble_eq_true rfl) lk_X11_86 rfl kc_0 kr_0_14 d_X11_slips_66 ?_
        refine jo_iloadW 5 d_X11_slips_69 rfl ?_
        refine jo_callV (st := [ji v4]) (m_X3_slipsIf hs n 40 52 68 v5 kc_40 kc_52 kc_68 M) ok_X3_slipsIf (And.intro (Nat.le_of_ble_eq_true rfl) (Nat.le_of_ble_eq_true rfl)) lm_X11_399 in_X3_slipsIf se_X3_slipsIf rfl kc_82 rfl rfl (And.intro (Nat.zero_le _) (Nat.zero_le _)) rfl (Nat.le_of_ble_eq_true rfl) d_X11_slips_71 (fun r1 M2 => ?_)
        refine jo_mmin lm_X11_403 (Nat.le_of_ble_eq_true rfl) (Nat.le_of_ble_eq_true rfl) (And.intro (Nat.zero_le _) (Nat.zero_le _)) d_X11_slips_74 ?_
        refine jo_istoreW 4 d_X11_slips_77 (Nat.le_of_ble_eq_true rfl) (fun y3 => ?_)
        exact jO.sub (t_X11_slips_L79 hs n (f_X11_slips_L24 n k) ih y3 v5 M2) (And.intro rfl (And.intro rfl (And.intro rfl True.intro)))
def f_X11_slips (n : Nat) (x1 : Int) (x2 : Int) (M : JMem) : Option (Int × JMem) := bnd (f_X11_whyNotHeard n x1 x2 0 M) fun r1 M2 => letv r1 fun y3 => if jw y3 = 0 then (letv x2 fun y4 => letv 0 fun y5 => f_X11_slips_L24 n n y4 y5 M2) else (bnd (f_X11_refuse n y3 M2) fun r6 M7 => some (r6, M7))
set_option maxRecDepth 4000 in
theorem t_X11_slips {g : JG} {ad : Nat → Nat} (hs : jStr g ad) (n : Nat) (x1 : Int) (x2 : Int) (M : JMem) : jB g D_X11_slips ad 0 [some (.ref 0), some (ji x1), some (ji x2), none, none, none] [] M (f_X11_slips n x1 x2 M) := by
  unfold f_X11_slips
  refine jo_aload 0 d_X11_slips_0 rfl rfl ?_
  refine jo_iload 1 d_X11_slips_1 rfl rfl ?_
  refine jo_iload 2 d_X11_slips_2 rfl rfl ?_
  refine jo_iconst 0 d_X11_slips_3 ?_
  refine jo_callV (st := []) (m_X11_whyNotHeard hs n x1 x2 0 M) ok_X11_whyNotHeard (And.intro (Nat.le_of_ble_eq_true rfl) (Nat.le_of_ble_eq_true rfl)) lm_X11_392 in_X11_whyNotHeard se_X11_whyNotHeard rfl kc_0 rfl rfl (And.intro (Nat.zero_le _) (Nat.zero_le _)) rfl (Nat.le_of_ble_eq_true rfl) d_X11_slips_4 (fun r1 M2 => ?_)
  refine jo_istore 3 d_X11_slips_7 rfl (Nat.le_of_ble_eq_true rfl) (fun y3 => ?_)
  refine jo_iload 3 d_X11_slips_8 rfl rfl ?_
  refine jo_if_eq 18 d_X11_slips_9 (by decide) ?_ ?_
  · skip
    refine jo_iload 2 d_X11_slips_18 rfl rfl ?_
    refine jo_istoreW 4 d_X11_slips_19 (Nat.le_of_ble_eq_true rfl) (fun y4 => ?_)
    refine jo_iconst 0 d_X11_slips_21 ?_
    refine jo_istoreW 5 d_X11_slips_22 (Nat.le_of_ble_eq_true rfl) (fun y5 => ?_)
    exact jO.sub (t_X11_slips_L24 hs n n y4 y5 M2) (And.intro rfl (And.intro rfl (And.intro rfl True.intro)))
  · skip
    refine jo_aload 0 d_X11_slips_12 rfl rfl ?_
    refine jo_iload 3 d_X11_slips_13 rfl rfl ?_
    refine jo_callV (st := []) (m_X11_refuse hs n y3 M2) ok_X11_refuse (And.intro (Nat.le_of_ble_eq_true rfl) (Nat.le_of_ble_eq_true rfl)) lm_X11_143 in_X11_refuse se_X11_refuse rfl kc_0 rfl rfl (And.intro (Nat.zero_le _) (Nat.zero_le _)) rfl (Nat.le_of_ble_eq_true rfl) d_X11_slips_14 (fun r6 M7 => ?_)
    exact jo_iret rfl d_X11_slips_17
theorem m_X11_slips {g : JG} {ad : Nat → Nat} (hs : jStr g ad) (n : Nat) (x1 : Int) (x2 : Int) (M : JMem) : jMet g jNN ad jR D_X11_slips yX11_slips [.ref 0, ji x1, ji x2] M (f_X11_slips n x1 x2 M) :=
  jMet.of (lo0 := [some (.ref 0), some (ji x1), some (ji x2), none, none, none]) (by decide) rfl rfl (Nat.le_of_ble_eq_true rfl) (And.intro rfl (And.intro rfl (And.intro rfl True.intro))) (t_X11_slips hs n x1 x2 M)
/-! CageLeave.snow(I)Z -/
def D_X11_snow : JD := (RX11, cX11_snow, 7, some .boolean, "snow", { frames := 3, cells := 0, slots := 0, locals := 73 })
theorem ok_X11_snow : jOk D_X11_snow yX11_snow 1 := ⟨jTW_mem (k := 1218) (by decide +kernel) rfl, jTW_mem (k := 135) (by decide +kernel) rfl, ⟨by decide +kernel, by decide +kernel⟩, by decide +kernel, rfl, rfl⟩
theorem in_X11_snow : Cond.instanceMethod yX11_snow ∈ jTW := jTW_mem (k := 1216) (by decide +kernel) rfl
theorem se_X11_snow : Cond.selects yX11_snow.cls yX11_snow yX11_snow ∈ jTW := jTW_mem (k := 1217) (by decide +kernel) rfl
theorem d_X11_snow_0 : decode (D_X11_snow).2.1 0 = .ok (.aload_n 0, 1) := by decide +kernel
theorem d_X11_snow_1 : decode (D_X11_snow).2.1 1 = .ok (.iload_n 1, 1) := by decide +kernel
theorem d_X11_snow_2 : decode (D_X11_snow).2.1 2 = .ok (.invokevirtual 289, 3) := by decide +kernel
theorem d_X11_snow_5 : decode (D_X11_snow).2.1 5 = .ok (.ifCond .ne 9, 3) := by decide +kernel
theorem d_X11_snow_8 : decode (D_X11_snow).2.1 8 = .ok (.aload_n 0, 1) := by decide +kernel
theorem d_X11_snow_9 : decode (D_X11_snow).2.1 9 = .ok (.iconst 1, 1) := by decide +kernel
theorem d_X11_snow_10 : decode (D_X11_snow).2.1 10 = .ok (.invokevirtual 124, 3) := by decide +kernel
theorem d_X11_snow_13 : decode (D_X11_snow).2.1 13 = .ok (.ireturn, 1) := by decide +kernel
theorem d_X11_snow_14 : decode (D_X11_snow).2.1 14 = .ok (.aload_n 0, 1) := by decide +kernel
theorem d_X11_snow_15 : decode (D_X11_snow).2.1 15 = .ok (.getfield 92, 3) := by decide +kernel
theorem d_X11_snow_18 : decode (D_X11_snow).2.1 18 = .ok (.aload_n 0, 1) := by decide +kernel
theorem d_X11_snow_19 : decode (D_X11_snow).2.1 19 = .ok (.getfield 53, 3) := by decide +kernel
theorem d_X11_snow_22 : decode (D_X11_snow).2.1 22 = .ok (.invokevirtual 346, 3) := by decide +kernel
theorem d_X11_snow_25 : decode (D_X11_snow).2.1 25 = .ok (.aload_n 0, 1) := by decide +kernel
theorem d_X11_snow_26 : decode (D_X11_snow).2.1 26 = .ok (.getfield 53, 3) := by decide +kernel
theorem d_X11_snow_29 : decode (D_X11_snow).2.1 29 = .ok (.getfield 215, 3) := by decide +kernel
theorem d_X11_snow_32 : decode (D_X11_snow).2.1 32 = .ok (.aload_n 0, 1) := by decide +kernel
theorem d_X11_snow_33 : decode (D_X11_snow).2.1 33 = .ok (.getfield 60, 3) := by decide +kernel
theorem d_X11_snow_36 : decode (D_X11_snow).2.1 36 = .ok (.getfield 237, 3) := by decide +kernel
theorem d_X11_snow_39 : decode (D_X11_snow).2.1 39 = .ok (.invokestatic 341, 3) := by decide +kernel
theorem d_X11_snow_42 : decode (D_X11_snow).2.1 42 = .ok (.isub, 1) := by decide +kernel
theorem d_X11_snow_43 : decode (D_X11_snow).2.1 43 = .ok (.istore_n 2, 1) := by decide +kernel
theorem d_X11_snow_44 : decode (D_X11_snow).2.1 44 = .ok (.lconst 0, 1) := by decide +kernel
theorem d_X11_snow_45 : decode (D_X11_snow).2.1 45 = .ok (.lstore_n 3, 1) := by decide +kernel
theorem d_X11_snow_46 : decode (D_X11_snow).2.1 46 = .ok (.iconst 0, 1) := by decide +kernel
theorem d_X11_snow_47 : decode (D_X11_snow).2.1 47 = .ok (.istore 5, 2) := by decide +kernel
theorem d_X11_snow_49 : decode (D_X11_snow).2.1 49 = .ok (.iload 5, 2) := by decide +kernel
theorem d_X11_snow_51 : decode (D_X11_snow).2.1 51 = .ok (.iconst 1, 1) := by decide +kernel
theorem d_X11_snow_52 : decode (D_X11_snow).2.1 52 = .ok (.aload_n 0, 1) := by decide +kernel
theorem d_X11_snow_53 : decode (D_X11_snow).2.1 53 = .ok (.getfield 53, 3) := by decide +kernel
theorem d_X11_snow_56 : decode (D_X11_snow).2.1 56 = .ok (.getfield 215, 3) := by decide +kernel
theorem d_X11_snow_59 : decode (D_X11_snow).2.1 59 = .ok (.ishl, 1) := by decide +kernel
theorem d_X11_snow_60 : decode (D_X11_snow).2.1 60 = .ok (.if_icmp .ge 93, 3) := by decide +kernel
theorem d_X11_snow_63 : decode (D_X11_snow).2.1 63 = .ok (.iload 5, 2) := by decide +kernel
theorem d_X11_snow_65 : decode (D_X11_snow).2.1 65 = .ok (.aload_n 0, 1) := by decide +kernel
theorem d_X11_snow_66 : decode (D_X11_snow).2.1 66 = .ok (.getfield 60, 3) := by decide +kernel
theorem d_X11_snow_69 : decode (D_X11_snow).2.1 69 = .ok (.getfield 237, 3) := by decide +kernel
theorem d_X11_snow_72 : decode (D_X11_snow).2.1 72 = .ok (.iand, 1) := by decide +kernel
theorem d_X11_snow_73 : decode (D_X11_snow).2.1 73 = .ok (.ifCond .ne 74, 3) := by decide +kernel
theorem d_X11_snow_76 : decode (D_X11_snow).2.1 76 = .ok (.aload_n 0, 1) := by decide +kernel
theorem d_X11_snow_77 : decode (D_X11_snow).2.1 77 = .ok (.getfield 92, 3) := by decide +kernel
theorem d_X11_snow_80 : decode (D_X11_snow).2.1 80 = .ok (.aload_n 0, 1) := by decide +kernel
theorem d_X11_snow_81 : decode (D_X11_snow).2.1 81 = .ok (.getfield 53, 3) := by decide +kernel
theorem d_X11_snow_84 : decode (D_X11_snow).2.1 84 = .ok (.aload_n 0, 1) := by decide +kernel
theorem d_X11_snow_85 : decode (D_X11_snow).2.1 85 = .ok (.getfield 60, 3) := by decide +kernel
theorem d_X11_snow_88 : decode (D_X11_snow).2.1 88 = .ok (.getfield 237, 3) := by decide +kernel
theorem d_X11_snow_91 : decode (D_X11_snow).2.1 91 = .ok (.iload 5, 2) := by decide +kernel
theorem d_X11_snow_93 : decode (D_X11_snow).2.1 93 = .ok (.ior, 1) := by decide +kernel
theorem d_X11_snow_94 : decode (D_X11_snow).2.1 94 = .ok (.iconst 0, 1) := by decide +kernel
theorem d_X11_snow_95 : decode (D_X11_snow).2.1 95 = .ok (.iconst 0, 1) := by decide +kernel
theorem d_X11_snow_96 : decode (D_X11_snow).2.1 96 = .ok (.iload_n 1, 1) := by decide +kernel
theorem d_X11_snow_97 : decode (D_X11_snow).2.1 97 = .ok (.invokevirtual 349, 3) := by decide +kernel
theorem d_X11_snow_100 : decode (D_X11_snow).2.1 100 = .ok (.bipush 64, 2) := by decide +kernel
theorem d_X11_snow_102 : decode (D_X11_snow).2.1 102 = .ok (.if_icmp .gt 45, 3) := by decide +kernel
theorem d_X11_snow_105 : decode (D_X11_snow).2.1 105 = .ok (.iload 5, 2) := by decide +kernel
theorem d_X11_snow_107 : decode (D_X11_snow).2.1 107 = .ok (.invokestatic 341, 3) := by decide +kernel
theorem d_X11_snow_110 : decode (D_X11_snow).2.1 110 = .ok (.istore 6, 2) := by decide +kernel
theorem d_X11_snow_112 : decode (D_X11_snow).2.1 112 = .ok (.lload_n 3, 1) := by decide +kernel
theorem d_X11_snow_113 : decode (D_X11_snow).2.1 113 = .ok (.aload_n 0, 1) := by decide +kernel
theorem d_X11_snow_114 : decode (D_X11_snow).2.1 114 = .ok (.getfield 53, 3) := by decide +kernel
theorem d_X11_snow_117 : decode (D_X11_snow).2.1 117 = .ok (.getfield 218, 3) := by decide +kernel
theorem d_X11_snow_120 : decode (D_X11_snow).2.1 120 = .ok (.i2l, 1) := by decide +kernel
theorem d_X11_snow_121 : decode (D_X11_snow).2.1 121 = .ok (.iload 6, 2) := by decide +kernel
theorem d_X11_snow_123 : decode (D_X11_snow).2.1 123 = .ok (.invokestatic 369, 3) := by decide +kernel
theorem d_X11_snow_126 : decode (D_X11_snow).2.1 126 = .ok (.bipush 16, 2) := by decide +kernel
theorem d_X11_snow_128 : decode (D_X11_snow).2.1 128 = .ok (.aload_n 0, 1) := by decide +kernel
theorem d_X11_snow_129 : decode (D_X11_snow).2.1 129 = .ok (.getfield 53, 3) := by decide +kernel
theorem d_X11_snow_132 : decode (D_X11_snow).2.1 132 = .ok (.getfield 218, 3) := by decide +kernel
theorem d_X11_snow_135 : decode (D_X11_snow).2.1 135 = .ok (.isub, 1) := by decide +kernel
theorem d_X11_snow_136 : decode (D_X11_snow).2.1 136 = .ok (.i2l, 1) := by decide +kernel
theorem d_X11_snow_137 : decode (D_X11_snow).2.1 137 = .ok (.iload_n 2, 1) := by decide +kernel
theorem d_X11_snow_138 : decode (D_X11_snow).2.1 138 = .ok (.iload 6, 2) := by decide +kernel
theorem d_X11_snow_140 : decode (D_X11_snow).2.1 140 = .ok (.isub, 1) := by decide +kernel
theorem d_X11_snow_141 : decode (D_X11_snow).2.1 141 = .ok (.invokestatic 369, 3) := by decide +kernel
theorem d_X11_snow_144 : decode (D_X11_snow).2.1 144 = .ok (.lmul, 1) := by decide +kernel
theorem d_X11_snow_145 : decode (D_X11_snow).2.1 145 = .ok (.ladd, 1) := by decide +kernel
theorem d_X11_snow_146 : decode (D_X11_snow).2.1 146 = .ok (.lstore_n 3, 1) := by decide +kernel
theorem d_X11_snow_147 : decode (D_X11_snow).2.1 147 = .ok (.iinc 5 1, 3) := by decide +kernel
theorem d_X11_snow_150 : decode (D_X11_snow).2.1 150 = .ok (.goto (-101), 3) := by decide +kernel
theorem d_X11_snow_153 : decode (D_X11_snow).2.1 153 = .ok (.aload_n 0, 1) := by decide +kernel
theorem d_X11_snow_154 : decode (D_X11_snow).2.1 154 = .ok (.lload_n 3, 1) := by decide +kernel
theorem d_X11_snow_155 : decode (D_X11_snow).2.1 155 = .ok (.ldc2_w 373, 3) := by decide +kernel
theorem d_X11_snow_158 : decode (D_X11_snow).2.1 158 = .ok (.iload_n 2, 1) := by decide +kernel
theorem d_X11_snow_159 : decode (D_X11_snow).2.1 159 = .ok (.invokestatic 369, 3) := by decide +kernel
theorem d_X11_snow_162 : decode (D_X11_snow).2.1 162 = .ok (.invokevirtual 375, 3) := by decide +kernel
theorem d_X11_snow_165 : decode (D_X11_snow).2.1 165 = .ok (.ireturn, 1) := by decide +kernel
def f_X11_snow_L147 (n : Nat) (r49 : Int → Int → Int → Int → JMem → Option (Int × JMem)) (v1 v2 v3 v5 : Int) (M : JMem) : Option (Int × JMem) := letv (v5 + 1) fun y1 => r49 v1 v2 v3 y1 M
set_option maxRecDepth 4000 in
theorem t_X11_snow_L147 {g : JG} {ad : Nat → Nat} (hs : jStr g ad) (n : Nat) (r49 : Int → Int → Int → Int → JMem → Option (Int × JMem)) (hr49 : ∀ (v1 v2 v3 v5 : Int) (M : JMem), jB g D_X11_snow ad 49 [some (.ref 0), some (ji v1), some (ji v2), some (jl v3), none, some (ji v5), none] [] M (r49 v1 v2 v3 v5 M)) (v1 v2 v3 v5 : Int) (M : JMem) : jB g D_X11_snow ad 147 [some (.ref 0), some (ji v1), some (ji v2), some (jl v3), none, some (ji v5), none] [] M (f_X11_snow_L147 n r49 v1 v2 v3 v5 M) := by
  unfold f_X11_snow_L147
  refine jo_iinc 5 d_X11_snow_147 rfl (Nat.le_of_ble_eq_true rfl) (fun y1 => ?_)
  refine jo_goto 49 d_X11_snow_150 (by decide) ?_
  exact jO.sub (hr49 v1 v2 v3 y1 M) (And.intro rfl (And.intro rfl (And.intro rfl (And.intro rfl (And.intro rfl True.intro)))))
def f_X11_snow_L153 (n : Nat) (v2 v3 : Int) (M : JMem) : Option (Int × JMem) := bnd (f_X11_power n 16 v2 M) fun r1 M2 => bnd (f_X11_tellFraction n v3 r1 M2) fun r3 M4 => chk (jw r3 = 0 ∨ jw r3 = 1) (some (r3, M4))
set_option maxRecDepth 4000 in
theorem t_X11_snow_L153 {g : JG} {ad : Nat → Nat} (hs : jStr g ad) (n : Nat) (v2 v3 : Int) (M : JMem) : jB g D_X11_snow ad 153 [some (.ref 0), none, some (ji v2), some (jl v3), none, none, none] [] M (f_X11_snow_L153 n v2 v3 M) := by
  unfold f_X11_snow_L153
  refine jo_aload 0 d_X11_snow_153 rfl rfl ?_
  refine jo_lload 3 d_X11_snow_154 rfl rfl ?_
  refine jo_ldc2 16 lc_X11_373 d_X11_snow_155 ?_
  refine jo_iload 2 d_X11_snow_158 rfl rfl ?_
  refine jo_callS (st := [jl v3, .ref 0]) (m_X11_power hs n 16 v2 M) ok_X11_power (And.intro (Nat.le_of_ble_eq_true rfl) (Nat.le_of_ble_eq_true rfl)) lm_X11_369 st_X11_power rfl (And.intro (Nat.zero_le _) (Nat.zero_le _)) rfl (Nat.le_of_ble_eq_true rfl) d_X11_snow_159 (fun r1 M2 => ?_)
  refine jo_callV (st := []) (m_X11_tellFraction hs n v3 r1 M2) ok_X11_tellFraction (And.intro (Nat.le_of_ble_eq_true rfl) (Nat.le_of_ble_eq_true rfl)) lm_X11_375 in_X11_tellFraction se_X11_tellFraction rfl kc_0 rfl rfl (And.intro (Nat.zero_le _) (Nat.zero_le _)) rfl (Nat.le_of_ble_eq_true rfl) d_X11_snow_162 (fun r3 M4 => ?_)
  exact jo_zretq rfl d_X11_snow_165
def f_X11_snow_L49 (n : Nat) : Nat → Int → Int → Int → Int → JMem → Option (Int × JMem)
  | 0, _, _, _, _, _ => none
  | k + 1, v1, v2, v3, v5, M => if jw (jshl 1 (M 40 1)) ≤ jw v5 then (f_X11_snow_L153 n v2 v3 M) else (if jw (jand v5 (M 52 4)) = 0 then (bnd (f_X8_soon n 40 (jor (M 52 4) v5) 0 0 v1 M) fun r1 M2 => if jw 64 < jw r1 then (f_X11_snow_L147 n (f_X11_snow_L49 n k) v1 v2 v3 v5 M2) else (bnd (f_J6_bitCount_0f7a4 n v5 M2) fun r3 M4 => letv r3 fun y5 => bnd (f_X11_power n (jw (M4 40 3)) y5 M4) fun r6 M7 => bnd (f_X11_power n (jw (16 - (M7 40 3))) (v2 - y5) M7) fun r8 M9 => letv (v3 + (r6 * r8)) fun y10 => f_X11_snow_L147 n (f_X11_snow_L49 n k) v1 v2 y10 v5 M9)) else (f_X11_snow_L147 n (f_X11_snow_L49 n k) v1 v2 v3 v5 M))
set_option maxRecDepth 4000 in
theorem t_X11_snow_L49 {g : JG} {ad : Nat → Nat} (hs : jStr g ad) (n : Nat) : ∀ (k : Nat) (v1 v2 v3 v5 : Int) (M : JMem), jB g D_X11_snow ad 49 [some (.ref 0), some (ji v1), some (ji v2), some (jl v3), none, some (ji v5), none] [] M (f_X11_snow_L49 n k v1 v2 v3 v5 M) := by
  intro k
  induction k with
  | zero => intro v1 v2 v3 v5 M; exact jO.none
  | succ k ih =>
    intro v1 v2 v3 v5 M
    rw [f_X11_snow_L49]
    refine jo_iloadW 5 d_X11_snow_49 rfl ?_
    refine jo_iconst 1 d_X11_snow_51 ?_
    refine jo_aload 0 d_X11_snow_52 rfl rfl ?_
    refine jo_getR (k := 7) cl_11 (Nat.le_of_ble_eq_true rfl) lk_X11_53 rfl kc_0 kr_0_7 d_X11_snow_53 ?_
    refine jo_getI (k := 1) cl_4 (Nat.le_of_ble_eq_true rfl) lk_X11_215 (Or.inl rfl) kc_40 d_X11_snow_56 ?_
    refine jo_ishl d_X11_snow_59 ?_
    refine jo_icmp_ge 153 d_X11_snow_60 (by decide) ?_ ?_
    · skip
      exact jO.sub (t_X11_snow_L153 hs n v2 v3 M) (And.intro rfl (And.intro rfl (And.intro rfl True.intro)))
    · skip
      refine jo_iloadW 5 d_X11_snow_63 rfl ?_
      refine jo_aload 0 d_X11_snow_65 rfl rfl ?_
      refine jo_getR (k := 8) cl_11 (Nat.le_of_ble_eq_true rfl) lk_X11_60 rfl kc_0 kr_0_8 d_X11_snow_66 ?_
      refine jo_getI (k := 4) cl_1 (Nat.le_of_ble_eq_true rfl) lk_X11_237 (Or.inl rfl) kc_52 d_X11_snow_69 ?_
      refine jo_iand d_X11_snow_72 ?_
      refine jo_if_ne 147 d_X11_snow_73 (by decide) ?_ ?_
      · skip
        exact jO.sub (t_X11_snow_L147 hs n (f_X11_snow_L49 n k) ih v1 v2 v3 v5 M) (And.intro rfl (And.intro rfl (And.intro rfl (And.intro rfl (And.intro rfl True.intro)))))
      · skip
        refine jo_aload 0 d_X11_snow_76 rfl rfl ?_
        refine jo_getR (k := 15) cl_11 (Nat.le_of_ble_eq_true rfl) lk_X11_92 rfl kc_0 kr_0_15 d_X11_snow_77 ?_
        refine jo_aload 0 d_X11_snow_80 rfl rfl ?_
        refine jo_getR (k := 7) cl_11 (Nat.le_of_ble_eq_true rfl) lk_X11_53 rfl kc_0 kr_0_7 d_X11_snow_81 ?_
        refine jo_aload 0 d_X11_snow_84 rfl rfl ?_
        refine jo_getR (k := 8) cl_11 (Nat.le_of_ble_eq_true rfl) lk_X11_60 rfl kc_0 kr_0_8 d_X11_snow_85 ?_
        refine jo_getI (k := 4) cl_1 (Nat.le_of_ble_eq_true rfl) lk_X11_237 (Or.inl rfl) kc_52 d_X11_snow_88 ?_
        refine jo_iloadW 5 d_X11_snow_91 rfl ?_
        refine jo_ior d_X11_snow_93 ?_
        refine jo_iconst 0 d_X11_snow_94 ?_
        refine jo_iconst 0 d_X11_snow_95 ?_
        refine jo_iload 1 d_X11_snow_96 rfl rfl ?_
        refine jo_callV (st := []) (m_X8_soon hs n 40 (jor (M 52 4) v5) 0 0 v1 kc_40 M) ok_X8_soon (And.intro (Nat.le_of_ble_eq_true rfl) (Nat.le_of_ble_eq_true rfl)) lm_X11_349 in_X8_soon se_X8_soon rfl kc_76 rfl rfl (And.intro (Nat.zero_le _) (Nat.zero_le _)) rfl (Nat.le_of_ble_eq_true rfl) d_X11_snow_97 (fun r1 M2 => ?_)
        refine jo_bipush 64 d_X11_snow_100 (by decide) ?_
        refine jo_icmp_gt 147 d_X11_snow_102 (by decide) ?_ ?_
        · skip
          exact jO.sub (t_X11_snow_L147 hs n (f_X11_snow_L49 n k) ih v1 v2 v3 v5 M2) (And.intro rfl (And.intro rfl (And.intro rfl (And.intro rfl (And.intro rfl True.intro)))))
        · skip
          refine jo_iloadW 5 d_X11_snow_105 rfl ?_
          refine jo_callS (st := []) (m_J6_bitCount_0f7a4 hs n v5 M2) ok_J6_bitCount_0f7a4 (And.intro (Nat.le_of_ble_eq_true rfl) (Nat.le_of_ble_eq_true rfl)) lm_X11_341 st_J6_bitCount_0f7a4 rfl (And.intro (Nat.zero_le _) (Nat.zero_le _)) rfl (Nat.le_of_ble_eq_true rfl) d_X11_snow_107 (fun r3 M4 => ?_)
          refine jo_istoreW 6 d_X11_snow_110 (Nat.le_of_ble_eq_true rfl) (fun y5 => ?_)
          refine jo_lload 3 d_X11_snow_112 rfl rfl ?_
          refine jo_aload 0 d_X11_snow_113 rfl rfl ?_
          refine jo_getR (k := 7) cl_11 (Nat.le_of_ble_eq_true rfl) lk_X11_53 rfl kc_0 kr_0_7 d_X11_snow_114 ?_
          refine jo_getI (k := 3) cl_4 (Nat.le_of_ble_eq_true rfl) lk_X11_218 (Or.inl rfl) kc_40 d_X11_snow_117 ?_
          refine jo_i2l d_X11_snow_120 ?_
          refine jo_iloadW 6 d_X11_snow_121 rfl ?_
          refine jo_callS (st := [jl v3]) (m_X11_power hs n (jw (M4 40 3)) y5 M4) ok_X11_power (And.intro (Nat.le_of_ble_eq_true rfl) (Nat.le_of_ble_eq_true rfl)) lm_X11_369 st_X11_power rfl (And.intro (Nat.zero_le _) (Nat.zero_le _)) rfl (Nat.le_of_ble_eq_true rfl) d_X11_snow_123 (fun r6 M7 => ?_)
          refine jo_bipush 16 d_X11_snow_126 (by decide) ?_
          refine jo_aload 0 d_X11_snow_128 rfl rfl ?_
          refine jo_getR (k := 7) cl_11 (Nat.le_of_ble_eq_true rfl) lk_X11_53 rfl kc_0 kr_0_7 d_X11_snow_129 ?_
          refine jo_getI (k := 3) cl_4 (Nat.le_of_ble_eq_true rfl) lk_X11_218 (Or.inl rfl) kc_40 d_X11_snow_132 ?_
          refine jo_isub d_X11_snow_135 ?_
          refine jo_i2l d_X11_snow_136 ?_
          refine jo_iload 2 d_X11_snow_137 rfl rfl ?_
          refine jo_iloadW 6 d_X11_snow_138 rfl ?_
          refine jo_isub d_X11_snow_140 ?_
          refine jo_callS (st := [jl r6, jl v3]) (m_X11_power hs n (jw (16 - (M7 40 3))) (v2 - y5) M7) ok_X11_power (And.intro (Nat.le_of_ble_eq_true rfl) (Nat.le_of_ble_eq_true rfl)) lm_X11_369 st_X11_power rfl (And.intro (Nat.zero_le _) (Nat.zero_le _)) rfl (Nat.le_of_ble_eq_true rfl) d_X11_snow_141 (fun r8 M9 => ?_)
          refine jo_lmul d_X11_snow_144 ?_
          refine jo_ladd d_X11_snow_145 ?_
          refine jo_lstore 3 d_X11_snow_146 rfl (Nat.le_of_ble_eq_true rfl) (fun y10 => ?_)
          exact jO.sub (t_X11_snow_L147 hs n (f_X11_snow_L49 n k) ih v1 v2 y10 v5 M9) (And.intro rfl (And.intro rfl (And.intro rfl (And.intro rfl (And.intro rfl True.intro)))))
def f_X11_snow (n : Nat) (x1 : Int) (M : JMem) : Option (Int × JMem) := bnd (f_X11_isPlace n x1 M) fun r1 M2 => if jw r1 = 0 then (bnd (f_X11_deny n 1 M2) fun r10 M11 => chk (jw r10 = 0 ∨ jw r10 = 1) (some (r10, M11))) else (bnd (f_X8_order n 40 M2) fun _ M4 => bnd (f_J6_bitCount_0f7a4 n (M4 52 4) M4) fun r5 M6 => letv ((M4 40 1) - r5) fun y7 => letv 0 fun y8 => letv 0 fun y9 => f_X11_snow_L49 n n x1 y7 y8 y9 M6)
set_option maxRecDepth 4000 in
theorem t_X11_snow {g : JG} {ad : Nat → Nat} (hs : jStr g ad) (n : Nat) (x1 : Int) (M : JMem) : jB g D_X11_snow ad 0 [some (.ref 0), some (ji x1), none, none, none, none, none] [] M (f_X11_snow n x1 M) := by
  unfold f_X11_snow
  refine jo_aload 0 d_X11_snow_0 rfl rfl ?_
  refine jo_iload 1 d_X11_snow_1 rfl rfl ?_
  refine jo_callV (st := []) (m_X11_isPlace hs n x1 M) ok_X11_isPlace (And.intro (Nat.le_of_ble_eq_true rfl) (Nat.le_of_ble_eq_true rfl)) lm_X11_289 in_X11_isPlace se_X11_isPlace rfl kc_0 rfl rfl (And.intro (Nat.zero_le _) (Nat.zero_le _)) rfl (Nat.le_of_ble_eq_true rfl) d_X11_snow_2 (fun r1 M2 => ?_)
  refine jo_if_ne 14 d_X11_snow_5 (by decide) ?_ ?_
  · skip
    refine jo_aload 0 d_X11_snow_14 rfl rfl ?_
    refine jo_getR (k := 15) cl_11 (Nat.le_of_ble_eq_true rfl) lk_X11_92 rfl kc_0 kr_0_15 d_X11_snow_15 ?_
    refine jo_aload 0 d_X11_snow_18 rfl rfl ?_
    refine jo_getR (k := 7) cl_11 (Nat.le_of_ble_eq_true rfl) lk_X11_53 rfl kc_0 kr_0_7 d_X11_snow_19 ?_
    refine jo_callV (st := []) (m_X8_order hs n 40 kc_40 M2) ok_X8_order (And.intro (Nat.le_of_ble_eq_true rfl) (Nat.le_of_ble_eq_true rfl)) lm_X11_346 in_X8_order se_X8_order rfl kc_76 rfl rfl (And.intro (Nat.zero_le _) (Nat.zero_le _)) rfl (Nat.le_of_ble_eq_true rfl) d_X11_snow_22 (fun _ M4 => ?_)
    refine jo_aload 0 d_X11_snow_25 rfl rfl ?_
    refine jo_getR (k := 7) cl_11 (Nat.le_of_ble_eq_true rfl) lk_X11_53 rfl kc_0 kr_0_7 d_X11_snow_26 ?_
    refine jo_getI (k := 1) cl_4 (Nat.le_of_ble_eq_true rfl) lk_X11_215 (Or.inl rfl) kc_40 d_X11_snow_29 ?_
    refine jo_aload 0 d_X11_snow_32 rfl rfl ?_
    refine jo_getR (k := 8) cl_11 (Nat.le_of_ble_eq_true rfl) lk_X11_60 rfl kc_0 kr_0_8 d_X11_snow_33 ?_
    refine jo_getI (k := 4) cl_1 (Nat.le_of_ble_eq_true rfl) lk_X11_237 (Or.inl rfl) kc_52 d_X11_snow_36 ?_
    refine jo_callS (st := [ji (M4 40 1)]) (m_J6_bitCount_0f7a4 hs n (M4 52 4) M4) ok_J6_bitCount_0f7a4 (And.intro (Nat.le_of_ble_eq_true rfl) (Nat.le_of_ble_eq_true rfl)) lm_X11_341 st_J6_bitCount_0f7a4 rfl (And.intro (Nat.zero_le _) (Nat.zero_le _)) rfl (Nat.le_of_ble_eq_true rfl) d_X11_snow_39 (fun r5 M6 => ?_)
    refine jo_isub d_X11_snow_42 ?_
    refine jo_istore 2 d_X11_snow_43 rfl (Nat.le_of_ble_eq_true rfl) (fun y7 => ?_)
    refine jo_lconst0 d_X11_snow_44 ?_
    refine jo_lstore 3 d_X11_snow_45 rfl (Nat.le_of_ble_eq_true rfl) (fun y8 => ?_)
    refine jo_iconst 0 d_X11_snow_46 ?_
    refine jo_istoreW 5 d_X11_snow_47 (Nat.le_of_ble_eq_true rfl) (fun y9 => ?_)
    exact jO.sub (t_X11_snow_L49 hs n n x1 y7 y8 y9 M6) (And.intro rfl (And.intro rfl (And.intro rfl (And.intro rfl (And.intro rfl True.intro)))))
  · skip
    refine jo_aload 0 d_X11_snow_8 rfl rfl ?_
    refine jo_iconst 1 d_X11_snow_9 ?_
    refine jo_callV (st := []) (m_X11_deny hs n 1 M2) ok_X11_deny (And.intro (Nat.le_of_ble_eq_true rfl) (Nat.le_of_ble_eq_true rfl)) lm_X11_124 in_X11_deny se_X11_deny rfl kc_0 rfl rfl (And.intro (Nat.zero_le _) (Nat.zero_le _)) rfl (Nat.le_of_ble_eq_true rfl) d_X11_snow_10 (fun r10 M11 => ?_)
    exact jo_zretq rfl d_X11_snow_13
theorem m_X11_snow {g : JG} {ad : Nat → Nat} (hs : jStr g ad) (n : Nat) (x1 : Int) (M : JMem) : jMet g jNN ad jR D_X11_snow yX11_snow [.ref 0, ji x1] M (f_X11_snow n x1 M) :=
  jMet.of (lo0 := [some (.ref 0), some (ji x1), none, none, none, none, none]) (by decide) rfl rfl (Nat.le_of_ble_eq_true rfl) (And.intro rfl (And.intro rfl True.intro)) (t_X11_snow hs n x1 M)
/-! CageLeave.soonest(III)I -/
def D_X11_soonest : JD := (RX11, cX11_soonest, 5, some .int, "soonest", { frames := 3, cells := 0, slots := 0, locals := 73 })
theorem ok_X11_soonest : jOk D_X11_soonest yX11_soonest 3 := ⟨jTW_mem (k := 1159) (by decide +kernel) rfl, jTW_mem (k := 135) (by decide +kernel) rfl, ⟨by decide +kernel, by decide +kernel⟩, by decide +kernel, rfl, rfl⟩
theorem in_X11_soonest : Cond.instanceMethod yX11_soonest ∈ jTW := jTW_mem (k := 1157) (by decide +kernel) rfl
theorem se_X11_soonest : Cond.selects yX11_soonest.cls yX11_soonest yX11_soonest ∈ jTW := jTW_mem (k := 1158) (by decide +kernel) rfl
theorem d_X11_soonest_0 : decode (D_X11_soonest).2.1 0 = .ok (.aload_n 0, 1) := by decide +kernel
theorem d_X11_soonest_1 : decode (D_X11_soonest).2.1 1 = .ok (.iload_n 1, 1) := by decide +kernel
theorem d_X11_soonest_2 : decode (D_X11_soonest).2.1 2 = .ok (.invokevirtual 289, 3) := by decide +kernel
theorem d_X11_soonest_5 : decode (D_X11_soonest).2.1 5 = .ok (.ifCond .eq 21, 3) := by decide +kernel
theorem d_X11_soonest_8 : decode (D_X11_soonest).2.1 8 = .ok (.aload_n 0, 1) := by decide +kernel
theorem d_X11_soonest_9 : decode (D_X11_soonest).2.1 9 = .ok (.iload_n 3, 1) := by decide +kernel
theorem d_X11_soonest_10 : decode (D_X11_soonest).2.1 10 = .ok (.invokevirtual 289, 3) := by decide +kernel
theorem d_X11_soonest_13 : decode (D_X11_soonest).2.1 13 = .ok (.ifCond .eq 13, 3) := by decide +kernel
theorem d_X11_soonest_16 : decode (D_X11_soonest).2.1 16 = .ok (.iload_n 2, 1) := by decide +kernel
theorem d_X11_soonest_17 : decode (D_X11_soonest).2.1 17 = .ok (.ifCond .lt 9, 3) := by decide +kernel
theorem d_X11_soonest_20 : decode (D_X11_soonest).2.1 20 = .ok (.iload_n 2, 1) := by decide +kernel
theorem d_X11_soonest_21 : decode (D_X11_soonest).2.1 21 = .ok (.bipush 64, 2) := by decide +kernel
theorem d_X11_soonest_23 : decode (D_X11_soonest).2.1 23 = .ok (.if_icmp .lt 9, 3) := by decide +kernel
theorem d_X11_soonest_26 : decode (D_X11_soonest).2.1 26 = .ok (.aload_n 0, 1) := by decide +kernel
theorem d_X11_soonest_27 : decode (D_X11_soonest).2.1 27 = .ok (.iconst 1, 1) := by decide +kernel
theorem d_X11_soonest_28 : decode (D_X11_soonest).2.1 28 = .ok (.invokevirtual 143, 3) := by decide +kernel
theorem d_X11_soonest_31 : decode (D_X11_soonest).2.1 31 = .ok (.ireturn, 1) := by decide +kernel
theorem d_X11_soonest_32 : decode (D_X11_soonest).2.1 32 = .ok (.aload_n 0, 1) := by decide +kernel
theorem d_X11_soonest_33 : decode (D_X11_soonest).2.1 33 = .ok (.getfield 92, 3) := by decide +kernel
theorem d_X11_soonest_36 : decode (D_X11_soonest).2.1 36 = .ok (.aload_n 0, 1) := by decide +kernel
theorem d_X11_soonest_37 : decode (D_X11_soonest).2.1 37 = .ok (.getfield 53, 3) := by decide +kernel
theorem d_X11_soonest_40 : decode (D_X11_soonest).2.1 40 = .ok (.invokevirtual 346, 3) := by decide +kernel
theorem d_X11_soonest_43 : decode (D_X11_soonest).2.1 43 = .ok (.aload_n 0, 1) := by decide +kernel
theorem d_X11_soonest_44 : decode (D_X11_soonest).2.1 44 = .ok (.getfield 92, 3) := by decide +kernel
theorem d_X11_soonest_47 : decode (D_X11_soonest).2.1 47 = .ok (.aload_n 0, 1) := by decide +kernel
theorem d_X11_soonest_48 : decode (D_X11_soonest).2.1 48 = .ok (.getfield 53, 3) := by decide +kernel
theorem d_X11_soonest_51 : decode (D_X11_soonest).2.1 51 = .ok (.aload_n 0, 1) := by decide +kernel
theorem d_X11_soonest_52 : decode (D_X11_soonest).2.1 52 = .ok (.getfield 60, 3) := by decide +kernel
theorem d_X11_soonest_55 : decode (D_X11_soonest).2.1 55 = .ok (.getfield 237, 3) := by decide +kernel
theorem d_X11_soonest_58 : decode (D_X11_soonest).2.1 58 = .ok (.iload_n 1, 1) := by decide +kernel
theorem d_X11_soonest_59 : decode (D_X11_soonest).2.1 59 = .ok (.iload_n 2, 1) := by decide +kernel
theorem d_X11_soonest_60 : decode (D_X11_soonest).2.1 60 = .ok (.iload_n 3, 1) := by decide +kernel
theorem d_X11_soonest_61 : decode (D_X11_soonest).2.1 61 = .ok (.invokevirtual 349, 3) := by decide +kernel
theorem d_X11_soonest_64 : decode (D_X11_soonest).2.1 64 = .ok (.istore 4, 2) := by decide +kernel
theorem d_X11_soonest_66 : decode (D_X11_soonest).2.1 66 = .ok (.iload 4, 2) := by decide +kernel
theorem d_X11_soonest_68 : decode (D_X11_soonest).2.1 68 = .ok (.bipush 64, 2) := by decide +kernel
theorem d_X11_soonest_70 : decode (D_X11_soonest).2.1 70 = .ok (.if_icmp .le 12, 3) := by decide +kernel
theorem d_X11_soonest_73 : decode (D_X11_soonest).2.1 73 = .ok (.aload_n 0, 1) := by decide +kernel
theorem d_X11_soonest_74 : decode (D_X11_soonest).2.1 74 = .ok (.bipush 6, 2) := by decide +kernel
theorem d_X11_soonest_76 : decode (D_X11_soonest).2.1 76 = .ok (.invokevirtual 143, 3) := by decide +kernel
theorem d_X11_soonest_79 : decode (D_X11_soonest).2.1 79 = .ok (.goto 9, 3) := by decide +kernel
theorem d_X11_soonest_82 : decode (D_X11_soonest).2.1 82 = .ok (.aload_n 0, 1) := by decide +kernel
theorem d_X11_soonest_83 : decode (D_X11_soonest).2.1 83 = .ok (.iload 4, 2) := by decide +kernel
theorem d_X11_soonest_85 : decode (D_X11_soonest).2.1 85 = .ok (.invokevirtual 193, 3) := by decide +kernel
theorem d_X11_soonest_88 : decode (D_X11_soonest).2.1 88 = .ok (.ireturn, 1) := by decide +kernel
def f_X11_soonest_L26 (n : Nat) (M : JMem) : Option (Int × JMem) := bnd (f_X11_refuse n 1 M) fun r1 M2 => some (r1, M2)
set_option maxRecDepth 4000 in
theorem t_X11_soonest_L26 {g : JG} {ad : Nat → Nat} (hs : jStr g ad) (n : Nat) (M : JMem) : jB g D_X11_soonest ad 26 [some (.ref 0), none, none, none, none] [] M (f_X11_soonest_L26 n M) := by
  unfold f_X11_soonest_L26
  refine jo_aload 0 d_X11_soonest_26 rfl rfl ?_
  refine jo_iconst 1 d_X11_soonest_27 ?_
  refine jo_callV (st := []) (m_X11_refuse hs n 1 M) ok_X11_refuse (And.intro (Nat.le_of_ble_eq_true rfl) (Nat.le_of_ble_eq_true rfl)) lm_X11_143 in_X11_refuse se_X11_refuse rfl kc_0 rfl rfl (And.intro (Nat.zero_le _) (Nat.zero_le _)) rfl (Nat.le_of_ble_eq_true rfl) d_X11_soonest_28 (fun r1 M2 => ?_)
  exact jo_iret rfl d_X11_soonest_31
def f_X11_soonest (n : Nat) (x1 : Int) (x2 : Int) (x3 : Int) (M : JMem) : Option (Int × JMem) := bnd (f_X11_isPlace n x1 M) fun r1 M2 => if jw r1 = 0 then (f_X11_soonest_L26 n M2) else (bnd (f_X11_isPlace n x3 M2) fun r3 M4 => if jw r3 = 0 then (f_X11_soonest_L26 n M4) else (if jw x2 < 0 then (f_X11_soonest_L26 n M4) else (if jw x2 < jw 64 then (bnd (f_X8_order n 40 M4) fun _ M6 => bnd (f_X8_soon n 40 (M6 52 4) x1 x2 x3 M6) fun r7 M8 => letv r7 fun y9 => if jw y9 ≤ jw 64 then (bnd (f_X11_answer n y9 M8) fun r10 M11 => some (r10, M11)) else (bnd (f_X11_refuse n 6 M8) fun r12 M13 => some (r12, M13))) else (f_X11_soonest_L26 n M4))))
set_option maxRecDepth 4000 in
theorem t_X11_soonest {g : JG} {ad : Nat → Nat} (hs : jStr g ad) (n : Nat) (x1 : Int) (x2 : Int) (x3 : Int) (M : JMem) : jB g D_X11_soonest ad 0 [some (.ref 0), some (ji x1), some (ji x2), some (ji x3), none] [] M (f_X11_soonest n x1 x2 x3 M) := by
  unfold f_X11_soonest
  refine jo_aload 0 d_X11_soonest_0 rfl rfl ?_
  refine jo_iload 1 d_X11_soonest_1 rfl rfl ?_
  refine jo_callV (st := []) (m_X11_isPlace hs n x1 M) ok_X11_isPlace (And.intro (Nat.le_of_ble_eq_true rfl) (Nat.le_of_ble_eq_true rfl)) lm_X11_289 in_X11_isPlace se_X11_isPlace rfl kc_0 rfl rfl (And.intro (Nat.zero_le _) (Nat.zero_le _)) rfl (Nat.le_of_ble_eq_true rfl) d_X11_soonest_2 (fun r1 M2 => ?_)
  refine jo_if_eq 26 d_X11_soonest_5 (by decide) ?_ ?_
  · skip
    exact jO.sub (t_X11_soonest_L26 hs n M2) (And.intro rfl True.intro)
  · skip
    refine jo_aload 0 d_X11_soonest_8 rfl rfl ?_
    refine jo_iload 3 d_X11_soonest_9 rfl rfl ?_
    refine jo_callV (st := []) (m_X11_isPlace hs n x3 M2) ok_X11_isPlace (And.intro (Nat.le_of_ble_eq_true rfl) (Nat.le_of_ble_eq_true rfl)) lm_X11_289 in_X11_isPlace se_X11_isPlace rfl kc_0 rfl rfl (And.intro (Nat.zero_le _) (Nat.zero_le _)) rfl (Nat.le_of_ble_eq_true rfl) d_X11_soonest_10 (fun r3 M4 => ?_)
    refine jo_if_eq 26 d_X11_soonest_13 (by decide) ?_ ?_
    · skip
      exact jO.sub (t_X11_soonest_L26 hs n M4) (And.intro rfl True.intro)
    · skip
      refine jo_iload 2 d_X11_soonest_16 rfl rfl ?_
      refine jo_if_lt 26 d_X11_soonest_17 (by decide) ?_ ?_
      · skip
        exact jO.sub (t_X11_soonest_L26 hs n M4) (And.intro rfl True.intro)
      · skip
        refine jo_iload 2 d_X11_soonest_20 rfl rfl ?_
        refine jo_bipush 64 d_X11_soonest_21 (by decide) ?_
        refine jo_icmp_lt 32 d_X11_soonest_23 (by decide) ?_ ?_
        · skip
          refine jo_aload 0 d_X11_soonest_32 rfl rfl ?_
          refine jo_getR (k := 15) cl_11 (Nat.le_of_ble_eq_true rfl) lk_X11_92 rfl kc_0 kr_0_15 d_X11_soonest_33 ?_
          refine jo_aload 0 d_X11_soonest_36 rfl rfl ?_
          refine jo_getR (k := 7) cl_11 (Nat.le_of_ble_eq_true rfl) lk_X11_53 rfl kc_0 kr_0_7 d_X11_soonest_37 ?_
          refine jo_callV (st := []) (m_X8_order hs n 40 kc_40 M4) ok_X8_order (And.intro (Nat.le_of_ble_eq_true rfl) (Nat.le_of_ble_eq_true rfl)) lm_X11_346 in_X8_order se_X8_order rfl kc_76 rfl rfl (And.intro (Nat.zero_le _) (Nat.zero_le _)) rfl (Nat.le_of_ble_eq_true rfl) d_X11_soonest_40 (fun _ M6 => ?_)
          refine jo_aload 0 d_X11_soonest_43 rfl rfl ?_
          refine jo_getR (k := 15) cl_11 (Nat.le_of_ble_eq_true rfl) lk_X11_92 rfl kc_0 kr_0_15 d_X11_soonest_44 ?_
          refine jo_aload 0 d_X11_soonest_47 rfl rfl ?_
          refine jo_getR (k := 7) cl_11 (Nat.le_of_ble_eq_true rfl) lk_X11_53 rfl kc_0 kr_0_7 d_X11_soonest_48 ?_
          refine jo_aload 0 d_X11_soonest_51 rfl rfl ?_
          refine jo_getR (k := 8) cl_11 (Nat.le_of_ble_eq_true rfl) lk_X11_60 rfl kc_0 kr_0_8 d_X11_soonest_52 ?_
          refine jo_getI (k := 4) cl_1 (Nat.le_of_ble_eq_true rfl) lk_X11_237 (Or.inl rfl) kc_52 d_X11_soonest_55 ?_
          refine jo_iload 1 d_X11_soonest_58 rfl rfl ?_
          refine jo_iload 2 d_X11_soonest_59 rfl rfl ?_
          refine jo_iload 3 d_X11_soonest_60 rfl rfl ?_
          refine jo_callV (st := []) (m_X8_soon hs n 40 (M6 52 4) x1 x2 x3 kc_40 M6) ok_X8_soon (And.intro (Nat.le_of_ble_eq_true rfl) (Nat.le_of_ble_eq_true rfl)) lm_X11_349 in_X8_soon se_X8_soon rfl kc_76 rfl rfl (And.intro (Nat.zero_le _) (Nat.zero_le _)) rfl (Nat.le_of_ble_eq_true rfl) d_X11_soonest_61 (fun r7 M8 => ?_)
          refine jo_istoreW 4 d_X11_soonest_64 (Nat.le_of_ble_eq_true rfl) (fun y9 => ?_)
          refine jo_iloadW 4 d_X11_soonest_66 rfl ?_
          refine jo_bipush 64 d_X11_soonest_68 (by decide) ?_
          refine jo_icmp_le 82 d_X11_soonest_70 (by decide) ?_ ?_
          · skip
            refine jo_aload 0 d_X11_soonest_82 rfl rfl ?_
            refine jo_iloadW 4 d_X11_soonest_83 rfl ?_
            refine jo_callV (st := []) (m_X11_answer hs n y9 M8) ok_X11_answer (And.intro (Nat.le_of_ble_eq_true rfl) (Nat.le_of_ble_eq_true rfl)) lm_X11_193 in_X11_answer se_X11_answer rfl kc_0 rfl rfl (And.intro (Nat.zero_le _) (Nat.zero_le _)) rfl (Nat.le_of_ble_eq_true rfl) d_X11_soonest_85 (fun r10 M11 => ?_)
            exact jo_iret rfl d_X11_soonest_88
          · skip
            refine jo_aload 0 d_X11_soonest_73 rfl rfl ?_
            refine jo_bipush 6 d_X11_soonest_74 (by decide) ?_
            refine jo_callV (st := []) (m_X11_refuse hs n 6 M8) ok_X11_refuse (And.intro (Nat.le_of_ble_eq_true rfl) (Nat.le_of_ble_eq_true rfl)) lm_X11_143 in_X11_refuse se_X11_refuse rfl kc_0 rfl rfl (And.intro (Nat.zero_le _) (Nat.zero_le _)) rfl (Nat.le_of_ble_eq_true rfl) d_X11_soonest_76 (fun r12 M13 => ?_)
            refine jo_goto 88 d_X11_soonest_79 (by decide) ?_
            exact jo_iret rfl d_X11_soonest_88
        · skip
          exact jO.sub (t_X11_soonest_L26 hs n M4) (And.intro rfl True.intro)
theorem m_X11_soonest {g : JG} {ad : Nat → Nat} (hs : jStr g ad) (n : Nat) (x1 : Int) (x2 : Int) (x3 : Int) (M : JMem) : jMet g jNN ad jR D_X11_soonest yX11_soonest [.ref 0, ji x1, ji x2, ji x3] M (f_X11_soonest n x1 x2 x3 M) :=
  jMet.of (lo0 := [some (.ref 0), some (ji x1), some (ji x2), some (ji x3), none]) (by decide) rfl rfl (Nat.le_of_ble_eq_true rfl) (And.intro rfl (And.intro rfl (And.intro rfl (And.intro rfl True.intro)))) (t_X11_soonest hs n x1 x2 x3 M)
/-! CageLeave.soonestBy(III)I -/
def D_X11_soonestBy : JD := (RX11, cX11_soonestBy, 5, some .int, "soonestBy", { frames := 5, cells := 0, slots := 0, locals := 125 })
theorem ok_X11_soonestBy : jOk D_X11_soonestBy yX11_soonestBy 3 := ⟨jTW_mem (k := 1176) (by decide +kernel) rfl, jTW_mem (k := 135) (by decide +kernel) rfl, ⟨by decide +kernel, by decide +kernel⟩, by decide +kernel, rfl, rfl⟩
theorem in_X11_soonestBy : Cond.instanceMethod yX11_soonestBy ∈ jTW := jTW_mem (k := 1174) (by decide +kernel) rfl
theorem se_X11_soonestBy : Cond.selects yX11_soonestBy.cls yX11_soonestBy yX11_soonestBy ∈ jTW := jTW_mem (k := 1175) (by decide +kernel) rfl
theorem lm_X11_353 : Cond.methodLink RX11 353 yX8_firstTrain ∈ jTW := jTW_mem (k := 1177) (by decide +kernel) rfl
theorem d_X11_soonestBy_0 : decode (D_X11_soonestBy).2.1 0 = .ok (.aload_n 0, 1) := by decide +kernel
theorem d_X11_soonestBy_1 : decode (D_X11_soonestBy).2.1 1 = .ok (.iload_n 1, 1) := by decide +kernel
theorem d_X11_soonestBy_2 : decode (D_X11_soonestBy).2.1 2 = .ok (.invokevirtual 289, 3) := by decide +kernel
theorem d_X11_soonestBy_5 : decode (D_X11_soonestBy).2.1 5 = .ok (.ifCond .eq 21, 3) := by decide +kernel
theorem d_X11_soonestBy_8 : decode (D_X11_soonestBy).2.1 8 = .ok (.aload_n 0, 1) := by decide +kernel
theorem d_X11_soonestBy_9 : decode (D_X11_soonestBy).2.1 9 = .ok (.iload_n 3, 1) := by decide +kernel
theorem d_X11_soonestBy_10 : decode (D_X11_soonestBy).2.1 10 = .ok (.invokevirtual 289, 3) := by decide +kernel
theorem d_X11_soonestBy_13 : decode (D_X11_soonestBy).2.1 13 = .ok (.ifCond .eq 13, 3) := by decide +kernel
theorem d_X11_soonestBy_16 : decode (D_X11_soonestBy).2.1 16 = .ok (.iload_n 2, 1) := by decide +kernel
theorem d_X11_soonestBy_17 : decode (D_X11_soonestBy).2.1 17 = .ok (.ifCond .lt 9, 3) := by decide +kernel
theorem d_X11_soonestBy_20 : decode (D_X11_soonestBy).2.1 20 = .ok (.iload_n 2, 1) := by decide +kernel
theorem d_X11_soonestBy_21 : decode (D_X11_soonestBy).2.1 21 = .ok (.bipush 64, 2) := by decide +kernel
theorem d_X11_soonestBy_23 : decode (D_X11_soonestBy).2.1 23 = .ok (.if_icmp .lt 9, 3) := by decide +kernel
theorem d_X11_soonestBy_26 : decode (D_X11_soonestBy).2.1 26 = .ok (.aload_n 0, 1) := by decide +kernel
theorem d_X11_soonestBy_27 : decode (D_X11_soonestBy).2.1 27 = .ok (.iconst 1, 1) := by decide +kernel
theorem d_X11_soonestBy_28 : decode (D_X11_soonestBy).2.1 28 = .ok (.invokevirtual 143, 3) := by decide +kernel
theorem d_X11_soonestBy_31 : decode (D_X11_soonestBy).2.1 31 = .ok (.ireturn, 1) := by decide +kernel
theorem d_X11_soonestBy_32 : decode (D_X11_soonestBy).2.1 32 = .ok (.iload_n 1, 1) := by decide +kernel
theorem d_X11_soonestBy_33 : decode (D_X11_soonestBy).2.1 33 = .ok (.iload_n 3, 1) := by decide +kernel
theorem d_X11_soonestBy_34 : decode (D_X11_soonestBy).2.1 34 = .ok (.if_icmp .ne 10, 3) := by decide +kernel
theorem d_X11_soonestBy_37 : decode (D_X11_soonestBy).2.1 37 = .ok (.aload_n 0, 1) := by decide +kernel
theorem d_X11_soonestBy_38 : decode (D_X11_soonestBy).2.1 38 = .ok (.bipush 7, 2) := by decide +kernel
theorem d_X11_soonestBy_40 : decode (D_X11_soonestBy).2.1 40 = .ok (.invokevirtual 143, 3) := by decide +kernel
theorem d_X11_soonestBy_43 : decode (D_X11_soonestBy).2.1 43 = .ok (.ireturn, 1) := by decide +kernel
theorem d_X11_soonestBy_44 : decode (D_X11_soonestBy).2.1 44 = .ok (.aload_n 0, 1) := by decide +kernel
theorem d_X11_soonestBy_45 : decode (D_X11_soonestBy).2.1 45 = .ok (.getfield 92, 3) := by decide +kernel
theorem d_X11_soonestBy_48 : decode (D_X11_soonestBy).2.1 48 = .ok (.aload_n 0, 1) := by decide +kernel
theorem d_X11_soonestBy_49 : decode (D_X11_soonestBy).2.1 49 = .ok (.getfield 53, 3) := by decide +kernel
theorem d_X11_soonestBy_52 : decode (D_X11_soonestBy).2.1 52 = .ok (.invokevirtual 346, 3) := by decide +kernel
theorem d_X11_soonestBy_55 : decode (D_X11_soonestBy).2.1 55 = .ok (.aload_n 0, 1) := by decide +kernel
theorem d_X11_soonestBy_56 : decode (D_X11_soonestBy).2.1 56 = .ok (.getfield 92, 3) := by decide +kernel
theorem d_X11_soonestBy_59 : decode (D_X11_soonestBy).2.1 59 = .ok (.aload_n 0, 1) := by decide +kernel
theorem d_X11_soonestBy_60 : decode (D_X11_soonestBy).2.1 60 = .ok (.getfield 53, 3) := by decide +kernel
theorem d_X11_soonestBy_63 : decode (D_X11_soonestBy).2.1 63 = .ok (.aload_n 0, 1) := by decide +kernel
theorem d_X11_soonestBy_64 : decode (D_X11_soonestBy).2.1 64 = .ok (.getfield 60, 3) := by decide +kernel
theorem d_X11_soonestBy_67 : decode (D_X11_soonestBy).2.1 67 = .ok (.getfield 237, 3) := by decide +kernel
theorem d_X11_soonestBy_70 : decode (D_X11_soonestBy).2.1 70 = .ok (.iload_n 1, 1) := by decide +kernel
theorem d_X11_soonestBy_71 : decode (D_X11_soonestBy).2.1 71 = .ok (.iload_n 2, 1) := by decide +kernel
theorem d_X11_soonestBy_72 : decode (D_X11_soonestBy).2.1 72 = .ok (.iload_n 3, 1) := by decide +kernel
theorem d_X11_soonestBy_73 : decode (D_X11_soonestBy).2.1 73 = .ok (.invokevirtual 353, 3) := by decide +kernel
theorem d_X11_soonestBy_76 : decode (D_X11_soonestBy).2.1 76 = .ok (.istore 4, 2) := by decide +kernel
theorem d_X11_soonestBy_78 : decode (D_X11_soonestBy).2.1 78 = .ok (.iload 4, 2) := by decide +kernel
theorem d_X11_soonestBy_80 : decode (D_X11_soonestBy).2.1 80 = .ok (.iconst (-1), 1) := by decide +kernel
theorem d_X11_soonestBy_81 : decode (D_X11_soonestBy).2.1 81 = .ok (.if_icmp .ne 12, 3) := by decide +kernel
theorem d_X11_soonestBy_84 : decode (D_X11_soonestBy).2.1 84 = .ok (.aload_n 0, 1) := by decide +kernel
theorem d_X11_soonestBy_85 : decode (D_X11_soonestBy).2.1 85 = .ok (.bipush 6, 2) := by decide +kernel
theorem d_X11_soonestBy_87 : decode (D_X11_soonestBy).2.1 87 = .ok (.invokevirtual 143, 3) := by decide +kernel
theorem d_X11_soonestBy_90 : decode (D_X11_soonestBy).2.1 90 = .ok (.goto 9, 3) := by decide +kernel
theorem d_X11_soonestBy_93 : decode (D_X11_soonestBy).2.1 93 = .ok (.aload_n 0, 1) := by decide +kernel
theorem d_X11_soonestBy_94 : decode (D_X11_soonestBy).2.1 94 = .ok (.iload 4, 2) := by decide +kernel
theorem d_X11_soonestBy_96 : decode (D_X11_soonestBy).2.1 96 = .ok (.invokevirtual 193, 3) := by decide +kernel
theorem d_X11_soonestBy_99 : decode (D_X11_soonestBy).2.1 99 = .ok (.ireturn, 1) := by decide +kernel
def f_X11_soonestBy_L26 (n : Nat) (M : JMem) : Option (Int × JMem) := bnd (f_X11_refuse n 1 M) fun r1 M2 => some (r1, M2)
set_option maxRecDepth 4000 in
theorem t_X11_soonestBy_L26 {g : JG} {ad : Nat → Nat} (hs : jStr g ad) (n : Nat) (M : JMem) : jB g D_X11_soonestBy ad 26 [some (.ref 0), none, none, none, none] [] M (f_X11_soonestBy_L26 n M) := by
  unfold f_X11_soonestBy_L26
  refine jo_aload 0 d_X11_soonestBy_26 rfl rfl ?_
  refine jo_iconst 1 d_X11_soonestBy_27 ?_
  refine jo_callV (st := []) (m_X11_refuse hs n 1 M) ok_X11_refuse (And.intro (Nat.le_of_ble_eq_true rfl) (Nat.le_of_ble_eq_true rfl)) lm_X11_143 in_X11_refuse se_X11_refuse rfl kc_0 rfl rfl (And.intro (Nat.zero_le _) (Nat.zero_le _)) rfl (Nat.le_of_ble_eq_true rfl) d_X11_soonestBy_28 (fun r1 M2 => ?_)
  exact jo_iret rfl d_X11_soonestBy_31
def f_X11_soonestBy (n : Nat) (x1 : Int) (x2 : Int) (x3 : Int) (M : JMem) : Option (Int × JMem) := bnd (f_X11_isPlace n x1 M) fun r1 M2 => if jw r1 = 0 then (f_X11_soonestBy_L26 n M2) else (bnd (f_X11_isPlace n x3 M2) fun r3 M4 => if jw r3 = 0 then (f_X11_soonestBy_L26 n M4) else (if jw x2 < 0 then (f_X11_soonestBy_L26 n M4) else (if jw x2 < jw 64 then (if jw x1 = jw x3 then (bnd (f_X11_refuse n 7 M4) fun r14 M15 => some (r14, M15)) else (bnd (f_X8_order n 40 M4) fun _ M6 => bnd (f_X8_firstTrain n 40 (M6 52 4) x1 x2 x3 M6) fun r7 M8 => letv r7 fun y9 => if jw y9 = jw (-1) then (bnd (f_X11_refuse n 6 M8) fun r12 M13 => some (r12, M13)) else (bnd (f_X11_answer n y9 M8) fun r10 M11 => some (r10, M11)))) else (f_X11_soonestBy_L26 n M4))))
set_option maxRecDepth 4000 in
theorem t_X11_soonestBy {g : JG} {ad : Nat → Nat} (hs : jStr g ad) (n : Nat) (x1 : Int) (x2 : Int) (x3 : Int) (M : JMem) : jB g D_X11_soonestBy ad 0 [some (.ref 0), some (ji x1), some (ji x2), some (ji x3), none] [] M (f_X11_soonestBy n x1 x2 x3 M) := by
  unfold f_X11_soonestBy
  refine jo_aload 0 d_X11_soonestBy_0 rfl rfl ?_
  refine jo_iload 1 d_X11_soonestBy_1 rfl rfl ?_
  refine jo_callV (st := []) (m_X11_isPlace hs n x1 M) ok_X11_isPlace (And.intro (Nat.le_of_ble_eq_true rfl) (Nat.le_of_ble_eq_true rfl)) lm_X11_289 in_X11_isPlace se_X11_isPlace rfl kc_0 rfl rfl (And.intro (Nat.zero_le _) (Nat.zero_le _)) rfl (Nat.le_of_ble_eq_true rfl) d_X11_soonestBy_2 (fun r1 M2 => ?_)
  refine jo_if_eq 26 d_X11_soonestBy_5 (by decide) ?_ ?_
  · skip
    exact jO.sub (t_X11_soonestBy_L26 hs n M2) (And.intro rfl True.intro)
  · skip
    refine jo_aload 0 d_X11_soonestBy_8 rfl rfl ?_
    refine jo_iload 3 d_X11_soonestBy_9 rfl rfl ?_
    refine jo_callV (st := []) (m_X11_isPlace hs n x3 M2) ok_X11_isPlace (And.intro (Nat.le_of_ble_eq_true rfl) (Nat.le_of_ble_eq_true rfl)) lm_X11_289 in_X11_isPlace se_X11_isPlace rfl kc_0 rfl rfl (And.intro (Nat.zero_le _) (Nat.zero_le _)) rfl (Nat.le_of_ble_eq_true rfl) d_X11_soonestBy_10 (fun r3 M4 => ?_)
    refine jo_if_eq 26 d_X11_soonestBy_13 (by decide) ?_ ?_
    · skip
      exact jO.sub (t_X11_soonestBy_L26 hs n M4) (And.intro rfl True.intro)
    · skip
      refine jo_iload 2 d_X11_soonestBy_16 rfl rfl ?_
      refine jo_if_lt 26 d_X11_soonestBy_17 (by decide) ?_ ?_
      · skip
        exact jO.sub (t_X11_soonestBy_L26 hs n M4) (And.intro rfl True.intro)
      · skip
        refine jo_iload 2 d_X11_soonestBy_20 rfl rfl ?_
        refine jo_bipush 64 d_X11_soonestBy_21 (by decide) ?_
        refine jo_icmp_lt 32 d_X11_soonestBy_23 (by decide) ?_ ?_
        · skip
          refine jo_iload 1 d_X11_soonestBy_32 rfl rfl ?_
          refine jo_iload 3 d_X11_soonestBy_33 rfl rfl ?_
          refine jo_icmp_ne 44 d_X11_soonestBy_34 (by decide) ?_ ?_
          · skip
            refine jo_aload 0 d_X11_soonestBy_44 rfl rfl ?_
            refine jo_getR (k := 15) cl_11 (Nat.le_of_ble_eq_true rfl) lk_X11_92 rfl kc_0 kr_0_15 d_X11_soonestBy_45 ?_
            refine jo_aload 0 d_X11_soonestBy_48 rfl rfl ?_
            refine jo_getR (k := 7) cl_11 (Nat.le_of_ble_eq_true rfl) lk_X11_53 rfl kc_0 kr_0_7 d_X11_soonestBy_49 ?_
            refine jo_callV (st := []) (m_X8_order hs n 40 kc_40 M4) ok_X8_order (And.intro (Nat.le_of_ble_eq_true rfl) (Nat.le_of_ble_eq_true rfl)) lm_X11_346 in_X8_order se_X8_order rfl kc_76 rfl rfl (And.intro (Nat.zero_le _) (Nat.zero_le _)) rfl (Nat.le_of_ble_eq_true rfl) d_X11_soonestBy_52 (fun _ M6 => ?_)
            refine jo_aload 0 d_X11_soonestBy_55 rfl rfl ?_
            refine jo_getR (k := 15) cl_11 (Nat.le_of_ble_eq_true rfl) lk_X11_92 rfl kc_0 kr_0_15 d_X11_soonestBy_56 ?_
            refine jo_aload 0 d_X11_soonestBy_59 rfl rfl ?_
            refine jo_getR (k := 7) cl_11 (Nat.le_of_ble_eq_true rfl) lk_X11_53 rfl kc_0 kr_0_7 d_X11_soonestBy_60 ?_
            refine jo_aload 0 d_X11_soonestBy_63 rfl rfl ?_
            refine jo_getR (k := 8) cl_11 (Nat.le_of_ble_eq_true rfl) lk_X11_60 rfl kc_0 kr_0_8 d_X11_soonestBy_64 ?_
            refine jo_getI (k := 4) cl_1 (Nat.le_of_ble_eq_true rfl) lk_X11_237 (Or.inl rfl) kc_52 d_X11_soonestBy_67 ?_
            refine jo_iload 1 d_X11_soonestBy_70 rfl rfl ?_
            refine jo_iload 2 d_X11_soonestBy_71 rfl rfl ?_
            refine jo_iload 3 d_X11_soonestBy_72 rfl rfl ?_
            refine jo_callV (st := []) (m_X8_firstTrain hs n 40 (M6 52 4) x1 x2 x3 kc_40 M6) ok_X8_firstTrain (And.intro (Nat.le_of_ble_eq_true rfl) (Nat.le_of_ble_eq_true rfl)) lm_X11_353 in_X8_firstTrain se_X8_firstTrain rfl kc_76 rfl rfl (And.intro (Nat.zero_le _) (Nat.zero_le _)) rfl (Nat.le_of_ble_eq_true rfl) d_X11_soonestBy_73 (fun r7 M8 => ?_)
            refine jo_istoreW 4 d_X11_soonestBy_76 (Nat.le_of_ble_eq_true rfl) (fun y9 => ?_)
            refine jo_iloadW 4 d_X11_soonestBy_78 rfl ?_
            refine jo_iconst (-1) d_X11_soonestBy_80 ?_
            refine jo_icmp_ne 93 d_X11_soonestBy_81 (by decide) ?_ ?_
            · skip
              refine jo_aload 0 d_X11_soonestBy_93 rfl rfl ?_
              refine jo_iloadW 4 d_X11_soonestBy_94 rfl ?_
              refine jo_callV (st := []) (m_X11_answer hs n y9 M8) ok_X11_answer (And.intro (Nat.le_of_ble_eq_true rfl) (Nat.le_of_ble_eq_true rfl)) lm_X11_193 in_X11_answer se_X11_answer rfl kc_0 rfl rfl (And.intro (Nat.zero_le _) (Nat.zero_le _)) rfl (Nat.le_of_ble_eq_true rfl) d_X11_soonestBy_96 (fun r10 M11 => ?_)
              exact jo_iret rfl d_X11_soonestBy_99
            · skip
              refine jo_aload 0 d_X11_soonestBy_84 rfl rfl ?_
              refine jo_bipush 6 d_X11_soonestBy_85 (by decide) ?_
              refine jo_callV (st := []) (m_X11_refuse hs n 6 M8) ok_X11_refuse (And.intro (Nat.le_of_ble_eq_true rfl) (Nat.le_of_ble_eq_true rfl)) lm_X11_143 in_X11_refuse se_X11_refuse rfl kc_0 rfl rfl (And.intro (Nat.zero_le _) (Nat.zero_le _)) rfl (Nat.le_of_ble_eq_true rfl) d_X11_soonestBy_87 (fun r12 M13 => ?_)
              refine jo_goto 99 d_X11_soonestBy_90 (by decide) ?_
              exact jo_iret rfl d_X11_soonestBy_99
          · skip
            refine jo_aload 0 d_X11_soonestBy_37 rfl rfl ?_
            refine jo_bipush 7 d_X11_soonestBy_38 (by decide) ?_
            refine jo_callV (st := []) (m_X11_refuse hs n 7 M4) ok_X11_refuse (And.intro (Nat.le_of_ble_eq_true rfl) (Nat.le_of_ble_eq_true rfl)) lm_X11_143 in_X11_refuse se_X11_refuse rfl kc_0 rfl rfl (And.intro (Nat.zero_le _) (Nat.zero_le _)) rfl (Nat.le_of_ble_eq_true rfl) d_X11_soonestBy_40 (fun r14 M15 => ?_)
            exact jo_iret rfl d_X11_soonestBy_43
        · skip
          exact jO.sub (t_X11_soonestBy_L26 hs n M4) (And.intro rfl True.intro)
theorem m_X11_soonestBy {g : JG} {ad : Nat → Nat} (hs : jStr g ad) (n : Nat) (x1 : Int) (x2 : Int) (x3 : Int) (M : JMem) : jMet g jNN ad jR D_X11_soonestBy yX11_soonestBy [.ref 0, ji x1, ji x2, ji x3] M (f_X11_soonestBy n x1 x2 x3 M) :=
  jMet.of (lo0 := [some (.ref 0), some (ji x1), some (ji x2), some (ji x3), none]) (by decide) rfl rfl (Nat.le_of_ble_eq_true rfl) (And.intro rfl (And.intro rfl (And.intro rfl (And.intro rfl True.intro)))) (t_X11_soonestBy hs n x1 x2 x3 M)
/-! CageLeave.status()I -/
def D_X11_status : JD := (RX11, cX11_status, 1, some .int, "status", { frames := 0, cells := 0, slots := 0, locals := 0 })
theorem ok_X11_status : jOk D_X11_status yX11_status 0 := ⟨jTW_mem (k := 671) (by decide +kernel) rfl, jTW_mem (k := 135) (by decide +kernel) rfl, ⟨by decide +kernel, by decide +kernel⟩, by decide +kernel, rfl, rfl⟩
theorem in_X11_status : Cond.instanceMethod yX11_status ∈ jTW := jTW_mem (k := 669) (by decide +kernel) rfl
theorem se_X11_status : Cond.selects yX11_status.cls yX11_status yX11_status ∈ jTW := jTW_mem (k := 670) (by decide +kernel) rfl
theorem d_X11_status_0 : decode (D_X11_status).2.1 0 = .ok (.aload_n 0, 1) := by decide +kernel
theorem d_X11_status_1 : decode (D_X11_status).2.1 1 = .ok (.getfield 9, 3) := by decide +kernel
theorem d_X11_status_4 : decode (D_X11_status).2.1 4 = .ok (.ireturn, 1) := by decide +kernel
def f_X11_status (n : Nat) (M : JMem) : Option (Int × JMem) := some ((M 0 0), M)
set_option maxRecDepth 4000 in
theorem t_X11_status {g : JG} {ad : Nat → Nat} (hs : jStr g ad) (n : Nat) (M : JMem) : jB g D_X11_status ad 0 [some (.ref 0)] [] M (f_X11_status n M) := by
  unfold f_X11_status
  refine jo_aload 0 d_X11_status_0 rfl rfl ?_
  refine jo_getI (k := 0) cl_11 (Nat.le_of_ble_eq_true rfl) lk_X11_9 (Or.inl rfl) kc_0 d_X11_status_1 ?_
  exact jo_iret rfl d_X11_status_4
theorem m_X11_status {g : JG} {ad : Nat → Nat} (hs : jStr g ad) (n : Nat) (M : JMem) : jMet g jNN ad jR D_X11_status yX11_status [.ref 0] M (f_X11_status n M) :=
  jMet.of (lo0 := [some (.ref 0)]) (by decide) rfl rfl (Nat.le_of_ble_eq_true rfl) (And.intro rfl True.intro) (t_X11_status hs n M)
/-! CageLeave.stay(I)I -/
def D_X11_stay : JD := (RX11, cX11_stay, 4, some .int, "stay", { frames := 5, cells := 0, slots := 0, locals := 125 })
theorem ok_X11_stay : jOk D_X11_stay yX11_stay 1 := ⟨jTW_mem (k := 1197) (by decide +kernel) rfl, jTW_mem (k := 135) (by decide +kernel) rfl, ⟨by decide +kernel, by decide +kernel⟩, by decide +kernel, rfl, rfl⟩
theorem in_X11_stay : Cond.instanceMethod yX11_stay ∈ jTW := jTW_mem (k := 1195) (by decide +kernel) rfl
theorem se_X11_stay : Cond.selects yX11_stay.cls yX11_stay yX11_stay ∈ jTW := jTW_mem (k := 1196) (by decide +kernel) rfl
theorem d_X11_stay_0 : decode (D_X11_stay).2.1 0 = .ok (.aload_n 0, 1) := by decide +kernel
theorem d_X11_stay_1 : decode (D_X11_stay).2.1 1 = .ok (.iload_n 1, 1) := by decide +kernel
theorem d_X11_stay_2 : decode (D_X11_stay).2.1 2 = .ok (.invokevirtual 289, 3) := by decide +kernel
theorem d_X11_stay_5 : decode (D_X11_stay).2.1 5 = .ok (.ifCond .eq 7, 3) := by decide +kernel
theorem d_X11_stay_8 : decode (D_X11_stay).2.1 8 = .ok (.iload_n 1, 1) := by decide +kernel
theorem d_X11_stay_9 : decode (D_X11_stay).2.1 9 = .ok (.ifCond .ne 9, 3) := by decide +kernel
theorem d_X11_stay_12 : decode (D_X11_stay).2.1 12 = .ok (.aload_n 0, 1) := by decide +kernel
theorem d_X11_stay_13 : decode (D_X11_stay).2.1 13 = .ok (.iconst 1, 1) := by decide +kernel
theorem d_X11_stay_14 : decode (D_X11_stay).2.1 14 = .ok (.invokevirtual 143, 3) := by decide +kernel
theorem d_X11_stay_17 : decode (D_X11_stay).2.1 17 = .ok (.ireturn, 1) := by decide +kernel
theorem d_X11_stay_18 : decode (D_X11_stay).2.1 18 = .ok (.aload_n 0, 1) := by decide +kernel
theorem d_X11_stay_19 : decode (D_X11_stay).2.1 19 = .ok (.getfield 92, 3) := by decide +kernel
theorem d_X11_stay_22 : decode (D_X11_stay).2.1 22 = .ok (.aload_n 0, 1) := by decide +kernel
theorem d_X11_stay_23 : decode (D_X11_stay).2.1 23 = .ok (.getfield 53, 3) := by decide +kernel
theorem d_X11_stay_26 : decode (D_X11_stay).2.1 26 = .ok (.invokevirtual 346, 3) := by decide +kernel
theorem d_X11_stay_29 : decode (D_X11_stay).2.1 29 = .ok (.aload_n 0, 1) := by decide +kernel
theorem d_X11_stay_30 : decode (D_X11_stay).2.1 30 = .ok (.getfield 92, 3) := by decide +kernel
theorem d_X11_stay_33 : decode (D_X11_stay).2.1 33 = .ok (.aload_n 0, 1) := by decide +kernel
theorem d_X11_stay_34 : decode (D_X11_stay).2.1 34 = .ok (.getfield 53, 3) := by decide +kernel
theorem d_X11_stay_37 : decode (D_X11_stay).2.1 37 = .ok (.aload_n 0, 1) := by decide +kernel
theorem d_X11_stay_38 : decode (D_X11_stay).2.1 38 = .ok (.getfield 60, 3) := by decide +kernel
theorem d_X11_stay_41 : decode (D_X11_stay).2.1 41 = .ok (.getfield 237, 3) := by decide +kernel
theorem d_X11_stay_44 : decode (D_X11_stay).2.1 44 = .ok (.iconst 0, 1) := by decide +kernel
theorem d_X11_stay_45 : decode (D_X11_stay).2.1 45 = .ok (.iconst 0, 1) := by decide +kernel
theorem d_X11_stay_46 : decode (D_X11_stay).2.1 46 = .ok (.iload_n 1, 1) := by decide +kernel
theorem d_X11_stay_47 : decode (D_X11_stay).2.1 47 = .ok (.invokevirtual 349, 3) := by decide +kernel
theorem d_X11_stay_50 : decode (D_X11_stay).2.1 50 = .ok (.istore_n 2, 1) := by decide +kernel
theorem d_X11_stay_51 : decode (D_X11_stay).2.1 51 = .ok (.aload_n 0, 1) := by decide +kernel
theorem d_X11_stay_52 : decode (D_X11_stay).2.1 52 = .ok (.getfield 92, 3) := by decide +kernel
theorem d_X11_stay_55 : decode (D_X11_stay).2.1 55 = .ok (.aload_n 0, 1) := by decide +kernel
theorem d_X11_stay_56 : decode (D_X11_stay).2.1 56 = .ok (.getfield 53, 3) := by decide +kernel
theorem d_X11_stay_59 : decode (D_X11_stay).2.1 59 = .ok (.aload_n 0, 1) := by decide +kernel
theorem d_X11_stay_60 : decode (D_X11_stay).2.1 60 = .ok (.getfield 60, 3) := by decide +kernel
theorem d_X11_stay_63 : decode (D_X11_stay).2.1 63 = .ok (.getfield 237, 3) := by decide +kernel
theorem d_X11_stay_66 : decode (D_X11_stay).2.1 66 = .ok (.iload_n 1, 1) := by decide +kernel
theorem d_X11_stay_67 : decode (D_X11_stay).2.1 67 = .ok (.iconst 0, 1) := by decide +kernel
theorem d_X11_stay_68 : decode (D_X11_stay).2.1 68 = .ok (.bipush 64, 2) := by decide +kernel
theorem d_X11_stay_70 : decode (D_X11_stay).2.1 70 = .ok (.invokevirtual 356, 3) := by decide +kernel
theorem d_X11_stay_73 : decode (D_X11_stay).2.1 73 = .ok (.istore_n 3, 1) := by decide +kernel
theorem d_X11_stay_74 : decode (D_X11_stay).2.1 74 = .ok (.iload_n 3, 1) := by decide +kernel
theorem d_X11_stay_75 : decode (D_X11_stay).2.1 75 = .ok (.iload_n 2, 1) := by decide +kernel
theorem d_X11_stay_76 : decode (D_X11_stay).2.1 76 = .ok (.if_icmp .ge 12, 3) := by decide +kernel
theorem d_X11_stay_79 : decode (D_X11_stay).2.1 79 = .ok (.aload_n 0, 1) := by decide +kernel
theorem d_X11_stay_80 : decode (D_X11_stay).2.1 80 = .ok (.bipush 6, 2) := by decide +kernel
theorem d_X11_stay_82 : decode (D_X11_stay).2.1 82 = .ok (.invokevirtual 143, 3) := by decide +kernel
theorem d_X11_stay_85 : decode (D_X11_stay).2.1 85 = .ok (.goto 10, 3) := by decide +kernel
theorem d_X11_stay_88 : decode (D_X11_stay).2.1 88 = .ok (.aload_n 0, 1) := by decide +kernel
theorem d_X11_stay_89 : decode (D_X11_stay).2.1 89 = .ok (.iload_n 3, 1) := by decide +kernel
theorem d_X11_stay_90 : decode (D_X11_stay).2.1 90 = .ok (.iload_n 2, 1) := by decide +kernel
theorem d_X11_stay_91 : decode (D_X11_stay).2.1 91 = .ok (.isub, 1) := by decide +kernel
theorem d_X11_stay_92 : decode (D_X11_stay).2.1 92 = .ok (.invokevirtual 193, 3) := by decide +kernel
theorem d_X11_stay_95 : decode (D_X11_stay).2.1 95 = .ok (.ireturn, 1) := by decide +kernel
def f_X11_stay_L12 (n : Nat) (M : JMem) : Option (Int × JMem) := bnd (f_X11_refuse n 1 M) fun r1 M2 => some (r1, M2)
set_option maxRecDepth 4000 in
theorem t_X11_stay_L12 {g : JG} {ad : Nat → Nat} (hs : jStr g ad) (n : Nat) (M : JMem) : jB g D_X11_stay ad 12 [some (.ref 0), none, none, none] [] M (f_X11_stay_L12 n M) := by
  unfold f_X11_stay_L12
  refine jo_aload 0 d_X11_stay_12 rfl rfl ?_
  refine jo_iconst 1 d_X11_stay_13 ?_
  refine jo_callV (st := []) (m_X11_refuse hs n 1 M) ok_X11_refuse (And.intro (Nat.le_of_ble_eq_true rfl) (Nat.le_of_ble_eq_true rfl)) lm_X11_143 in_X11_refuse se_X11_refuse rfl kc_0 rfl rfl (And.intro (Nat.zero_le _) (Nat.zero_le _)) rfl (Nat.le_of_ble_eq_true rfl) d_X11_stay_14 (fun r1 M2 => ?_)
  exact jo_iret rfl d_X11_stay_17
def f_X11_stay (n : Nat) (x1 : Int) (M : JMem) : Option (Int × JMem) := bnd (f_X11_isPlace n x1 M) fun r1 M2 => if jw r1 = 0 then (f_X11_stay_L12 n M2) else (if jw x1 = 0 then (f_X11_stay_L12 n M2) else (bnd (f_X8_order n 40 M2) fun _ M4 => bnd (f_X8_soon n 40 (M4 52 4) 0 0 x1 M4) fun r5 M6 => letv r5 fun y7 => bnd (f_X8_lastStart n 40 (M6 52 4) x1 0 64 M6) fun r8 M9 => letv r8 fun y10 => if jw y7 ≤ jw y10 then (bnd (f_X11_answer n (y10 - y7) M9) fun r11 M12 => some (r11, M12)) else (bnd (f_X11_refuse n 6 M9) fun r13 M14 => some (r13, M14))))
set_option maxRecDepth 4000 in
theorem t_X11_stay {g : JG} {ad : Nat → Nat} (hs : jStr g ad) (n : Nat) (x1 : Int) (M : JMem) : jB g D_X11_stay ad 0 [some (.ref 0), some (ji x1), none, none] [] M (f_X11_stay n x1 M) := by
  unfold f_X11_stay
  refine jo_aload 0 d_X11_stay_0 rfl rfl ?_
  refine jo_iload 1 d_X11_stay_1 rfl rfl ?_
  refine jo_callV (st := []) (m_X11_isPlace hs n x1 M) ok_X11_isPlace (And.intro (Nat.le_of_ble_eq_true rfl) (Nat.le_of_ble_eq_true rfl)) lm_X11_289 in_X11_isPlace se_X11_isPlace rfl kc_0 rfl rfl (And.intro (Nat.zero_le _) (Nat.zero_le _)) rfl (Nat.le_of_ble_eq_true rfl) d_X11_stay_2 (fun r1 M2 => ?_)
  refine jo_if_eq 12 d_X11_stay_5 (by decide) ?_ ?_
  · skip
    exact jO.sub (t_X11_stay_L12 hs n M2) (And.intro rfl True.intro)
  · skip
    refine jo_iload 1 d_X11_stay_8 rfl rfl ?_
    refine jo_if_ne 18 d_X11_stay_9 (by decide) ?_ ?_
    · skip
      refine jo_aload 0 d_X11_stay_18 rfl rfl ?_
      refine jo_getR (k := 15) cl_11 (Nat.le_of_ble_eq_true rfl) lk_X11_92 rfl kc_0 kr_0_15 d_X11_stay_19 ?_
      refine jo_aload 0 d_X11_stay_22 rfl rfl ?_
      refine jo_getR (k := 7) cl_11 (Nat.le_of_ble_eq_true rfl) lk_X11_53 rfl kc_0 kr_0_7 d_X11_stay_23 ?_
      refine jo_callV (st := []) (m_X8_order hs n 40 kc_40 M2) ok_X8_order (And.intro (Nat.le_of_ble_eq_true rfl) (Nat.le_of_ble_eq_true rfl)) lm_X11_346 in_X8_order se_X8_order rfl kc_76 rfl rfl (And.intro (Nat.zero_le _) (Nat.zero_le _)) rfl (Nat.le_of_ble_eq_true rfl) d_X11_stay_26 (fun _ M4 => ?_)
      refine jo_aload 0 d_X11_stay_29 rfl rfl ?_
      refine jo_getR (k := 15) cl_11 (Nat.le_of_ble_eq_true rfl) lk_X11_92 rfl kc_0 kr_0_15 d_X11_stay_30 ?_
      refine jo_aload 0 d_X11_stay_33 rfl rfl ?_
      refine jo_getR (k := 7) cl_11 (Nat.le_of_ble_eq_true rfl) lk_X11_53 rfl kc_0 kr_0_7 d_X11_stay_34 ?_
      refine jo_aload 0 d_X11_stay_37 rfl rfl ?_
      refine jo_getR (k := 8) cl_11 (Nat.le_of_ble_eq_true rfl) lk_X11_60 rfl kc_0 kr_0_8 d_X11_stay_38 ?_
      refine jo_getI (k := 4) cl_1 (Nat.le_of_ble_eq_true rfl) lk_X11_237 (Or.inl rfl) kc_52 d_X11_stay_41 ?_
      refine jo_iconst 0 d_X11_stay_44 ?_
      refine jo_iconst 0 d_X11_stay_45 ?_
      refine jo_iload 1 d_X11_stay_46 rfl rfl ?_
      refine jo_callV (st := []) (m_X8_soon hs n 40 (M4 52 4) 0 0 x1 kc_40 M4) ok_X8_soon (And.intro (Nat.le_of_ble_eq_true rfl) (Nat.le_of_ble_eq_true rfl)) lm_X11_349 in_X8_soon se_X8_soon rfl kc_76 rfl rfl (And.intro (Nat.zero_le _) (Nat.zero_le _)) rfl (Nat.le_of_ble_eq_true rfl) d_X11_stay_47 (fun r5 M6 => ?_)
      refine jo_istore 2 d_X11_stay_50 rfl (Nat.le_of_ble_eq_true rfl) (fun y7 => ?_)
      refine jo_aload 0 d_X11_stay_51 rfl rfl ?_
      refine jo_getR (k := 15) cl_11 (Nat.le_of_ble_eq_true rfl) lk_X11_92 rfl kc_0 kr_0_15 d_X11_stay_52 ?_
      refine jo_aload 0 d_X11_stay_55 rfl rfl ?_
      refine jo_getR (k := 7) cl_11 (Nat.le_of_ble_eq_true rfl) lk_X11_53 rfl kc_0 kr_0_7 d_X11_stay_56 ?_
      refine jo_aload 0 d_X11_stay_59 rfl rfl ?_
      refine jo_getR (k := 8) cl_11 (Nat.le_of_ble_eq_true rfl) lk_X11_60 rfl kc_0 kr_0_8 d_X11_stay_60 ?_
      refine jo_getI (k := 4) cl_1 (Nat.le_of_ble_eq_true rfl) lk_X11_237 (Or.inl rfl) kc_52 d_X11_stay_63 ?_
      refine jo_iload 1 d_X11_stay_66 rfl rfl ?_
      refine jo_iconst 0 d_X11_stay_67 ?_
      refine jo_bipush 64 d_X11_stay_68 (by decide) ?_
      refine jo_callV (st := []) (m_X8_lastStart hs n 40 (M6 52 4) x1 0 64 kc_40 M6) ok_X8_lastStart (And.intro (Nat.le_of_ble_eq_true rfl) (Nat.le_of_ble_eq_true rfl)) lm_X11_356 in_X8_lastStart se_X8_lastStart rfl kc_76 rfl rfl (And.intro (Nat.zero_le _) (Nat.zero_le _)) rfl (Nat.le_of_ble_eq_true rfl) d_X11_stay_70 (fun r8 M9 => ?_)
      refine jo_istore 3 d_X11_stay_73 rfl (Nat.le_of_ble_eq_true rfl) (fun y10 => ?_)
      refine jo_iload 3 d_X11_stay_74 rfl rfl ?_
      refine jo_iload 2 d_X11_stay_75 rfl rfl ?_
      refine jo_icmp_ge 88 d_X11_stay_76 (by decide) ?_ ?_
      · skip
        refine jo_aload 0 d_X11_stay_88 rfl rfl ?_
        refine jo_iload 3 d_X11_stay_89 rfl rfl ?_
        refine jo_iload 2 d_X11_stay_90 rfl rfl ?_
        refine jo_isub d_X11_stay_91 ?_
        refine jo_callV (st := []) (m_X11_answer hs n (y10 - y7) M9) ok_X11_answer (And.intro (Nat.le_of_ble_eq_true rfl) (Nat.le_of_ble_eq_true rfl)) lm_X11_193 in_X11_answer se_X11_answer rfl kc_0 rfl rfl (And.intro (Nat.zero_le _) (Nat.zero_le _)) rfl (Nat.le_of_ble_eq_true rfl) d_X11_stay_92 (fun r11 M12 => ?_)
        exact jo_iret rfl d_X11_stay_95
      · skip
        refine jo_aload 0 d_X11_stay_79 rfl rfl ?_
        refine jo_bipush 6 d_X11_stay_80 (by decide) ?_
        refine jo_callV (st := []) (m_X11_refuse hs n 6 M9) ok_X11_refuse (And.intro (Nat.le_of_ble_eq_true rfl) (Nat.le_of_ble_eq_true rfl)) lm_X11_143 in_X11_refuse se_X11_refuse rfl kc_0 rfl rfl (And.intro (Nat.zero_le _) (Nat.zero_le _)) rfl (Nat.le_of_ble_eq_true rfl) d_X11_stay_82 (fun r13 M14 => ?_)
        refine jo_goto 95 d_X11_stay_85 (by decide) ?_
        exact jo_iret rfl d_X11_stay_95
    · skip
      exact jO.sub (t_X11_stay_L12 hs n M2) (And.intro rfl True.intro)
theorem m_X11_stay {g : JG} {ad : Nat → Nat} (hs : jStr g ad) (n : Nat) (x1 : Int) (M : JMem) : jMet g jNN ad jR D_X11_stay yX11_stay [.ref 0, ji x1] M (f_X11_stay n x1 M) :=
  jMet.of (lo0 := [some (.ref 0), some (ji x1), none, none]) (by decide) rfl rfl (Nat.le_of_ble_eq_true rfl) (And.intro rfl (And.intro rfl True.intro)) (t_X11_stay hs n x1 M)
/-! CageLeave.sure(III)I -/
def D_X11_sure : JD := (RX11, cX11_sure, 8, some .int, "sure", { frames := 6, cells := 0, slots := 0, locals := 152 })
theorem ok_X11_sure : jOk D_X11_sure yX11_sure 3 := ⟨jTW_mem (k := 1298) (by decide +kernel) rfl, jTW_mem (k := 135) (by decide +kernel) rfl, ⟨by decide +kernel, by decide +kernel⟩, by decide +kernel, rfl, rfl⟩
theorem in_X11_sure : Cond.instanceMethod yX11_sure ∈ jTW := jTW_mem (k := 1296) (by decide +kernel) rfl
theorem se_X11_sure : Cond.selects yX11_sure.cls yX11_sure yX11_sure ∈ jTW := jTW_mem (k := 1297) (by decide +kernel) rfl
theorem d_X11_sure_0 : decode (D_X11_sure).2.1 0 = .ok (.aload_n 0, 1) := by decide +kernel
theorem d_X11_sure_1 : decode (D_X11_sure).2.1 1 = .ok (.iload_n 1, 1) := by decide +kernel
theorem d_X11_sure_2 : decode (D_X11_sure).2.1 2 = .ok (.iload_n 2, 1) := by decide +kernel
theorem d_X11_sure_3 : decode (D_X11_sure).2.1 3 = .ok (.iload_n 3, 1) := by decide +kernel
theorem d_X11_sure_4 : decode (D_X11_sure).2.1 4 = .ok (.invokevirtual 392, 3) := by decide +kernel
theorem d_X11_sure_7 : decode (D_X11_sure).2.1 7 = .ok (.istore 4, 2) := by decide +kernel
theorem d_X11_sure_9 : decode (D_X11_sure).2.1 9 = .ok (.iload 4, 2) := by decide +kernel
theorem d_X11_sure_11 : decode (D_X11_sure).2.1 11 = .ok (.ifCond .eq 10, 3) := by decide +kernel
theorem d_X11_sure_14 : decode (D_X11_sure).2.1 14 = .ok (.aload_n 0, 1) := by decide +kernel
theorem d_X11_sure_15 : decode (D_X11_sure).2.1 15 = .ok (.iload 4, 2) := by decide +kernel
theorem d_X11_sure_17 : decode (D_X11_sure).2.1 17 = .ok (.invokevirtual 143, 3) := by decide +kernel
theorem d_X11_sure_20 : decode (D_X11_sure).2.1 20 = .ok (.ireturn, 1) := by decide +kernel
theorem d_X11_sure_21 : decode (D_X11_sure).2.1 21 = .ok (.iconst 0, 1) := by decide +kernel
theorem d_X11_sure_22 : decode (D_X11_sure).2.1 22 = .ok (.istore 5, 2) := by decide +kernel
theorem d_X11_sure_24 : decode (D_X11_sure).2.1 24 = .ok (.iconst 1, 1) := by decide +kernel
theorem d_X11_sure_25 : decode (D_X11_sure).2.1 25 = .ok (.aload_n 0, 1) := by decide +kernel
theorem d_X11_sure_26 : decode (D_X11_sure).2.1 26 = .ok (.getfield 53, 3) := by decide +kernel
theorem d_X11_sure_29 : decode (D_X11_sure).2.1 29 = .ok (.getfield 190, 3) := by decide +kernel
theorem d_X11_sure_32 : decode (D_X11_sure).2.1 32 = .ok (.ishl, 1) := by decide +kernel
theorem d_X11_sure_33 : decode (D_X11_sure).2.1 33 = .ok (.iconst 1, 1) := by decide +kernel
theorem d_X11_sure_34 : decode (D_X11_sure).2.1 34 = .ok (.isub, 1) := by decide +kernel
theorem d_X11_sure_35 : decode (D_X11_sure).2.1 35 = .ok (.istore 6, 2) := by decide +kernel
theorem d_X11_sure_37 : decode (D_X11_sure).2.1 37 = .ok (.iconst 0, 1) := by decide +kernel
theorem d_X11_sure_38 : decode (D_X11_sure).2.1 38 = .ok (.istore 7, 2) := by decide +kernel
theorem d_X11_sure_40 : decode (D_X11_sure).2.1 40 = .ok (.iload 7, 2) := by decide +kernel
theorem d_X11_sure_42 : decode (D_X11_sure).2.1 42 = .ok (.iconst 1, 1) := by decide +kernel
theorem d_X11_sure_43 : decode (D_X11_sure).2.1 43 = .ok (.aload_n 0, 1) := by decide +kernel
theorem d_X11_sure_44 : decode (D_X11_sure).2.1 44 = .ok (.getfield 53, 3) := by decide +kernel
theorem d_X11_sure_47 : decode (D_X11_sure).2.1 47 = .ok (.getfield 190, 3) := by decide +kernel
theorem d_X11_sure_50 : decode (D_X11_sure).2.1 50 = .ok (.ishl, 1) := by decide +kernel
theorem d_X11_sure_51 : decode (D_X11_sure).2.1 51 = .ok (.if_icmp .ge 29, 3) := by decide +kernel
theorem d_X11_sure_54 : decode (D_X11_sure).2.1 54 = .ok (.aload_n 0, 1) := by decide +kernel
theorem d_X11_sure_55 : decode (D_X11_sure).2.1 55 = .ok (.iload 7, 2) := by decide +kernel
theorem d_X11_sure_57 : decode (D_X11_sure).2.1 57 = .ok (.iload_n 3, 1) := by decide +kernel
theorem d_X11_sure_58 : decode (D_X11_sure).2.1 58 = .ok (.invokevirtual 396, 3) := by decide +kernel
theorem d_X11_sure_61 : decode (D_X11_sure).2.1 61 = .ok (.ifCond .eq 13, 3) := by decide +kernel
theorem d_X11_sure_64 : decode (D_X11_sure).2.1 64 = .ok (.iconst 1, 1) := by decide +kernel
theorem d_X11_sure_65 : decode (D_X11_sure).2.1 65 = .ok (.istore 5, 2) := by decide +kernel
theorem d_X11_sure_67 : decode (D_X11_sure).2.1 67 = .ok (.iload 6, 2) := by decide +kernel
theorem d_X11_sure_69 : decode (D_X11_sure).2.1 69 = .ok (.iload 7, 2) := by decide +kernel
theorem d_X11_sure_71 : decode (D_X11_sure).2.1 71 = .ok (.iand, 1) := by decide +kernel
theorem d_X11_sure_72 : decode (D_X11_sure).2.1 72 = .ok (.istore 6, 2) := by decide +kernel
theorem d_X11_sure_74 : decode (D_X11_sure).2.1 74 = .ok (.iinc 7 1, 3) := by decide +kernel
theorem d_X11_sure_77 : decode (D_X11_sure).2.1 77 = .ok (.goto (-37), 3) := by decide +kernel
theorem d_X11_sure_80 : decode (D_X11_sure).2.1 80 = .ok (.iload 5, 2) := by decide +kernel
theorem d_X11_sure_82 : decode (D_X11_sure).2.1 82 = .ok (.ifCond .eq 12, 3) := by decide +kernel
theorem d_X11_sure_85 : decode (D_X11_sure).2.1 85 = .ok (.aload_n 0, 1) := by decide +kernel
theorem d_X11_sure_86 : decode (D_X11_sure).2.1 86 = .ok (.iload 6, 2) := by decide +kernel
theorem d_X11_sure_88 : decode (D_X11_sure).2.1 88 = .ok (.invokevirtual 193, 3) := by decide +kernel
theorem d_X11_sure_91 : decode (D_X11_sure).2.1 91 = .ok (.goto 9, 3) := by decide +kernel
theorem d_X11_sure_94 : decode (D_X11_sure).2.1 94 = .ok (.aload_n 0, 1) := by decide +kernel
theorem d_X11_sure_95 : decode (D_X11_sure).2.1 95 = .ok (.bipush 6, 2) := by decide +kernel
theorem d_X11_sure_97 : decode (D_X11_sure).2.1 97 = .ok (.invokevirtual 143, 3) := by decide +kernel
theorem d_X11_sure_100 : decode (D_X11_sure).2.1 100 = .ok (.ireturn, 1) := by decide +kernel
def f_X11_sure_L74 (n : Nat) (r40 : Int → Int → Int → Int → JMem → Option (Int × JMem)) (v3 v5 v6 v7 : Int) (M : JMem) : Option (Int × JMem) := letv (v7 + 1) fun y1 => r40 v3 v5 v6 y1 M
set_option maxRecDepth 4000 in
theorem t_X11_sure_L74 {g : JG} {ad : Nat → Nat} (hs : jStr g ad) (n : Nat) (r40 : Int → Int → Int → Int → JMem → Option (Int × JMem)) (hr40 : ∀ (v3 v5 v6 v7 : Int) (M : JMem), jB g D_X11_sure ad 40 [some (.ref 0), none, none, some (ji v3), none, some (ji v5), some (ji v6), some (ji v7)] [] M (r40 v3 v5 v6 v7 M)) (v3 v5 v6 v7 : Int) (M : JMem) : jB g D_X11_sure ad 74 [some (.ref 0), none, none, some (ji v3), none, some (ji v5), some (ji v6), some (ji v7)] [] M (f_X11_sure_L74 n r40 v3 v5 v6 v7 M) := by
  unfold f_X11_sure_L74
  refine jo_iinc 7 d_X11_sure_74 rfl (Nat.le_of_ble_eq_true rfl) (fun y1 => ?_)
  refine jo_goto 40 d_X11_sure_77 (by decide) ?_
  exact jO.sub (hr40 v3 v5 v6 y1 M) (And.intro rfl (And.intro rfl (And.intro rfl (And.intro rfl (And.intro rfl True.intro)))))
def f_X11_sure_L80 (n : Nat) (v5 v6 : Int) (M : JMem) : Option (Int × JMem) := if jw v5 = 0 then (bnd (f_X11_refuse n 6 M) fun r1 M2 => some (r1, M2)) else (bnd (f_X11_answer n v6 M) fun r3 M4 => some (r3, M4))
set_option maxRecDepth 4000 in
theorem t_X11_sure_L80 {g : JG} {ad : Nat → Nat} (hs : jStr g ad) (n : Nat) (v5 v6 : Int) (M : JMem) : jB g D_X11_sure ad 80 [some (.ref 0), none, none, none, none, some (ji v5), some (ji v6), none] [] M (f_X11_sure_L80 n v5 v6 M) := by
  unfold f_X11_sure_L80
  refine jo_iloadW 5 d_X11_sure_80 rfl ?_
  refine jo_if_eq 94 d_X11_sure_82 (by decide) ?_ ?_
  · skip
    refine jo_aload 0 d_X11_sure_94 rfl rfl ?_
    refine jo_bipush 6 d_X11_sure_95 (by decide) ?_
    refine jo_callV (st := []) (m_X11_refuse hs n 6 M) ok_X11_refuse (And.intro (Nat.le_of_ble_eq_true rfl) (Nat.le_of_ble_eq_true rfl)) lm_X11_143 in_X11_refuse se_X11_refuse rfl kc_0 rfl rfl (And.intro (Nat.zero_le _) (Nat.zero_le _)) rfl (Nat.le_of_ble_eq_true rfl) d_X11_sure_97 (fun r1 M2 => ?_)
    exact jo_iret rfl d_X11_sure_100
  · skip
    refine jo_aload 0 d_X11_sure_85 rfl rfl ?_
    refine jo_iloadW 6 d_X11_sure_86 rfl ?_
    refine jo_callV (st := []) (m_X11_answer hs n v6 M) ok_X11_answer (And.intro (Nat.le_of_ble_eq_true rfl) (Nat.le_of_ble_eq_true rfl)) lm_X11_193 in_X11_answer se_X11_answer rfl kc_0 rfl rfl (And.intro (Nat.zero_le _) (Nat.zero_le _)) rfl (Nat.le_of_ble_eq_true rfl) d_X11_sure_88 (fun r3 M4 => ?_)
    refine jo_goto 100 d_X11_sure_91 (by decide) ?_
    exact jo_iret rfl d_X11_sure_100
def f_X11_sure_L40 (n : Nat) : Nat → Int → Int → Int → Int → JMem → Option (Int × JMem)
  | 0, _, _, _, _, _ => none
  | k + 1, v3, v5, v6, v7, M => if jw (jshl 1 (M 40 2)) ≤ jw v7 then (f_X11_sure_L80 n v5 v6 M) else (bnd (f_X11_fitsParrot n v7 v3 M) fun r1 M2 => if jw r1 = 0 then (f_X11_sure_L74 n (f_X11_sure_L40 n k) v3 v5 v6 v7 M2) else (letv 1 fun y3 => letv (jand v6 v7) fun y4 => f_X11_sure_L74 n (f_X11_sure_L40 n k) v3 y3 y4 v7 M2))
set_option maxRecDepth 4000 in
theorem t_X11_sure_L40 {g : JG} {ad : Nat → Nat} (hs : jStr g ad) (n : Nat) : ∀ (k : Nat) (v3 v5 v6 v7 : Int) (M : JMem), jB g D_X11_sure ad 40 [some (.ref 0), none, none, some (ji v3), none, some (ji v5), some (ji v6), some (ji v7)] [] M (f_X11_sure_L40 n k v3 v5 v6 v7 M) := by
  intro k
  induction k with
  | zero => intro v3 v5 v6 v7 M; exact jO.none
  | succ k ih =>
    intro v3 v5 v6 v7 M
    rw [f_X11_sure_L40]
    refine jo_iloadW 7 d_X11_sure_40 rfl ?_
    refine jo_iconst 1 d_X11_sure_42 ?_
    refine jo_aload 0 d_X11_sure_43 rfl rfl ?_
    refine jo_getR (k := 7) cl_11 (Nat.le_of_ble_eq_true rfl) lk_X11_53 rfl kc_0 kr_0_7 d_X11_sure_44 ?_
    refine jo_getI (k := 2) cl_4 (Nat.le_of_ble_eq_true rfl) lk_X11_190 (Or.inl rfl) kc_40 d_X11_sure_47 ?_
    refine jo_ishl d_X11_sure_50 ?_
    refine jo_icmp_ge 80 d_X11_sure_51 (by decide) ?_ ?_
    · skip
      exact jO.sub (t_X11_sure_L80 hs n v5 v6 M) (And.intro rfl (And.intro rfl (And.intro rfl True.intro)))
    · skip
      refine jo_aload 0 d_X11_sure_54 rfl rfl ?_
      refine jo_iloadW 7 d_X11_sure_55 rfl ?_
      refine jo_iload 3 d_X11_sure_57 rfl rfl ?_
      refine jo_callV (st := []) (m_X11_fitsParrot hs n v7 v3 M) ok_X11_fitsParrot (And.intro (Nat.le_of_ble_eq_true rfl) (Nat.le_of_ble_eq_true rfl)) lm_X11_396 in_X11_fitsParrot se_X11_fitsParrot rfl kc_0 rfl rfl (And.intro (Nat.zero_le _) (Nat.zero_le _)) rfl (Nat.le_of_ble_eq_true rfl) d_X11_sure_58 (fun r1 M2 => ?_)
      refine jo_if_eq 74 d_X11_sure_61 (by decide) ?_ ?_
      · skip
        exact jO.sub (t_X11_sure_L74 hs n (f_X11_sure_L40 n k) ih v3 v5 v6 v7 M2) (And.intro rfl (And.intro rfl (And.intro rfl (And.intro rfl (And.intro rfl True.intro)))))
      · skip
        refine jo_iconst 1 d_X11_sure_64 ?_
        refine jo_istoreW 5 d_X11_sure_65 (Nat.le_of_ble_eq_true rfl) (fun y3 => ?_)
        refine jo_iloadW 6 d_X11_sure_67 rfl ?_
        refine jo_iloadW 7 d_X11_sure_69 rfl ?_
        refine jo_iand d_X11_sure_71 ?_
        refine jo_istoreW 6 d_X11_sure_72 (Nat.le_of_ble_eq_true rfl) (fun y4 => ?_)
        exact jO.sub (t_X11_sure_L74 hs n (f_X11_sure_L40 n k) ih v3 y3 y4 v7 M2) (And.intro rfl (And.intro rfl (And.intro rfl (And.intro rfl (And.intro rfl True.intro)))))
def f_X11_sure (n : Nat) (x1 : Int) (x2 : Int) (x3 : Int) (M : JMem) : Option (Int × JMem) := bnd (f_X11_whyNotHeard n x1 x2 x3 M) fun r1 M2 => letv r1 fun y3 => if jw y3 = 0 then (letv 0 fun y4 => letv ((jshl 1 (M2 40 2)) - 1) fun y5 => letv 0 fun y6 => f_X11_sure_L40 n n x3 y4 y5 y6 M2) else (bnd (f_X11_refuse n y3 M2) fun r7 M8 => some (r7, M8))
set_option maxRecDepth 4000 in
theorem t_X11_sure {g : JG} {ad : Nat → Nat} (hs : jStr g ad) (n : Nat) (x1 : Int) (x2 : Int) (x3 : Int) (M : JMem) : jB g D_X11_sure ad 0 [some (.ref 0), some (ji x1), some (ji x2), some (ji x3), none, none, none, none] [] M (f_X11_sure n x1 x2 x3 M) := by
  unfold f_X11_sure
  refine jo_aload 0 d_X11_sure_0 rfl rfl ?_
  refine jo_iload 1 d_X11_sure_1 rfl rfl ?_
  refine jo_iload 2 d_X11_sure_2 rfl rfl ?_
  refine jo_iload 3 d_X11_sure_3 rfl rfl ?_
  refine jo_callV (st := []) (m_X11_whyNotHeard hs n x1 x2 x3 M) ok_X11_whyNotHeard (And.intro (Nat.le_of_ble_eq_true rfl) (Nat.le_of_ble_eq_true rfl)) lm_X11_392 in_X11_whyNotHeard se_X11_whyNotHeard rfl kc_0 rfl rfl (And.intro (Nat.zero_le _) (Nat.zero_le _)) rfl (Nat.le_of_ble_eq_true rfl) d_X11_sure_4 (fun r1 M2 => ?_)
  refine jo_istoreW 4 d_X11_sure_7 (Nat.le_of_ble_eq_true rfl) (fun y3 => ?_)
  refine jo_iloadW 4 d_X11_sure_9 rfl ?_
  refine jo_if_eq 21 d_X11_sure_11 (by decide) ?_ ?_
  · skip
    refine jo_iconst 0 d_X11_sure_21 ?_
    refine jo_istoreW 5 d_X11_sure_22 (Nat.le_of_ble_eq_true rfl) (fun y4 => ?_)
    refine jo_iconst 1 d_X11_sure_24 ?_
    refine jo_aload 0 d_X11_sure_25 rfl rfl ?_
    refine jo_getR (k := 7) cl_11 (Nat.le_of_ble_eq_true rfl) lk_X11_53 rfl kc_0 kr_0_7 d_X11_sure_26 ?_
    refine jo_getI (k := 2) cl_4 (Nat.le_of_ble_eq_true rfl) lk_X11_190 (Or.inl rfl) kc_40 d_X11_sure_29 ?_
    refine jo_ishl d_X11_sure_32 ?_
    refine jo_iconst 1 d_X11_sure_33 ?_
    refine jo_isub d_X11_sure_34 ?_
    refine jo_istoreW 6 d_X11_sure_35 (Nat.le_of_ble_eq_true rfl) (fun y5 => ?_)
    refine jo_iconst 0 d_X11_sure_37 ?_
    refine jo_istoreW 7 d_X11_sure_38 (Nat.le_of_ble_eq_true rfl) (fun y6 => ?_)
    exact jO.sub (t_X11_sure_L40 hs n n x3 y4 y5 y6 M2) (And.intro rfl (And.intro rfl (And.intro rfl (And.intro rfl (And.intro rfl True.intro)))))
  · skip
    refine jo_aload 0 d_X11_sure_14 rfl rfl ?_
    refine jo_iloadW 4 d_X11_sure_15 rfl ?_
    refine jo_callV (st := []) (m_X11_refuse hs n y3 M2) ok_X11_refuse (And.intro (Nat.le_of_ble_eq_true rfl) (Nat.le_of_ble_eq_true rfl)) lm_X11_143 in_X11_refuse se_X11_refuse rfl kc_0 rfl rfl (And.intro (Nat.zero_le _) (Nat.zero_le _)) rfl (Nat.le_of_ble_eq_true rfl) d_X11_sure_17 (fun r7 M8 => ?_)
    exact jo_iret rfl d_X11_sure_20
theorem m_X11_sure {g : JG} {ad : Nat → Nat} (hs : jStr g ad) (n : Nat) (x1 : Int) (x2 : Int) (x3 : Int) (M : JMem) : jMet g jNN ad jR D_X11_sure yX11_sure [.ref 0, ji x1, ji x2, ji x3] M (f_X11_sure n x1 x2 x3 M) :=
  jMet.of (lo0 := [some (.ref 0), some (ji x1), some (ji x2), some (ji x3), none, none, none, none]) (by decide) rfl rfl (Nat.le_of_ble_eq_true rfl) (And.intro rfl (And.intro rfl (And.intro rfl (And.intro rfl True.intro)))) (t_X11_sure hs n x1 x2 x3 M)
/-! CageLeave.there(I)I -/
def D_X11_there : JD := (RX11, cX11_there, 2, some .int, "there", { frames := 1, cells := 0, slots := 0, locals := 21 })
theorem ok_X11_there : jOk D_X11_there yX11_there 1 := ⟨jTW_mem (k := 989) (by decide +kernel) rfl, jTW_mem (k := 135) (by decide +kernel) rfl, ⟨by decide +kernel, by decide +kernel⟩, by decide +kernel, rfl, rfl⟩
theorem in_X11_there : Cond.instanceMethod yX11_there ∈ jTW := jTW_mem (k := 987) (by decide +kernel) rfl
theorem se_X11_there : Cond.selects yX11_there.cls yX11_there yX11_there ∈ jTW := jTW_mem (k := 988) (by decide +kernel) rfl
theorem d_X11_there_0 : decode (D_X11_there).2.1 0 = .ok (.aload_n 0, 1) := by decide +kernel
theorem d_X11_there_1 : decode (D_X11_there).2.1 1 = .ok (.iload_n 1, 1) := by decide +kernel
theorem d_X11_there_2 : decode (D_X11_there).2.1 2 = .ok (.invokevirtual 289, 3) := by decide +kernel
theorem d_X11_there_5 : decode (D_X11_there).2.1 5 = .ok (.ifCond .ne 9, 3) := by decide +kernel
theorem d_X11_there_8 : decode (D_X11_there).2.1 8 = .ok (.aload_n 0, 1) := by decide +kernel
theorem d_X11_there_9 : decode (D_X11_there).2.1 9 = .ok (.iconst 1, 1) := by decide +kernel
theorem d_X11_there_10 : decode (D_X11_there).2.1 10 = .ok (.invokevirtual 143, 3) := by decide +kernel
theorem d_X11_there_13 : decode (D_X11_there).2.1 13 = .ok (.ireturn, 1) := by decide +kernel
theorem d_X11_there_14 : decode (D_X11_there).2.1 14 = .ok (.aload_n 0, 1) := by decide +kernel
theorem d_X11_there_15 : decode (D_X11_there).2.1 15 = .ok (.aload_n 0, 1) := by decide +kernel
theorem d_X11_there_16 : decode (D_X11_there).2.1 16 = .ok (.getfield 60, 3) := by decide +kernel
theorem d_X11_there_19 : decode (D_X11_there).2.1 19 = .ok (.getfield 292, 3) := by decide +kernel
theorem d_X11_there_22 : decode (D_X11_there).2.1 22 = .ok (.iload_n 1, 1) := by decide +kernel
theorem d_X11_there_23 : decode (D_X11_there).2.1 23 = .ok (.iaload, 1) := by decide +kernel
theorem d_X11_there_24 : decode (D_X11_there).2.1 24 = .ok (.invokevirtual 193, 3) := by decide +kernel
theorem d_X11_there_27 : decode (D_X11_there).2.1 27 = .ok (.ireturn, 1) := by decide +kernel
def f_X11_there (n : Nat) (x1 : Int) (M : JMem) : Option (Int × JMem) := bnd (f_X11_isPlace n x1 M) fun r1 M2 => if jw r1 = 0 then (bnd (f_X11_refuse n 1 M2) fun r5 M6 => some (r5, M6)) else (chk (jin x1 6) <| bnd (f_X11_answer n (M2 (52 + 3) (jw x1).toNat) M2) fun r3 M4 => some (r3, M4))
set_option maxRecDepth 4000 in
theorem t_X11_there {g : JG} {ad : Nat → Nat} (hs : jStr g ad) (n : Nat) (x1 : Int) (M : JMem) : jB g D_X11_there ad 0 [some (.ref 0), some (ji x1)] [] M (f_X11_there n x1 M) := by
  unfold f_X11_there
  refine jo_aload 0 d_X11_there_0 rfl rfl ?_
  refine jo_iload 1 d_X11_there_1 rfl rfl ?_
  refine jo_callV (st := []) (m_X11_isPlace hs n x1 M) ok_X11_isPlace (And.intro (Nat.le_of_ble_eq_true rfl) (Nat.le_of_ble_eq_true rfl)) lm_X11_289 in_X11_isPlace se_X11_isPlace rfl kc_0 rfl rfl (And.intro (Nat.zero_le _) (Nat.zero_le _)) rfl (Nat.le_of_ble_eq_true rfl) d_X11_there_2 (fun r1 M2 => ?_)
  refine jo_if_ne 14 d_X11_there_5 (by decide) ?_ ?_
  · skip
    refine jo_aload 0 d_X11_there_14 rfl rfl ?_
    refine jo_aload 0 d_X11_there_15 rfl rfl ?_
    refine jo_getR (k := 8) cl_11 (Nat.le_of_ble_eq_true rfl) lk_X11_60 rfl kc_0 kr_0_8 d_X11_there_16 ?_
    refine jo_getR (k := 7) cl_1 (Nat.le_of_ble_eq_true rfl) lk_X11_292 rfl kc_52 (kr_Now_7 kc_52) d_X11_there_19 ?_
    refine jo_iload 1 d_X11_there_22 rfl rfl ?_
    refine jo_iald (N := 6) (ka_Now_7 kc_52) d_X11_there_23 ?_
    refine jo_callV (st := []) (m_X11_answer hs n (M2 (52 + 3) (jw x1).toNat) M2) ok_X11_answer (And.intro (Nat.le_of_ble_eq_true rfl) (Nat.le_of_ble_eq_true rfl)) lm_X11_193 in_X11_answer se_X11_answer rfl kc_0 rfl rfl (And.intro (Nat.zero_le _) (Nat.zero_le _)) rfl (Nat.le_of_ble_eq_true rfl) d_X11_there_24 (fun r3 M4 => ?_)
    exact jo_iret rfl d_X11_there_27
  · skip
    refine jo_aload 0 d_X11_there_8 rfl rfl ?_
    refine jo_iconst 1 d_X11_there_9 ?_
    refine jo_callV (st := []) (m_X11_refuse hs n 1 M2) ok_X11_refuse (And.intro (Nat.le_of_ble_eq_true rfl) (Nat.le_of_ble_eq_true rfl)) lm_X11_143 in_X11_refuse se_X11_refuse rfl kc_0 rfl rfl (And.intro (Nat.zero_le _) (Nat.zero_le _)) rfl (Nat.le_of_ble_eq_true rfl) d_X11_there_10 (fun r5 M6 => ?_)
    exact jo_iret rfl d_X11_there_13
theorem m_X11_there {g : JG} {ad : Nat → Nat} (hs : jStr g ad) (n : Nat) (x1 : Int) (M : JMem) : jMet g jNN ad jR D_X11_there yX11_there [.ref 0, ji x1] M (f_X11_there n x1 M) :=
  jMet.of (lo0 := [some (.ref 0), some (ji x1)]) (by decide) rfl rfl (Nat.le_of_ble_eq_true rfl) (And.intro rfl (And.intro rfl True.intro)) (t_X11_there hs n x1 M)
/-! CageLeave.ticket(IIZ)Z -/
def D_X11_ticket : JD := (RX11, cX11_ticket, 4, some .boolean, "ticket", { frames := 2, cells := 0, slots := 0, locals := 42 })
theorem ok_X11_ticket : jOk D_X11_ticket yX11_ticket 3 := ⟨jTW_mem (k := 1054) (by decide +kernel) rfl, jTW_mem (k := 135) (by decide +kernel) rfl, ⟨by decide +kernel, by decide +kernel⟩, by decide +kernel, rfl, rfl⟩
theorem in_X11_ticket : Cond.instanceMethod yX11_ticket ∈ jTW := jTW_mem (k := 1052) (by decide +kernel) rfl
theorem se_X11_ticket : Cond.selects yX11_ticket.cls yX11_ticket yX11_ticket ∈ jTW := jTW_mem (k := 1053) (by decide +kernel) rfl
theorem lm_X11_313 : Cond.methodLink RX11 313 yX1_turnTicket ∈ jTW := jTW_mem (k := 1056) (by decide +kernel) rfl
theorem d_X11_ticket_0 : decode (D_X11_ticket).2.1 0 = .ok (.aload_n 0, 1) := by decide +kernel
theorem d_X11_ticket_1 : decode (D_X11_ticket).2.1 1 = .ok (.iload_n 1, 1) := by decide +kernel
theorem d_X11_ticket_2 : decode (D_X11_ticket).2.1 2 = .ok (.invokevirtual 264, 3) := by decide +kernel
theorem d_X11_ticket_5 : decode (D_X11_ticket).2.1 5 = .ok (.ifCond .eq 11, 3) := by decide +kernel
theorem d_X11_ticket_8 : decode (D_X11_ticket).2.1 8 = .ok (.aload_n 0, 1) := by decide +kernel
theorem d_X11_ticket_9 : decode (D_X11_ticket).2.1 9 = .ok (.iload_n 2, 1) := by decide +kernel
theorem d_X11_ticket_10 : decode (D_X11_ticket).2.1 10 = .ok (.invokevirtual 243, 3) := by decide +kernel
theorem d_X11_ticket_13 : decode (D_X11_ticket).2.1 13 = .ok (.ifCond .ne 9, 3) := by decide +kernel
theorem d_X11_ticket_16 : decode (D_X11_ticket).2.1 16 = .ok (.aload_n 0, 1) := by decide +kernel
theorem d_X11_ticket_17 : decode (D_X11_ticket).2.1 17 = .ok (.iconst 1, 1) := by decide +kernel
theorem d_X11_ticket_18 : decode (D_X11_ticket).2.1 18 = .ok (.invokevirtual 124, 3) := by decide +kernel
theorem d_X11_ticket_21 : decode (D_X11_ticket).2.1 21 = .ok (.ireturn, 1) := by decide +kernel
theorem d_X11_ticket_22 : decode (D_X11_ticket).2.1 22 = .ok (.aload_n 0, 1) := by decide +kernel
theorem d_X11_ticket_23 : decode (D_X11_ticket).2.1 23 = .ok (.getfield 60, 3) := by decide +kernel
theorem d_X11_ticket_26 : decode (D_X11_ticket).2.1 26 = .ok (.iload_n 1, 1) := by decide +kernel
theorem d_X11_ticket_27 : decode (D_X11_ticket).2.1 27 = .ok (.invokevirtual 282, 3) := by decide +kernel
theorem d_X11_ticket_30 : decode (D_X11_ticket).2.1 30 = .ok (.ifCond .ne 20, 3) := by decide +kernel
theorem d_X11_ticket_33 : decode (D_X11_ticket).2.1 33 = .ok (.aload_n 0, 1) := by decide +kernel
theorem d_X11_ticket_34 : decode (D_X11_ticket).2.1 34 = .ok (.getfield 60, 3) := by decide +kernel
theorem d_X11_ticket_37 : decode (D_X11_ticket).2.1 37 = .ok (.getfield 276, 3) := by decide +kernel
theorem d_X11_ticket_40 : decode (D_X11_ticket).2.1 40 = .ok (.iload_n 1, 1) := by decide +kernel
theorem d_X11_ticket_41 : decode (D_X11_ticket).2.1 41 = .ok (.iaload, 1) := by decide +kernel
theorem d_X11_ticket_42 : decode (D_X11_ticket).2.1 42 = .ok (.iload_n 2, 1) := by decide +kernel
theorem d_X11_ticket_43 : decode (D_X11_ticket).2.1 43 = .ok (.invokestatic 310, 3) := by decide +kernel
theorem d_X11_ticket_46 : decode (D_X11_ticket).2.1 46 = .ok (.iload_n 3, 1) := by decide +kernel
theorem d_X11_ticket_47 : decode (D_X11_ticket).2.1 47 = .ok (.if_icmp .ne 10, 3) := by decide +kernel
theorem d_X11_ticket_50 : decode (D_X11_ticket).2.1 50 = .ok (.aload_n 0, 1) := by decide +kernel
theorem d_X11_ticket_51 : decode (D_X11_ticket).2.1 51 = .ok (.bipush 7, 2) := by decide +kernel
theorem d_X11_ticket_53 : decode (D_X11_ticket).2.1 53 = .ok (.invokevirtual 124, 3) := by decide +kernel
theorem d_X11_ticket_56 : decode (D_X11_ticket).2.1 56 = .ok (.ireturn, 1) := by decide +kernel
theorem d_X11_ticket_57 : decode (D_X11_ticket).2.1 57 = .ok (.aload_n 0, 1) := by decide +kernel
theorem d_X11_ticket_58 : decode (D_X11_ticket).2.1 58 = .ok (.getfield 60, 3) := by decide +kernel
theorem d_X11_ticket_61 : decode (D_X11_ticket).2.1 61 = .ok (.iload_n 1, 1) := by decide +kernel
theorem d_X11_ticket_62 : decode (D_X11_ticket).2.1 62 = .ok (.iload_n 2, 1) := by decide +kernel
theorem d_X11_ticket_63 : decode (D_X11_ticket).2.1 63 = .ok (.invokevirtual 313, 3) := by decide +kernel
theorem d_X11_ticket_66 : decode (D_X11_ticket).2.1 66 = .ok (.aload_n 0, 1) := by decide +kernel
theorem d_X11_ticket_67 : decode (D_X11_ticket).2.1 67 = .ok (.invokevirtual 131, 3) := by decide +kernel
theorem d_X11_ticket_70 : decode (D_X11_ticket).2.1 70 = .ok (.ireturn, 1) := by decide +kernel
def f_X11_ticket_L16 (n : Nat) (M : JMem) : Option (Int × JMem) := bnd (f_X11_deny n 1 M) fun r1 M2 => chk (jw r1 = 0 ∨ jw r1 = 1) (some (r1, M2))
set_option maxRecDepth 4000 in
theorem t_X11_ticket_L16 {g : JG} {ad : Nat → Nat} (hs : jStr g ad) (n : Nat) (M : JMem) : jB g D_X11_ticket ad 16 [some (.ref 0), none, none, none] [] M (f_X11_ticket_L16 n M) := by
  unfold f_X11_ticket_L16
  refine jo_aload 0 d_X11_ticket_16 rfl rfl ?_
  refine jo_iconst 1 d_X11_ticket_17 ?_
  refine jo_callV (st := []) (m_X11_deny hs n 1 M) ok_X11_deny (And.intro (Nat.le_of_ble_eq_true rfl) (Nat.le_of_ble_eq_true rfl)) lm_X11_124 in_X11_deny se_X11_deny rfl kc_0 rfl rfl (And.intro (Nat.zero_le _) (Nat.zero_le _)) rfl (Nat.le_of_ble_eq_true rfl) d_X11_ticket_18 (fun r1 M2 => ?_)
  exact jo_zretq rfl d_X11_ticket_21
def f_X11_ticket_L50 (n : Nat) (M : JMem) : Option (Int × JMem) := bnd (f_X11_deny n 7 M) fun r1 M2 => chk (jw r1 = 0 ∨ jw r1 = 1) (some (r1, M2))
set_option maxRecDepth 4000 in
theorem t_X11_ticket_L50 {g : JG} {ad : Nat → Nat} (hs : jStr g ad) (n : Nat) (M : JMem) : jB g D_X11_ticket ad 50 [some (.ref 0), none, none, none] [] M (f_X11_ticket_L50 n M) := by
  unfold f_X11_ticket_L50
  refine jo_aload 0 d_X11_ticket_50 rfl rfl ?_
  refine jo_bipush 7 d_X11_ticket_51 (by decide) ?_
  refine jo_callV (st := []) (m_X11_deny hs n 7 M) ok_X11_deny (And.intro (Nat.le_of_ble_eq_true rfl) (Nat.le_of_ble_eq_true rfl)) lm_X11_124 in_X11_deny se_X11_deny rfl kc_0 rfl rfl (And.intro (Nat.zero_le _) (Nat.zero_le _)) rfl (Nat.le_of_ble_eq_true rfl) d_X11_ticket_53 (fun r1 M2 => ?_)
  exact jo_zretq rfl d_X11_ticket_56
def f_X11_ticket (n : Nat) (x1 : Int) (x2 : Int) (x3 : Int) (M : JMem) : Option (Int × JMem) := bnd (f_X11_isBeast n x1 M) fun r1 M2 => if jw r1 = 0 then (f_X11_ticket_L16 n M2) else (bnd (f_X11_isTrain n x2 M2) fun r3 M4 => if jw r3 = 0 then (f_X11_ticket_L16 n M4) else (bnd (f_X1_isEaten n 52 x1 M4) fun r5 M6 => if jw r5 = 0 then (chk (jin x1 8) <| bnd (f_X11_isIn n (M6 (52 + 1) (jw x1).toNat) x2 M6) fun r7 M8 => if jw r7 = jw x3 then (f_X11_ticket_L50 n M8) else (bnd (f_X1_turnTicket n 52 x1 x2 M8) fun _ M10 => bnd (f_X11_allow n M10) fun r11 M12 => chk (jw r11 = 0 ∨ jw r11 = 1) (some (r11, M12)))) else (f_X11_ticket_L50 n M6)))
set_option maxRecDepth 4000 in
theorem t_X11_ticket {g : JG} {ad : Nat → Nat} (hs : jStr g ad) (n : Nat) (x1 : Int) (x2 : Int) (x3 : Int) (M : JMem) : jB g D_X11_ticket ad 0 [some (.ref 0), some (ji x1), some (ji x2), some (ji x3)] [] M (f_X11_ticket n x1 x2 x3 M) := by
  unfold f_X11_ticket
  refine jo_aload 0 d_X11_ticket_0 rfl rfl ?_
  refine jo_iload 1 d_X11_ticket_1 rfl rfl ?_
  refine jo_callV (st := []) (m_X11_isBeast hs n x1 M) ok_X11_isBeast (And.intro (Nat.le_of_ble_eq_true rfl) (Nat.le_of_ble_eq_true rfl)) lm_X11_264 in_X11_isBeast se_X11_isBeast rfl kc_0 rfl rfl (And.intro (Nat.zero_le _) (Nat.zero_le _)) rfl (Nat.le_of_ble_eq_true rfl) d_X11_ticket_2 (fun r1 M2 => ?_)
  refine jo_if_eq 16 d_X11_ticket_5 (by decide) ?_ ?_
  · skip
    exact jO.sub (t_X11_ticket_L16 hs n M2) (And.intro rfl True.intro)
  · skip
    refine jo_aload 0 d_X11_ticket_8 rfl rfl ?_
    refine jo_iload 2 d_X11_ticket_9 rfl rfl ?_
    refine jo_callV (st := []) (m_X11_isTrain hs n x2 M2) ok_X11_isTrain (And.intro (Nat.le_of_ble_eq_true rfl) (Nat.le_of_ble_eq_true rfl)) lm_X11_243 in_X11_isTrain se_X11_isTrain rfl kc_0 rfl rfl (And.intro (Nat.zero_le _) (Nat.zero_le _)) rfl (Nat.le_of_ble_eq_true rfl) d_X11_ticket_10 (fun r3 M4 => ?_)
    refine jo_if_ne 22 d_X11_ticket_13 (by decide) ?_ ?_
    · skip
      refine jo_aload 0 d_X11_ticket_22 rfl rfl ?_
      refine jo_getR (k := 8) cl_11 (Nat.le_of_ble_eq_true rfl) lk_X11_60 rfl kc_0 kr_0_8 d_X11_ticket_23 ?_
      refine jo_iload 1 d_X11_ticket_26 rfl rfl ?_
      refine jo_callV (st := []) (m_X1_isEaten hs n 52 x1 kc_52 M4) ok_X1_isEaten (And.intro (Nat.le_of_ble_eq_true rfl) (Nat.le_of_ble_eq_true rfl)) lm_X11_282 in_X1_isEaten se_X1_isEaten rfl kc_52 rfl rfl (And.intro (Nat.zero_le _) (Nat.zero_le _)) rfl (Nat.le_of_ble_eq_true rfl) d_X11_ticket_27 (fun r5 M6 => ?_)
      refine jo_if_ne 50 d_X11_ticket_30 (by decide) ?_ ?_
      · skip
        exact jO.sub (t_X11_ticket_L50 hs n M6) (And.intro rfl True.intro)
      · skip
        refine jo_aload 0 d_X11_ticket_33 rfl rfl ?_
        refine jo_getR (k := 8) cl_11 (Nat.le_of_ble_eq_true rfl) lk_X11_60 rfl kc_0 kr_0_8 d_X11_ticket_34 ?_
        refine jo_getR (k := 5) cl_1 (Nat.le_of_ble_eq_true rfl) lk_X11_276 rfl kc_52 (kr_Now_5 kc_52) d_X11_ticket_37 ?_
        refine jo_iload 1 d_X11_ticket_40 rfl rfl ?_
        refine jo_iald (N := 8) (ka_Now_5 kc_52) d_X11_ticket_41 ?_
        refine jo_iload 2 d_X11_ticket_42 rfl rfl ?_
        refine jo_callS (st := []) (m_X11_isIn hs n (M6 (52 + 1) (jw x1).toNat) x2 M6) ok_X11_isIn (And.intro (Nat.le_of_ble_eq_true rfl) (Nat.le_of_ble_eq_true rfl)) lm_X11_310 st_X11_isIn rfl (And.intro (Nat.zero_le _) (Nat.zero_le _)) rfl (Nat.le_of_ble_eq_true rfl) d_X11_ticket_43 (fun r7 M8 => ?_)
        refine jo_iload 3 d_X11_ticket_46 rfl rfl ?_
        refine jo_icmp_ne 57 d_X11_ticket_47 (by decide) ?_ ?_
        · skip
          refine jo_aload 0 d_X11_ticket_57 rfl rfl ?_
          refine jo_getR (k := 8) cl_11 (Nat.le_of_ble_eq_true rfl) lk_X11_60 rfl kc_0 kr_0_8 d_X11_ticket_58 ?_
          refine jo_iload 1 d_X11_ticket_61 rfl rfl ?_
          refine jo_iload 2 d_X11_ticket_62 rfl rfl ?_
          refine jo_callV (st := []) (m_X1_turnTicket hs n 52 x1 x2 kc_52 M8) ok_X1_turnTicket (And.intro (Nat.le_of_ble_eq_true rfl) (Nat.le_of_ble_eq_true rfl)) lm_X11_313 in_X1_turnTicket se_X1_turnTicket rfl kc_52 rfl rfl (And.intro (Nat.zero_le _) (Nat.zero_le _)) rfl (Nat.le_of_ble_eq_true rfl) d_X11_ticket_63 (fun _ M10 => ?_)
          refine jo_aload 0 d_X11_ticket_66 rfl rfl ?_
          refine jo_callV (st := []) (m_X11_allow hs n M10) ok_X11_allow (And.intro (Nat.le_of_ble_eq_true rfl) (Nat.le_of_ble_eq_true rfl)) lm_X11_131 in_X11_allow se_X11_allow rfl kc_0 rfl rfl (And.intro (Nat.zero_le _) (Nat.zero_le _)) rfl (Nat.le_of_ble_eq_true rfl) d_X11_ticket_67 (fun r11 M12 => ?_)
          exact jo_zretq rfl d_X11_ticket_70
        · skip
          exact jO.sub (t_X11_ticket_L50 hs n M8) (And.intro rfl True.intro)
    · skip
      exact jO.sub (t_X11_ticket_L16 hs n M4) (And.intro rfl True.intro)
theorem m_X11_ticket {g : JG} {ad : Nat → Nat} (hs : jStr g ad) (n : Nat) (x1 : Int) (x2 : Int) (x3 : Int) (M : JMem) : jMet g jNN ad jR D_X11_ticket yX11_ticket [.ref 0, ji x1, ji x2, ji x3] M (f_X11_ticket n x1 x2 x3 M) :=
  jMet.of (lo0 := [some (.ref 0), some (ji x1), some (ji x2), some (ji x3)]) (by decide) rfl rfl (Nat.le_of_ble_eq_true rfl) (And.intro rfl (And.intro rfl (And.intro rfl (And.intro rfl True.intro)))) (t_X11_ticket hs n x1 x2 x3 M)
/-! CageLeave.together(II)I -/
def D_X11_together : JD := (RX11, cX11_together, 3, some .int, "together", { frames := 3, cells := 0, slots := 0, locals := 68 })
theorem ok_X11_together : jOk D_X11_together yX11_together 2 := ⟨jTW_mem (k := 997) (by decide +kernel) rfl, jTW_mem (k := 135) (by decide +kernel) rfl, ⟨by decide +kernel, by decide +kernel⟩, by decide +kernel, rfl, rfl⟩
theorem in_X11_together : Cond.instanceMethod yX11_together ∈ jTW := jTW_mem (k := 995) (by decide +kernel) rfl
theorem se_X11_together : Cond.selects yX11_together.cls yX11_together yX11_together ∈ jTW := jTW_mem (k := 996) (by decide +kernel) rfl
theorem d_X11_together_0 : decode (D_X11_together).2.1 0 = .ok (.aload_n 0, 1) := by decide +kernel
theorem d_X11_together_1 : decode (D_X11_together).2.1 1 = .ok (.iload_n 1, 1) := by decide +kernel
theorem d_X11_together_2 : decode (D_X11_together).2.1 2 = .ok (.iload_n 2, 1) := by decide +kernel
theorem d_X11_together_3 : decode (D_X11_together).2.1 3 = .ok (.invokevirtual 295, 3) := by decide +kernel
theorem d_X11_together_6 : decode (D_X11_together).2.1 6 = .ok (.ifCond .ne 9, 3) := by decide +kernel
theorem d_X11_together_9 : decode (D_X11_together).2.1 9 = .ok (.aload_n 0, 1) := by decide +kernel
theorem d_X11_together_10 : decode (D_X11_together).2.1 10 = .ok (.iconst 1, 1) := by decide +kernel
theorem d_X11_together_11 : decode (D_X11_together).2.1 11 = .ok (.invokevirtual 143, 3) := by decide +kernel
theorem d_X11_together_14 : decode (D_X11_together).2.1 14 = .ok (.ireturn, 1) := by decide +kernel
theorem d_X11_together_15 : decode (D_X11_together).2.1 15 = .ok (.aload_n 0, 1) := by decide +kernel
theorem d_X11_together_16 : decode (D_X11_together).2.1 16 = .ok (.aload_n 0, 1) := by decide +kernel
theorem d_X11_together_17 : decode (D_X11_together).2.1 17 = .ok (.getfield 60, 3) := by decide +kernel
theorem d_X11_together_20 : decode (D_X11_together).2.1 20 = .ok (.aload_n 0, 1) := by decide +kernel
theorem d_X11_together_21 : decode (D_X11_together).2.1 21 = .ok (.getfield 53, 3) := by decide +kernel
theorem d_X11_together_24 : decode (D_X11_together).2.1 24 = .ok (.iload_n 1, 1) := by decide +kernel
theorem d_X11_together_25 : decode (D_X11_together).2.1 25 = .ok (.iload_n 2, 1) := by decide +kernel
theorem d_X11_together_26 : decode (D_X11_together).2.1 26 = .ok (.invokevirtual 299, 3) := by decide +kernel
theorem d_X11_together_29 : decode (D_X11_together).2.1 29 = .ok (.ifCond .eq 7, 3) := by decide +kernel
theorem d_X11_together_32 : decode (D_X11_together).2.1 32 = .ok (.iconst 1, 1) := by decide +kernel
theorem d_X11_together_33 : decode (D_X11_together).2.1 33 = .ok (.goto 4, 3) := by decide +kernel
theorem d_X11_together_36 : decode (D_X11_together).2.1 36 = .ok (.iconst 0, 1) := by decide +kernel
theorem d_X11_together_37 : decode (D_X11_together).2.1 37 = .ok (.invokevirtual 193, 3) := by decide +kernel
theorem d_X11_together_40 : decode (D_X11_together).2.1 40 = .ok (.ireturn, 1) := by decide +kernel
def f_X11_together_L37 (n : Nat) (w1 : Int) (M : JMem) : Option (Int × JMem) := bnd (f_X11_answer n w1 M) fun r1 M2 => some (r1, M2)
set_option maxRecDepth 4000 in
theorem t_X11_together_L37 {g : JG} {ad : Nat → Nat} (hs : jStr g ad) (n : Nat) (w1 : Int) (M : JMem) : jB g D_X11_together ad 37 [none, none, none] [ji w1, .ref 0] M (f_X11_together_L37 n w1 M) := by
  unfold f_X11_together_L37
  refine jo_callV (st := []) (m_X11_answer hs n w1 M) ok_X11_answer (And.intro (Nat.le_of_ble_eq_true rfl) (Nat.le_of_ble_eq_true rfl)) lm_X11_193 in_X11_answer se_X11_answer rfl kc_0 rfl rfl (And.intro (Nat.zero_le _) (Nat.zero_le _)) rfl (Nat.le_of_ble_eq_true rfl) d_X11_together_37 (fun r1 M2 => ?_)
  exact jo_iret rfl d_X11_together_40
def f_X11_together (n : Nat) (x1 : Int) (x2 : Int) (M : JMem) : Option (Int × JMem) := bnd (f_X11_areTwoBeasts n x1 x2 M) fun r1 M2 => if jw r1 = 0 then (bnd (f_X11_refuse n 1 M2) fun r5 M6 => some (r5, M6)) else (bnd (f_X1_hasTogether n 52 40 x1 x2 M2) fun r3 M4 => if jw r3 = 0 then (f_X11_together_L37 n 0 M4) else (f_X11_together_L37 n 1 M4))
set_option maxRecDepth 4000 in
theorem t_X11_together {g : JG} {ad : Nat → Nat} (hs : jStr g ad) (n : Nat) (x1 : Int) (x2 : Int) (M : JMem) : jB g D_X11_together ad 0 [some (.ref 0), some (ji x1), some (ji x2)] [] M (f_X11_together n x1 x2 M) := by
  unfold f_X11_together
  refine jo_aload 0 d_X11_together_0 rfl rfl ?_
  refine jo_iload 1 d_X11_together_1 rfl rfl ?_
  refine jo_iload 2 d_X11_together_2 rfl rfl ?_
  refine jo_callV (st := []) (m_X11_areTwoBeasts hs n x1 x2 M) ok_X11_areTwoBeasts (And.intro (Nat.le_of_ble_eq_true rfl) (Nat.le_of_ble_eq_true rfl)) lm_X11_295 in_X11_areTwoBeasts se_X11_areTwoBeasts rfl kc_0 rfl rfl (And.intro (Nat.zero_le _) (Nat.zero_le _)) rfl (Nat.le_of_ble_eq_true rfl) d_X11_together_3 (fun r1 M2 => ?_)
  refine jo_if_ne 15 d_X11_together_6 (by decide) ?_ ?_
  · skip
    refine jo_aload 0 d_X11_together_15 rfl rfl ?_
    refine jo_aload 0 d_X11_together_16 rfl rfl ?_
    refine jo_getR (k := 8) cl_11 (Nat.le_of_ble_eq_true rfl) lk_X11_60 rfl kc_0 kr_0_8 d_X11_together_17 ?_
    refine jo_aload 0 d_X11_together_20 rfl rfl ?_
    refine jo_getR (k := 7) cl_11 (Nat.le_of_ble_eq_true rfl) lk_X11_53 rfl kc_0 kr_0_7 d_X11_together_21 ?_
    refine jo_iload 1 d_X11_together_24 rfl rfl ?_
    refine jo_iload 2 d_X11_together_25 rfl rfl ?_
    refine jo_callV (st := [.ref 0]) (m_X1_hasTogether hs n 52 40 x1 x2 kc_52 kc_40 M2) ok_X1_hasTogether (And.intro (Nat.le_of_ble_eq_true rfl) (Nat.le_of_ble_eq_true rfl)) lm_X11_299 in_X1_hasTogether se_X1_hasTogether rfl kc_52 rfl rfl (And.intro (Nat.zero_le _) (Nat.zero_le _)) rfl (Nat.le_of_ble_eq_true rfl) d_X11_together_26 (fun r3 M4 => ?_)
    refine jo_if_eq 36 d_X11_together_29 (by decide) ?_ ?_
    · skip
      refine jo_iconst 0 d_X11_together_36 ?_
      exact jO.sub (t_X11_together_L37 hs n 0 M4) True.intro
    · skip
      refine jo_iconst 1 d_X11_together_32 ?_
      refine jo_goto 37 d_X11_together_33 (by decide) ?_
      exact jO.sub (t_X11_together_L37 hs n 1 M4) True.intro
  · skip
    refine jo_aload 0 d_X11_together_9 rfl rfl ?_
    refine jo_iconst 1 d_X11_together_10 ?_
    refine jo_callV (st := []) (m_X11_refuse hs n 1 M2) ok_X11_refuse (And.intro (Nat.le_of_ble_eq_true rfl) (Nat.le_of_ble_eq_true rfl)) lm_X11_143 in_X11_refuse se_X11_refuse rfl kc_0 rfl rfl (And.intro (Nat.zero_le _) (Nat.zero_le _)) rfl (Nat.le_of_ble_eq_true rfl) d_X11_together_11 (fun r5 M6 => ?_)
    exact jo_iret rfl d_X11_together_14
theorem m_X11_together {g : JG} {ad : Nat → Nat} (hs : jStr g ad) (n : Nat) (x1 : Int) (x2 : Int) (M : JMem) : jMet g jNN ad jR D_X11_together yX11_together [.ref 0, ji x1, ji x2] M (f_X11_together n x1 x2 M) :=
  jMet.of (lo0 := [some (.ref 0), some (ji x1), some (ji x2)]) (by decide) rfl rfl (Nat.le_of_ble_eq_true rfl) (And.intro rfl (And.intro rfl (And.intro rfl True.intro))) (t_X11_together hs n x1 x2 M)
/-! CageLeave.told(I)I -/
def D_X11_told : JD := (RX11, cX11_told, 2, some .int, "told", { frames := 1, cells := 0, slots := 0, locals := 22 })
theorem ok_X11_told : jOk D_X11_told yX11_told 1 := ⟨jTW_mem (k := 948) (by decide +kernel) rfl, jTW_mem (k := 135) (by decide +kernel) rfl, ⟨by decide +kernel, by decide +kernel⟩, by decide +kernel, rfl, rfl⟩
theorem in_X11_told : Cond.instanceMethod yX11_told ∈ jTW := jTW_mem (k := 946) (by decide +kernel) rfl
theorem se_X11_told : Cond.selects yX11_told.cls yX11_told yX11_told ∈ jTW := jTW_mem (k := 947) (by decide +kernel) rfl
theorem lm_X11_233 : Cond.methodLink RX11 233 yX1_riders ∈ jTW := jTW_mem (k := 949) (by decide +kernel) rfl
theorem lm_X11_240 : Cond.methodLink RX11 240 yX1_lateInAll ∈ jTW := jTW_mem (k := 953) (by decide +kernel) rfl
theorem d_X11_told_0 : decode (D_X11_told).2.1 0 = .ok (.iload_n 1, 1) := by decide +kernel
theorem d_X11_told_1 : decode (D_X11_told).2.1 1 = .ok (.tableswitch 191 0 10 #[59, 71, 83, 95, 107, 119, 131, 143, 155, 167, 179], 59) := by decide +kernel
theorem d_X11_told_60 : decode (D_X11_told).2.1 60 = .ok (.aload_n 0, 1) := by decide +kernel
theorem d_X11_told_61 : decode (D_X11_told).2.1 61 = .ok (.aload_n 0, 1) := by decide +kernel
theorem d_X11_told_62 : decode (D_X11_told).2.1 62 = .ok (.getfield 53, 3) := by decide +kernel
theorem d_X11_told_65 : decode (D_X11_told).2.1 65 = .ok (.getfield 212, 3) := by decide +kernel
theorem d_X11_told_68 : decode (D_X11_told).2.1 68 = .ok (.invokevirtual 193, 3) := by decide +kernel
theorem d_X11_told_71 : decode (D_X11_told).2.1 71 = .ok (.ireturn, 1) := by decide +kernel
theorem d_X11_told_72 : decode (D_X11_told).2.1 72 = .ok (.aload_n 0, 1) := by decide +kernel
theorem d_X11_told_73 : decode (D_X11_told).2.1 73 = .ok (.aload_n 0, 1) := by decide +kernel
theorem d_X11_told_74 : decode (D_X11_told).2.1 74 = .ok (.getfield 53, 3) := by decide +kernel
theorem d_X11_told_77 : decode (D_X11_told).2.1 77 = .ok (.getfield 215, 3) := by decide +kernel
theorem d_X11_told_80 : decode (D_X11_told).2.1 80 = .ok (.invokevirtual 193, 3) := by decide +kernel
theorem d_X11_told_83 : decode (D_X11_told).2.1 83 = .ok (.ireturn, 1) := by decide +kernel
theorem d_X11_told_84 : decode (D_X11_told).2.1 84 = .ok (.aload_n 0, 1) := by decide +kernel
theorem d_X11_told_85 : decode (D_X11_told).2.1 85 = .ok (.aload_n 0, 1) := by decide +kernel
theorem d_X11_told_86 : decode (D_X11_told).2.1 86 = .ok (.getfield 53, 3) := by decide +kernel
theorem d_X11_told_89 : decode (D_X11_told).2.1 89 = .ok (.getfield 190, 3) := by decide +kernel
theorem d_X11_told_92 : decode (D_X11_told).2.1 92 = .ok (.invokevirtual 193, 3) := by decide +kernel
theorem d_X11_told_95 : decode (D_X11_told).2.1 95 = .ok (.ireturn, 1) := by decide +kernel
theorem d_X11_told_96 : decode (D_X11_told).2.1 96 = .ok (.aload_n 0, 1) := by decide +kernel
theorem d_X11_told_97 : decode (D_X11_told).2.1 97 = .ok (.aload_n 0, 1) := by decide +kernel
theorem d_X11_told_98 : decode (D_X11_told).2.1 98 = .ok (.getfield 53, 3) := by decide +kernel
theorem d_X11_told_101 : decode (D_X11_told).2.1 101 = .ok (.getfield 218, 3) := by decide +kernel
theorem d_X11_told_104 : decode (D_X11_told).2.1 104 = .ok (.invokevirtual 193, 3) := by decide +kernel
theorem d_X11_told_107 : decode (D_X11_told).2.1 107 = .ok (.ireturn, 1) := by decide +kernel
theorem d_X11_told_108 : decode (D_X11_told).2.1 108 = .ok (.aload_n 0, 1) := by decide +kernel
theorem d_X11_told_109 : decode (D_X11_told).2.1 109 = .ok (.aload_n 0, 1) := by decide +kernel
theorem d_X11_told_110 : decode (D_X11_told).2.1 110 = .ok (.getfield 60, 3) := by decide +kernel
theorem d_X11_told_113 : decode (D_X11_told).2.1 113 = .ok (.getfield 221, 3) := by decide +kernel
theorem d_X11_told_116 : decode (D_X11_told).2.1 116 = .ok (.invokevirtual 193, 3) := by decide +kernel
theorem d_X11_told_119 : decode (D_X11_told).2.1 119 = .ok (.ireturn, 1) := by decide +kernel
theorem d_X11_told_120 : decode (D_X11_told).2.1 120 = .ok (.aload_n 0, 1) := by decide +kernel
theorem d_X11_told_121 : decode (D_X11_told).2.1 121 = .ok (.aload_n 0, 1) := by decide +kernel
theorem d_X11_told_122 : decode (D_X11_told).2.1 122 = .ok (.getfield 60, 3) := by decide +kernel
theorem d_X11_told_125 : decode (D_X11_told).2.1 125 = .ok (.getfield 224, 3) := by decide +kernel
theorem d_X11_told_128 : decode (D_X11_told).2.1 128 = .ok (.invokevirtual 193, 3) := by decide +kernel
theorem d_X11_told_131 : decode (D_X11_told).2.1 131 = .ok (.ireturn, 1) := by decide +kernel
theorem d_X11_told_132 : decode (D_X11_told).2.1 132 = .ok (.aload_n 0, 1) := by decide +kernel
theorem d_X11_told_133 : decode (D_X11_told).2.1 133 = .ok (.aload_n 0, 1) := by decide +kernel
theorem d_X11_told_134 : decode (D_X11_told).2.1 134 = .ok (.getfield 60, 3) := by decide +kernel
theorem d_X11_told_137 : decode (D_X11_told).2.1 137 = .ok (.getfield 227, 3) := by decide +kernel
theorem d_X11_told_140 : decode (D_X11_told).2.1 140 = .ok (.invokevirtual 193, 3) := by decide +kernel
theorem d_X11_told_143 : decode (D_X11_told).2.1 143 = .ok (.ireturn, 1) := by decide +kernel
theorem d_X11_told_144 : decode (D_X11_told).2.1 144 = .ok (.aload_n 0, 1) := by decide +kernel
theorem d_X11_told_145 : decode (D_X11_told).2.1 145 = .ok (.aload_n 0, 1) := by decide +kernel
theorem d_X11_told_146 : decode (D_X11_told).2.1 146 = .ok (.getfield 60, 3) := by decide +kernel
theorem d_X11_told_149 : decode (D_X11_told).2.1 149 = .ok (.getfield 230, 3) := by decide +kernel
theorem d_X11_told_152 : decode (D_X11_told).2.1 152 = .ok (.invokevirtual 193, 3) := by decide +kernel
theorem d_X11_told_155 : decode (D_X11_told).2.1 155 = .ok (.ireturn, 1) := by decide +kernel
theorem d_X11_told_156 : decode (D_X11_told).2.1 156 = .ok (.aload_n 0, 1) := by decide +kernel
theorem d_X11_told_157 : decode (D_X11_told).2.1 157 = .ok (.aload_n 0, 1) := by decide +kernel
theorem d_X11_told_158 : decode (D_X11_told).2.1 158 = .ok (.getfield 60, 3) := by decide +kernel
theorem d_X11_told_161 : decode (D_X11_told).2.1 161 = .ok (.invokevirtual 233, 3) := by decide +kernel
theorem d_X11_told_164 : decode (D_X11_told).2.1 164 = .ok (.invokevirtual 193, 3) := by decide +kernel
theorem d_X11_told_167 : decode (D_X11_told).2.1 167 = .ok (.ireturn, 1) := by decide +kernel
theorem d_X11_told_168 : decode (D_X11_told).2.1 168 = .ok (.aload_n 0, 1) := by decide +kernel
theorem d_X11_told_169 : decode (D_X11_told).2.1 169 = .ok (.aload_n 0, 1) := by decide +kernel
theorem d_X11_told_170 : decode (D_X11_told).2.1 170 = .ok (.getfield 60, 3) := by decide +kernel
theorem d_X11_told_173 : decode (D_X11_told).2.1 173 = .ok (.getfield 237, 3) := by decide +kernel
theorem d_X11_told_176 : decode (D_X11_told).2.1 176 = .ok (.invokevirtual 193, 3) := by decide +kernel
theorem d_X11_told_179 : decode (D_X11_told).2.1 179 = .ok (.ireturn, 1) := by decide +kernel
theorem d_X11_told_180 : decode (D_X11_told).2.1 180 = .ok (.aload_n 0, 1) := by decide +kernel
theorem d_X11_told_181 : decode (D_X11_told).2.1 181 = .ok (.aload_n 0, 1) := by decide +kernel
theorem d_X11_told_182 : decode (D_X11_told).2.1 182 = .ok (.getfield 60, 3) := by decide +kernel
theorem d_X11_told_185 : decode (D_X11_told).2.1 185 = .ok (.invokevirtual 240, 3) := by decide +kernel
theorem d_X11_told_188 : decode (D_X11_told).2.1 188 = .ok (.invokevirtual 193, 3) := by decide +kernel
theorem d_X11_told_191 : decode (D_X11_told).2.1 191 = .ok (.ireturn, 1) := by decide +kernel
theorem d_X11_told_192 : decode (D_X11_told).2.1 192 = .ok (.aload_n 0, 1) := by decide +kernel
theorem d_X11_told_193 : decode (D_X11_told).2.1 193 = .ok (.iconst 1, 1) := by decide +kernel
theorem d_X11_told_194 : decode (D_X11_told).2.1 194 = .ok (.invokevirtual 143, 3) := by decide +kernel
theorem d_X11_told_197 : decode (D_X11_told).2.1 197 = .ok (.ireturn, 1) := by decide +kernel
def f_X11_told (n : Nat) (x1 : Int) (M : JMem) : Option (Int × JMem) := if jw x1 = 0 then (bnd (f_X11_answer n (M 40 0) M) fun r2 M3 => some (r2, M3)) else (if jw x1 = 1 then (bnd (f_X11_answer n (M 40 1) M) fun r4 M5 => some (r4, M5)) else (if jw x1 = 2 then (bnd (f_X11_answer n (M 40 2) M) fun r6 M7 => some (r6, M7)) else (if jw x1 = 3 then (bnd (f_X11_answer n (M 40 3) M) fun r8 M9 => some (r8, M9)) else (if jw x1 = 4 then (bnd (f_X11_answer n (M 52 0) M) fun r10 M11 => some (r10, M11)) else (if jw x1 = 5 then (bnd (f_X11_answer n (M 52 1) M) fun r12 M13 => some (r12, M13)) else (if jw x1 = 6 then (bnd (f_X11_answer n (M 52 2) M) fun r14 M15 => some (r14, M15)) else (if jw x1 = 7 then (bnd (f_X11_answer n (M 52 3) M) fun r16 M17 => some (r16, M17)) else (if jw x1 = 8 then (bnd (f_X1_riders n 52 M) fun r18 M19 => bnd (f_X11_answer n r18 M19) fun r20 M21 => some (r20, M21)) else (if jw x1 = 9 then (bnd (f_X11_answer n (M 52 4) M) fun r22 M23 => some (r22, M23)) else (if jw x1 = 10 then (bnd (f_X1_lateInAll n 52 M) fun r24 M25 => bnd (f_X11_answer n r24 M25) fun r26 M27 => some (r26, M27)) else (bnd (f_X11_refuse n 1 M) fun r28 M29 => some (r28, M29))))))))))))
set_option maxRecDepth 4000 in
theorem t_X11_told {g : JG} {ad : Nat → Nat} (hs : jStr g ad) (n : Nat) (x1 : Int) (M : JMem) : jB g D_X11_told ad 0 [some (.ref 0), some (ji x1)] [] M (f_X11_told n x1 M) := by
  unfold f_X11_told
  refine jo_iload 1 d_X11_told_0 rfl rfl ?_
  refine jo_if (fun c1_0 => ?_) (fun c1_0 => ?_)
  · skip
    refine jo_tabIn 60 d_X11_told_1 0 c1_0 (by decide) (by decide) rfl (by decide) ?_
    refine jo_aload 0 d_X11_told_60 rfl rfl ?_
    refine jo_aload 0 d_X11_told_61 rfl rfl ?_
    refine jo_getR (k := 7) cl_11 (Nat.le_of_ble_eq_true rfl) lk_X11_53 rfl kc_0 kr_0_7 d_X11_told_62 ?_
    refine jo_getI (k := 0) cl_4 (Nat.le_of_ble_eq_true rfl) lk_X11_212 (Or.inl rfl) kc_40 d_X11_told_65 ?_
    refine jo_callV (st := []) (m_X11_answer hs n (M 40 0) M) ok_X11_answer (And.intro (Nat.le_of_ble_eq_true rfl) (Nat.le_of_ble_eq_true rfl)) lm_X11_193 in_X11_answer se_X11_answer rfl kc_0 rfl rfl (And.intro (Nat.zero_le _) (Nat.zero_le _)) rfl (Nat.le_of_ble_eq_true rfl) d_X11_told_68 (fun r2 M3 => ?_)
    exact jo_iret rfl d_X11_told_71
  refine jo_if (fun c1_1 => ?_) (fun c1_1 => ?_)
  · skip
    refine jo_tabIn 72 d_X11_told_1 1 c1_1 (by decide) (by decide) rfl (by decide) ?_
    refine jo_aload 0 d_X11_told_72 rfl rfl ?_
    refine jo_aload 0 d_X11_told_73 rfl rfl ?_
    refine jo_getR (k := 7) cl_11 (Nat.le_of_ble_eq_true rfl) lk_X11_53 rfl kc_0 kr_0_7 d_X11_told_74 ?_
    refine jo_getI (k := 1) cl_4 (Nat.le_of_ble_eq_true rfl) lk_X11_215 (Or.inl rfl) kc_40 d_X11_told_77 ?_
    refine jo_callV (st := []) (m_X11_answer hs n (M 40 1) M) ok_X11_answer (And.intro (Nat.le_of_ble_eq_true rfl) (Nat.le_of_ble_eq_true rfl)) lm_X11_193 in_X11_answer se_X11_answer rfl kc_0 rfl rfl (And.intro (Nat.zero_le _) (Nat.zero_le _)) rfl (Nat.le_of_ble_eq_true rfl) d_X11_told_80 (fun r4 M5 => ?_)
    exact jo_iret rfl d_X11_told_83
  refine jo_if (fun c1_2 => ?_) (fun c1_2 => ?_)
  · skip
    refine jo_tabIn 84 d_X11_told_1 2 c1_2 (by decide) (by decide) rfl (by decide) ?_
    refine jo_aload 0 d_X11_told_84 rfl rfl ?_
    refine jo_aload 0 d_X11_told_85 rfl rfl ?_
    refine jo_getR (k := 7) cl_11 (Nat.le_of_ble_eq_true rfl) lk_X11_53 rfl kc_0 kr_0_7 d_X11_told_86 ?_
    refine jo_getI (k := 2) cl_4 (Nat.le_of_ble_eq_true rfl) lk_X11_190 (Or.inl rfl) kc_40 d_X11_told_89 ?_
    refine jo_callV (st := []) (m_X11_answer hs n (M 40 2) M) ok_X11_answer (And.intro (Nat.le_of_ble_eq_true rfl) (Nat.le_of_ble_eq_true rfl)) lm_X11_193 in_X11_answer se_X11_answer rfl kc_0 rfl rfl (And.intro (Nat.zero_le _) (Nat.zero_le _)) rfl (Nat.le_of_ble_eq_true rfl) d_X11_told_92 (fun r6 M7 => ?_)
    exact jo_iret rfl d_X11_told_95
  refine jo_if (fun c1_3 => ?_) (fun c1_3 => ?_)
  · skip
    refine jo_tabIn 96 d_X11_told_1 3 c1_3 (by decide) (by decide) rfl (by decide) ?_
    refine jo_aload 0 d_X11_told_96 rfl rfl ?_
    refine jo_aload 0 d_X11_told_97 rfl rfl ?_
    refine jo_getR (k := 7) cl_11 (Nat.le_of_ble_eq_true rfl) lk_X11_53 rfl kc_0 kr_0_7 d_X11_told_98 ?_
    refine jo_getI (k := 3) cl_4 (Nat.le_of_ble_eq_true rfl) lk_X11_218 (Or.inl rfl) kc_40 d_X11_told_101 ?_
    refine jo_callV (st := []) (m_X11_answer hs n (M 40 3) M) ok_X11_answer (And.intro (Nat.le_of_ble_eq_true rfl) (Nat.le_of_ble_eq_true rfl)) lm_X11_193 in_X11_answer se_X11_answer rfl kc_0 rfl rfl (And.intro (Nat.zero_le _) (Nat.zero_le _)) rfl (Nat.le_of_ble_eq_true rfl) d_X11_told_104 (fun r8 M9 => ?_)
    exact jo_iret rfl d_X11_told_107
  refine jo_if (fun c1_4 => ?_) (fun c1_4 => ?_)
  · skip
    refine jo_tabIn 108 d_X11_told_1 4 c1_4 (by decide) (by decide) rfl (by decide) ?_
    refine jo_aload 0 d_X11_told_108 rfl rfl ?_
    refine jo_aload 0 d_X11_told_109 rfl rfl ?_
    refine jo_getR (k := 8) cl_11 (Nat.le_of_ble_eq_true rfl) lk_X11_60 rfl kc_0 kr_0_8 d_X11_told_110 ?_
    refine jo_getI (k := 0) cl_1 (Nat.le_of_ble_eq_true rfl) lk_X11_221 (Or.inl rfl) kc_52 d_X11_told_113 ?_
    refine jo_callV (st := []) (m_X11_answer hs n (M 52 0) M) ok_X11_answer (And.intro (Nat.le_of_ble_eq_true rfl) (Nat.le_of_ble_eq_true rfl)) lm_X11_193 in_X11_answer se_X11_answer rfl kc_0 rfl rfl (And.intro (Nat.zero_le _) (Nat.zero_le _)) rfl (Nat.le_of_ble_eq_true rfl) d_X11_told_116 (fun r10 M11 => ?_)
    exact jo_iret rfl d_X11_told_119
  refine jo_if (fun c1_5 => ?_) (fun c1_5 => ?_)
  · skip
    refine jo_tabIn 120 d_X11_told_1 5 c1_5 (by decide) (by decide) rfl (by decide) ?_
    refine jo_aload 0 d_X11_told_120 rfl rfl ?_
    refine jo_aload 0 d_X11_told_121 rfl rfl ?_
    refine jo_getR (k := 8) cl_11 (Nat.le_of_ble_eq_true rfl) lk_X11_60 rfl kc_0 kr_0_8 d_X11_told_122 ?_
    refine jo_getI (k := 1) cl_1 (Nat.le_of_ble_eq_true rfl) lk_X11_224 (Or.inl rfl) kc_52 d_X11_told_125 ?_
    refine jo_callV (st := []) (m_X11_answer hs n (M 52 1) M) ok_X11_answer (And.intro (Nat.le_of_ble_eq_true rfl) (Nat.le_of_ble_eq_true rfl)) lm_X11_193 in_X11_answer se_X11_answer rfl kc_0 rfl rfl (And.intro (Nat.zero_le _) (Nat.zero_le _)) rfl (Nat.le_of_ble_eq_true rfl) d_X11_told_128 (fun r12 M13 => ?_)
    exact jo_iret rfl d_X11_told_131
  refine jo_if (fun c1_6 => ?_) (fun c1_6 => ?_)
  · skip
    refine jo_tabIn 132 d_X11_told_1 6 c1_6 (by decide) (by decide) rfl (by decide) ?_
    refine jo_aload 0 d_X11_told_132 rfl rfl ?_
    refine jo_aload 0 d_X11_told_133 rfl rfl ?_
    refine jo_getR (k := 8) cl_11 (Nat.le_of_ble_eq_true rfl) lk_X11_60 rfl kc_0 kr_0_8 d_X11_told_134 ?_
    refine jo_getI (k := 2) cl_1 (Nat.le_of_ble_eq_true rfl) lk_X11_227 (Or.inl rfl) kc_52 d_X11_told_137 ?_
    refine jo_callV (st := []) (m_X11_answer hs n (M 52 2) M) ok_X11_answer (And.intro (Nat.le_of_ble_eq_true rfl) (Nat.le_of_ble_eq_true rfl)) lm_X11_193 in_X11_answer se_X11_answer rfl kc_0 rfl rfl (And.intro (Nat.zero_le _) (Nat.zero_le _)) rfl (Nat.le_of_ble_eq_true rfl) d_X11_told_140 (fun r14 M15 => ?_)
    exact jo_iret rfl d_X11_told_143
  refine jo_if (fun c1_7 => ?_) (fun c1_7 => ?_)
  · skip
    refine jo_tabIn 144 d_X11_told_1 7 c1_7 (by decide) (by decide) rfl (by decide) ?_
    refine jo_aload 0 d_X11_told_144 rfl rfl ?_
    refine jo_aload 0 d_X11_told_145 rfl rfl ?_
    refine jo_getR (k := 8) cl_11 (Nat.le_of_ble_eq_true rfl) lk_X11_60 rfl kc_0 kr_0_8 d_X11_told_146 ?_
    refine jo_getI (k := 3) cl_1 (Nat.le_of_ble_eq_true rfl) lk_X11_230 (Or.inl rfl) kc_52 d_X11_told_149 ?_
    refine jo_callV (st := []) (m_X11_answer hs n (M 52 3) M) ok_X11_answer (And.intro (Nat.le_of_ble_eq_true rfl) (Nat.le_of_ble_eq_true rfl)) lm_X11_193 in_X11_answer se_X11_answer rfl kc_0 rfl rfl (And.intro (Nat.zero_le _) (Nat.zero_le _)) rfl (Nat.le_of_ble_eq_true rfl) d_X11_told_152 (fun r16 M17 => ?_)
    exact jo_iret rfl d_X11_told_155
  refine jo_if (fun c1_8 => ?_) (fun c1_8 => ?_)
  · skip
    refine jo_tabIn 156 d_X11_told_1 8 c1_8 (by decide) (by decide) rfl (by decide) ?_
    refine jo_aload 0 d_X11_told_156 rfl rfl ?_
    refine jo_aload 0 d_X11_told_157 rfl rfl ?_
    refine jo_getR (k := 8) cl_11 (Nat.le_of_ble_eq_true rfl) lk_X11_60 rfl kc_0 kr_0_8 d_X11_told_158 ?_
    refine jo_callV (st := [.ref 0]) (m_X1_riders hs n 52 kc_52 M) ok_X1_riders (And.intro (Nat.le_of_ble_eq_true rfl) (Nat.le_of_ble_eq_true rfl)) lm_X11_233 in_X1_riders se_X1_riders rfl kc_52 rfl rfl (And.intro (Nat.zero_le _) (Nat.zero_le _)) rfl (Nat.le_of_ble_eq_true rfl) d_X11_told_161 (fun r18 M19 => ?_)
    refine jo_callV (st := []) (m_X11_answer hs n r18 M19) ok_X11_answer (And.intro (Nat.le_of_ble_eq_true rfl) (Nat.le_of_ble_eq_true rfl)) lm_X11_193 in_X11_answer se_X11_answer rfl kc_0 rfl rfl (And.intro (Nat.zero_le _) (Nat.zero_le _)) rfl (Nat.le_of_ble_eq_true rfl) d_X11_told_164 (fun r20 M21 => ?_)
    exact jo_iret rfl d_X11_told_167
  refine jo_if (fun c1_9 => ?_) (fun c1_9 => ?_)
  · skip
    refine jo_tabIn 168 d_X11_told_1 9 c1_9 (by decide) (by decide) rfl (by decide) ?_
    refine jo_aload 0 d_X11_told_168 rfl rfl ?_
    refine jo_aload 0 d_X11_told_169 rfl rfl ?_
    refine jo_getR (k := 8) cl_11 (Nat.le_of_ble_eq_true rfl) lk_X11_60 rfl kc_0 kr_0_8 d_X11_told_170 ?_
    refine jo_getI (k := 4) cl_1 (Nat.le_of_ble_eq_true rfl) lk_X11_237 (Or.inl rfl) kc_52 d_X11_told_173 ?_
    refine jo_callV (st := []) (m_X11_answer hs n (M 52 4) M) ok_X11_answer (And.intro (Nat.le_of_ble_eq_true rfl) (Nat.le_of_ble_eq_true rfl)) lm_X11_193 in_X11_answer se_X11_answer rfl kc_0 rfl rfl (And.intro (Nat.zero_le _) (Nat.zero_le _)) rfl (Nat.le_of_ble_eq_true rfl) d_X11_told_176 (fun r22 M23 => ?_)
    exact jo_iret rfl d_X11_told_179
  refine jo_if (fun c1_10 => ?_) (fun c1_10 => ?_)
  · skip
    refine jo_tabIn 180 d_X11_told_1 10 c1_10 (by decide) (by decide) rfl (by decide) ?_
    refine jo_aload 0 d_X11_told_180 rfl rfl ?_
    refine jo_aload 0 d_X11_told_181 rfl rfl ?_
    refine jo_getR (k := 8) cl_11 (Nat.le_of_ble_eq_true rfl) lk_X11_60 rfl kc_0 kr_0_8 d_X11_told_182 ?_
    refine jo_callV (st := [.ref 0]) (m_X1_lateInAll hs n 52 kc_52 M) ok_X1_lateInAll (And.intro (Nat.le_of_ble_eq_true rfl) (Nat.le_of_ble_eq_true rfl)) lm_X11_240 in_X1_lateInAll se_X1_lateInAll rfl kc_52 rfl rfl (And.intro (Nat.zero_le _) (Nat.zero_le _)) rfl (Nat.le_of_ble_eq_true rfl) d_X11_told_185 (fun r24 M25 => ?_)
    refine jo_callV (st := []) (m_X11_answer hs n r24 M25) ok_X11_answer (And.intro (Nat.le_of_ble_eq_true rfl) (Nat.le_of_ble_eq_true rfl)) lm_X11_193 in_X11_answer se_X11_answer rfl kc_0 rfl rfl (And.intro (Nat.zero_le _) (Nat.zero_le _)) rfl (Nat.le_of_ble_eq_true rfl) d_X11_told_188 (fun r26 M27 => ?_)
    exact jo_iret rfl d_X11_told_191
  refine jo_tabOut 192 d_X11_told_1 (by omega) (by decide) ?_
  refine jo_aload 0 d_X11_told_192 rfl rfl ?_
  refine jo_iconst 1 d_X11_told_193 ?_
  refine jo_callV (st := []) (m_X11_refuse hs n 1 M) ok_X11_refuse (And.intro (Nat.le_of_ble_eq_true rfl) (Nat.le_of_ble_eq_true rfl)) lm_X11_143 in_X11_refuse se_X11_refuse rfl kc_0 rfl rfl (And.intro (Nat.zero_le _) (Nat.zero_le _)) rfl (Nat.le_of_ble_eq_true rfl) d_X11_told_194 (fun r28 M29 => ?_)
  exact jo_iret rfl d_X11_told_197
theorem m_X11_told {g : JG} {ad : Nat → Nat} (hs : jStr g ad) (n : Nat) (x1 : Int) (M : JMem) : jMet g jNN ad jR D_X11_told yX11_told [.ref 0, ji x1] M (f_X11_told n x1 M) :=
  jMet.of (lo0 := [some (.ref 0), some (ji x1)]) (by decide) rfl rfl (Nat.le_of_ble_eq_true rfl) (And.intro rfl (And.intro rfl True.intro)) (t_X11_told hs n x1 M)
/-! CageLeave.top()J -/
def D_X11_top : JD := (RX11, cX11_top, 1, some .long, "top", { frames := 0, cells := 0, slots := 0, locals := 0 })
theorem ok_X11_top : jOk D_X11_top yX11_top 0 := ⟨jTW_mem (k := 675) (by decide +kernel) rfl, jTW_mem (k := 135) (by decide +kernel) rfl, ⟨by decide +kernel, by decide +kernel⟩, by decide +kernel, rfl, rfl⟩
theorem in_X11_top : Cond.instanceMethod yX11_top ∈ jTW := jTW_mem (k := 673) (by decide +kernel) rfl
theorem se_X11_top : Cond.selects yX11_top.cls yX11_top yX11_top ∈ jTW := jTW_mem (k := 674) (by decide +kernel) rfl
theorem d_X11_top_0 : decode (D_X11_top).2.1 0 = .ok (.aload_n 0, 1) := by decide +kernel
theorem d_X11_top_1 : decode (D_X11_top).2.1 1 = .ok (.getfield 13, 3) := by decide +kernel
theorem d_X11_top_4 : decode (D_X11_top).2.1 4 = .ok (.lreturn, 1) := by decide +kernel
def f_X11_top (n : Nat) (M : JMem) : Option (Int × JMem) := some ((M 0 1), M)
set_option maxRecDepth 4000 in
theorem t_X11_top {g : JG} {ad : Nat → Nat} (hs : jStr g ad) (n : Nat) (M : JMem) : jB g D_X11_top ad 0 [some (.ref 0)] [] M (f_X11_top n M) := by
  unfold f_X11_top
  refine jo_aload 0 d_X11_top_0 rfl rfl ?_
  refine jo_getL (k := 1) cl_11 (Nat.le_of_ble_eq_true rfl) lk_X11_13 rfl kc_0 d_X11_top_1 ?_
  exact jo_lret rfl d_X11_top_4
theorem m_X11_top {g : JG} {ad : Nat → Nat} (hs : jStr g ad) (n : Nat) (M : JMem) : jMet g jNN ad jR D_X11_top yX11_top [.ref 0] M (f_X11_top n M) :=
  jMet.of (lo0 := [some (.ref 0)]) (by decide) rfl rfl (Nat.le_of_ble_eq_true rfl) (And.intro rfl True.intro) (t_X11_top hs n M)
/-! CageLeave.train(II)I -/
def D_X11_train : JD := (RX11, cX11_train, 3, some .int, "train", { frames := 1, cells := 0, slots := 0, locals := 21 })
theorem ok_X11_train : jOk D_X11_train yX11_train 2 := ⟨jTW_mem (k := 960) (by decide +kernel) rfl, jTW_mem (k := 135) (by decide +kernel) rfl, ⟨by decide +kernel, by decide +kernel⟩, by decide +kernel, rfl, rfl⟩
theorem in_X11_train : Cond.instanceMethod yX11_train ∈ jTW := jTW_mem (k := 958) (by decide +kernel) rfl
theorem se_X11_train : Cond.selects yX11_train.cls yX11_train yX11_train ∈ jTW := jTW_mem (k := 959) (by decide +kernel) rfl
theorem lk_X11_246 : Cond.fieldLink RX11 246 (TX4 8).1 (TX4 8).2.1 (TX4 8).2.2.1 ∈ jTW := jTW_mem (k := 329) (by decide +kernel) rfl
theorem lk_X11_249 : Cond.fieldLink RX11 249 (TX4 9).1 (TX4 9).2.1 (TX4 9).2.2.1 ∈ jTW := jTW_mem (k := 334) (by decide +kernel) rfl
theorem lk_X11_255 : Cond.fieldLink RX11 255 (TX4 11).1 (TX4 11).2.1 (TX4 11).2.2.1 ∈ jTW := jTW_mem (k := 344) (by decide +kernel) rfl
theorem lk_X11_258 : Cond.fieldLink RX11 258 (TX4 12).1 (TX4 12).2.1 (TX4 12).2.2.1 ∈ jTW := jTW_mem (k := 348) (by decide +kernel) rfl
theorem d_X11_train_0 : decode (D_X11_train).2.1 0 = .ok (.aload_n 0, 1) := by decide +kernel
theorem d_X11_train_1 : decode (D_X11_train).2.1 1 = .ok (.iload_n 1, 1) := by decide +kernel
theorem d_X11_train_2 : decode (D_X11_train).2.1 2 = .ok (.invokevirtual 243, 3) := by decide +kernel
theorem d_X11_train_5 : decode (D_X11_train).2.1 5 = .ok (.ifCond .ne 9, 3) := by decide +kernel
theorem d_X11_train_8 : decode (D_X11_train).2.1 8 = .ok (.aload_n 0, 1) := by decide +kernel
theorem d_X11_train_9 : decode (D_X11_train).2.1 9 = .ok (.iconst 1, 1) := by decide +kernel
theorem d_X11_train_10 : decode (D_X11_train).2.1 10 = .ok (.invokevirtual 143, 3) := by decide +kernel
theorem d_X11_train_13 : decode (D_X11_train).2.1 13 = .ok (.ireturn, 1) := by decide +kernel
theorem d_X11_train_14 : decode (D_X11_train).2.1 14 = .ok (.iload_n 2, 1) := by decide +kernel
theorem d_X11_train_15 : decode (D_X11_train).2.1 15 = .ok (.tableswitch 141 0 6 #[41, 55, 69, 83, 97, 111, 127], 41) := by decide +kernel
theorem d_X11_train_56 : decode (D_X11_train).2.1 56 = .ok (.aload_n 0, 1) := by decide +kernel
theorem d_X11_train_57 : decode (D_X11_train).2.1 57 = .ok (.aload_n 0, 1) := by decide +kernel
theorem d_X11_train_58 : decode (D_X11_train).2.1 58 = .ok (.getfield 53, 3) := by decide +kernel
theorem d_X11_train_61 : decode (D_X11_train).2.1 61 = .ok (.getfield 246, 3) := by decide +kernel
theorem d_X11_train_64 : decode (D_X11_train).2.1 64 = .ok (.iload_n 1, 1) := by decide +kernel
theorem d_X11_train_65 : decode (D_X11_train).2.1 65 = .ok (.iaload, 1) := by decide +kernel
theorem d_X11_train_66 : decode (D_X11_train).2.1 66 = .ok (.invokevirtual 193, 3) := by decide +kernel
theorem d_X11_train_69 : decode (D_X11_train).2.1 69 = .ok (.ireturn, 1) := by decide +kernel
theorem d_X11_train_70 : decode (D_X11_train).2.1 70 = .ok (.aload_n 0, 1) := by decide +kernel
theorem d_X11_train_71 : decode (D_X11_train).2.1 71 = .ok (.aload_n 0, 1) := by decide +kernel
theorem d_X11_train_72 : decode (D_X11_train).2.1 72 = .ok (.getfield 53, 3) := by decide +kernel
theorem d_X11_train_75 : decode (D_X11_train).2.1 75 = .ok (.getfield 249, 3) := by decide +kernel
theorem d_X11_train_78 : decode (D_X11_train).2.1 78 = .ok (.iload_n 1, 1) := by decide +kernel
theorem d_X11_train_79 : decode (D_X11_train).2.1 79 = .ok (.iaload, 1) := by decide +kernel
theorem d_X11_train_80 : decode (D_X11_train).2.1 80 = .ok (.invokevirtual 193, 3) := by decide +kernel
theorem d_X11_train_83 : decode (D_X11_train).2.1 83 = .ok (.ireturn, 1) := by decide +kernel
theorem d_X11_train_84 : decode (D_X11_train).2.1 84 = .ok (.aload_n 0, 1) := by decide +kernel
theorem d_X11_train_85 : decode (D_X11_train).2.1 85 = .ok (.aload_n 0, 1) := by decide +kernel
theorem d_X11_train_86 : decode (D_X11_train).2.1 86 = .ok (.getfield 53, 3) := by decide +kernel
theorem d_X11_train_89 : decode (D_X11_train).2.1 89 = .ok (.getfield 252, 3) := by decide +kernel
theorem d_X11_train_92 : decode (D_X11_train).2.1 92 = .ok (.iload_n 1, 1) := by decide +kernel
theorem d_X11_train_93 : decode (D_X11_train).2.1 93 = .ok (.iaload, 1) := by decide +kernel
theorem d_X11_train_94 : decode (D_X11_train).2.1 94 = .ok (.invokevirtual 193, 3) := by decide +kernel
theorem d_X11_train_97 : decode (D_X11_train).2.1 97 = .ok (.ireturn, 1) := by decide +kernel
theorem d_X11_train_98 : decode (D_X11_train).2.1 98 = .ok (.aload_n 0, 1) := by decide +kernel
theorem d_X11_train_99 : decode (D_X11_train).2.1 99 = .ok (.aload_n 0, 1) := by decide +kernel
theorem d_X11_train_100 : decode (D_X11_train).2.1 100 = .ok (.getfield 53, 3) := by decide +kernel
theorem d_X11_train_103 : decode (D_X11_train).2.1 103 = .ok (.getfield 255, 3) := by decide +kernel
theorem d_X11_train_106 : decode (D_X11_train).2.1 106 = .ok (.iload_n 1, 1) := by decide +kernel
theorem d_X11_train_107 : decode (D_X11_train).2.1 107 = .ok (.iaload, 1) := by decide +kernel
theorem d_X11_train_108 : decode (D_X11_train).2.1 108 = .ok (.invokevirtual 193, 3) := by decide +kernel
theorem d_X11_train_111 : decode (D_X11_train).2.1 111 = .ok (.ireturn, 1) := by decide +kernel
theorem d_X11_train_112 : decode (D_X11_train).2.1 112 = .ok (.aload_n 0, 1) := by decide +kernel
theorem d_X11_train_113 : decode (D_X11_train).2.1 113 = .ok (.aload_n 0, 1) := by decide +kernel
theorem d_X11_train_114 : decode (D_X11_train).2.1 114 = .ok (.getfield 53, 3) := by decide +kernel
theorem d_X11_train_117 : decode (D_X11_train).2.1 117 = .ok (.getfield 258, 3) := by decide +kernel
theorem d_X11_train_120 : decode (D_X11_train).2.1 120 = .ok (.iload_n 1, 1) := by decide +kernel
theorem d_X11_train_121 : decode (D_X11_train).2.1 121 = .ok (.iaload, 1) := by decide +kernel
theorem d_X11_train_122 : decode (D_X11_train).2.1 122 = .ok (.invokevirtual 193, 3) := by decide +kernel
theorem d_X11_train_125 : decode (D_X11_train).2.1 125 = .ok (.ireturn, 1) := by decide +kernel
theorem d_X11_train_126 : decode (D_X11_train).2.1 126 = .ok (.aload_n 0, 1) := by decide +kernel
theorem d_X11_train_127 : decode (D_X11_train).2.1 127 = .ok (.aload_n 0, 1) := by decide +kernel
theorem d_X11_train_128 : decode (D_X11_train).2.1 128 = .ok (.getfield 60, 3) := by decide +kernel
theorem d_X11_train_131 : decode (D_X11_train).2.1 131 = .ok (.getfield 237, 3) := by decide +kernel
theorem d_X11_train_134 : decode (D_X11_train).2.1 134 = .ok (.iload_n 1, 1) := by decide +kernel
theorem d_X11_train_135 : decode (D_X11_train).2.1 135 = .ok (.ishr, 1) := by decide +kernel
theorem d_X11_train_136 : decode (D_X11_train).2.1 136 = .ok (.iconst 1, 1) := by decide +kernel
theorem d_X11_train_137 : decode (D_X11_train).2.1 137 = .ok (.iand, 1) := by decide +kernel
theorem d_X11_train_138 : decode (D_X11_train).2.1 138 = .ok (.invokevirtual 193, 3) := by decide +kernel
theorem d_X11_train_141 : decode (D_X11_train).2.1 141 = .ok (.ireturn, 1) := by decide +kernel
theorem d_X11_train_142 : decode (D_X11_train).2.1 142 = .ok (.aload_n 0, 1) := by decide +kernel
theorem d_X11_train_143 : decode (D_X11_train).2.1 143 = .ok (.aload_n 0, 1) := by decide +kernel
theorem d_X11_train_144 : decode (D_X11_train).2.1 144 = .ok (.getfield 60, 3) := by decide +kernel
theorem d_X11_train_147 : decode (D_X11_train).2.1 147 = .ok (.getfield 261, 3) := by decide +kernel
theorem d_X11_train_150 : decode (D_X11_train).2.1 150 = .ok (.iload_n 1, 1) := by decide +kernel
theorem d_X11_train_151 : decode (D_X11_train).2.1 151 = .ok (.iaload, 1) := by decide +kernel
theorem d_X11_train_152 : decode (D_X11_train).2.1 152 = .ok (.invokevirtual 193, 3) := by decide +kernel
theorem d_X11_train_155 : decode (D_X11_train).2.1 155 = .ok (.ireturn, 1) := by decide +kernel
theorem d_X11_train_156 : decode (D_X11_train).2.1 156 = .ok (.aload_n 0, 1) := by decide +kernel
theorem d_X11_train_157 : decode (D_X11_train).2.1 157 = .ok (.iconst 1, 1) := by decide +kernel
theorem d_X11_train_158 : decode (D_X11_train).2.1 158 = .ok (.invokevirtual 143, 3) := by decide +kernel
theorem d_X11_train_161 : decode (D_X11_train).2.1 161 = .ok (.ireturn, 1) := by decide +kernel
def f_X11_train (n : Nat) (x1 : Int) (x2 : Int) (M : JMem) : Option (Int × JMem) := bnd (f_X11_isTrain n x1 M) fun r1 M2 => if jw r1 = 0 then (bnd (f_X11_refuse n 1 M2) fun r20 M21 => some (r20, M21)) else (if jw x2 = 0 then (chk (jin x1 8) <| bnd (f_X11_answer n (M2 (40 + 4) (jw x1).toNat) M2) fun r4 M5 => some (r4, M5)) else (if jw x2 = 1 then (chk (jin x1 8) <| bnd (f_X11_answer n (M2 (40 + 5) (jw x1).toNat) M2) fun r6 M7 => some (r6, M7)) else (if jw x2 = 2 then (chk (jin x1 8) <| bnd (f_X11_answer n (M2 (40 + 6) (jw x1).toNat) M2) fun r8 M9 => some (r8, M9)) else (if jw x2 = 3 then (chk (jin x1 8) <| bnd (f_X11_answer n (M2 (40 + 7) (jw x1).toNat) M2) fun r10 M11 => some (r10, M11)) else (if jw x2 = 4 then (chk (jin x1 8) <| bnd (f_X11_answer n (M2 (40 + 8) (jw x1).toNat) M2) fun r12 M13 => some (r12, M13)) else (if jw x2 = 5 then (bnd (f_X11_answer n (jand (jshr (M2 52 4) x1) 1) M2) fun r14 M15 => some (r14, M15)) else (if jw x2 = 6 then (chk (jin x1 8) <| bnd (f_X11_answer n (M2 (52 + 4) (jw x1).toNat) M2) fun r16 M17 => some (r16, M17)) else (bnd (f_X11_refuse n 1 M2) fun r18 M19 => some (r18, M19)))))))))
set_option maxRecDepth 4000 in
theorem t_X11_train {g : JG} {ad : Nat → Nat} (hs : jStr g ad) (n : Nat) (x1 : Int) (x2 : Int) (M : JMem) : jB g D_X11_train ad 0 [some (.ref 0), some (ji x1), some (ji x2)] [] M (f_X11_train n x1 x2 M) := by
  unfold f_X11_train
  refine jo_aload 0 d_X11_train_0 rfl rfl ?_
  refine jo_iload 1 d_X11_train_1 rfl rfl ?_
  refine jo_callV (st := []) (m_X11_isTrain hs n x1 M) ok_X11_isTrain (And.intro (Nat.le_of_ble_eq_true rfl) (Nat.le_of_ble_eq_true rfl)) lm_X11_243 in_X11_isTrain se_X11_isTrain rfl kc_0 rfl rfl (And.intro (Nat.zero_le _) (Nat.zero_le _)) rfl (Nat.le_of_ble_eq_true rfl) d_X11_train_2 (fun r1 M2 => ?_)
  refine jo_if_ne 14 d_X11_train_5 (by decide) ?_ ?_
  · skip
    refine jo_iload 2 d_X11_train_14 rfl rfl ?_
    refine jo_if (fun c3_0 => ?_) (fun c3_0 => ?_)
    · skip
      refine jo_tabIn 56 d_X11_train_15 0 c3_0 (by decide) (by decide) rfl (by decide) ?_
      refine jo_aload 0 d_X11_train_56 rfl rfl ?_
      refine jo_aload 0 d_X11_train_57 rfl rfl ?_
      refine jo_getR (k := 7) cl_11 (Nat.le_of_ble_eq_true rfl) lk_X11_53 rfl kc_0 kr_0_7 d_X11_train_58 ?_
      refine jo_getR (k := 8) cl_4 (Nat.le_of_ble_eq_true rfl) lk_X11_246 rfl kc_40 (kr_Plan_8 kc_40) d_X11_train_61 ?_
      refine jo_iload 1 d_X11_train_64 rfl rfl ?_
      refine jo_iald (N := 8) (ka_Plan_8 kc_40) d_X11_train_65 ?_
      refine jo_callV (st := []) (m_X11_answer hs n (M2 (40 + 4) (jw x1).toNat) M2) ok_X11_answer (And.intro (Nat.le_of_ble_eq_true rfl) (Nat.le_of_ble_eq_true rfl)) lm_X11_193 in_X11_answer se_X11_answer rfl kc_0 rfl rfl (And.intro (Nat.zero_le _) (Nat.zero_le _)) rfl (Nat.le_of_ble_eq_true rfl) d_X11_train_66 (fun r4 M5 => ?_)
      exact jo_iret rfl d_X11_train_69
    refine jo_if (fun c3_1 => ?_) (fun c3_1 => ?_)
    · skip
      refine jo_tabIn 70 d_X11_train_15 1 c3_1 (by decide) (by decide) rfl (by decide) ?_
      refine jo_aload 0 d_X11_train_70 rfl rfl ?_
      refine jo_aload 0 d_X11_train_71 rfl rfl ?_
      refine jo_getR (k := 7) cl_11 (Nat.le_of_ble_eq_true rfl) lk_X11_53 rfl kc_0 kr_0_7 d_X11_train_72 ?_
      refine jo_getR (k := 9) cl_4 (Nat.le_of_ble_eq_true rfl) lk_X11_249 rfl kc_40 (kr_Plan_9 kc_40) d_X11_train_75 ?_
      refine jo_iload 1 d_X11_train_78 rfl rfl ?_
      refine jo_iald (N := 8) (ka_Plan_9 kc_40) d_X11_train_79 ?_
      refine jo_callV (st := []) (m_X11_answer hs n (M2 (40 + 5) (jw x1).toNat) M2) ok_X11_answer (And.intro (Nat.le_of_ble_eq_true rfl) (Nat.le_of_ble_eq_true rfl)) lm_X11_193 in_X11_answer se_X11_answer rfl kc_0 rfl rfl (And.intro (Nat.zero_le _) (Nat.zero_le _)) rfl (Nat.le_of_ble_eq_true rfl) d_X11_train_80 (fun r6 M7 => ?_)
      exact jo_iret rfl d_X11_train_83
    refine jo_if (fun c3_2 => ?_) (fun c3_2 => ?_)
    · skip
      refine jo_tabIn 84 d_X11_train_15 2 c3_2 (by decide) (by decide) rfl (by decide) ?_
      refine jo_aload 0 d_X11_train_84 rfl rfl ?_
      refine jo_aload 0 d_X11_train_85 rfl rfl ?_
      refine jo_getR (k := 7) cl_11 (Nat.le_of_ble_eq_true rfl) lk_X11_53 rfl kc_0 kr_0_7 d_X11_train_86 ?_
      refine jo_getR (k := 10) cl_4 (Nat.le_of_ble_eq_true rfl) lk_X11_252 rfl kc_40 (kr_Plan_10 kc_40) d_X11_train_89 ?_
      refine jo_iload 1 d_X11_train_92 rfl rfl ?_
      refine jo_iald (N := 8) (ka_Plan_10 kc_40) d_X11_train_93 ?_
      refine jo_callV (st := []) (m_X11_answer hs n (M2 (40 + 6) (jw x1).toNat) M2) ok_X11_answer (And.intro (Nat.le_of_ble_eq_true rfl) (Nat.le_of_ble_eq_true rfl)) lm_X11_193 in_X11_answer se_X11_answer rfl kc_0 rfl rfl (And.intro (Nat.zero_le _) (Nat.zero_le _)) rfl (Nat.le_of_ble_eq_true rfl) d_X11_train_94 (fun r8 M9 => ?_)
      exact jo_iret rfl d_X11_train_97
    refine jo_if (fun c3_3 => ?_) (fun c3_3 => ?_)
    · skip
      refine jo_tabIn 98 d_X11_train_15 3 c3_3 (by decide) (by decide) rfl (by decide) ?_
      refine jo_aload 0 d_X11_train_98 rfl rfl ?_
      refine jo_aload 0 d_X11_train_99 rfl rfl ?_
      refine jo_getR (k := 7) cl_11 (Nat.le_of_ble_eq_true rfl) lk_X11_53 rfl kc_0 kr_0_7 d_X11_train_100 ?_
      refine jo_getR (k := 11) cl_4 (Nat.le_of_ble_eq_true rfl) lk_X11_255 rfl kc_40 (kr_Plan_11 kc_40) d_X11_train_103 ?_
      refine jo_iload 1 d_X11_train_106 rfl rfl ?_
      refine jo_iald (N := 8) (ka_Plan_11 kc_40) d_X11_train_107 ?_
      refine jo_callV (st := []) (m_X11_answer hs n (M2 (40 + 7) (jw x1).toNat) M2) ok_X11_answer (And.intro (Nat.le_of_ble_eq_true rfl) (Nat.le_of_ble_eq_true rfl)) lm_X11_193 in_X11_answer se_X11_answer rfl kc_0 rfl rfl (And.intro (Nat.zero_le _) (Nat.zero_le _)) rfl (Nat.le_of_ble_eq_true rfl) d_X11_train_108 (fun r10 M11 => ?_)
      exact jo_iret rfl d_X11_train_111
    refine jo_if (fun c3_4 => ?_) (fun c3_4 => ?_)
    · skip
      refine jo_tabIn 112 d_X11_train_15 4 c3_4 (by decide) (by decide) rfl (by decide) ?_
      refine jo_aload 0 d_X11_train_112 rfl rfl ?_
      refine jo_aload 0 d_X11_train_113 rfl rfl ?_
      refine jo_getR (k := 7) cl_11 (Nat.le_of_ble_eq_true rfl) lk_X11_53 rfl kc_0 kr_0_7 d_X11_train_114 ?_
      refine jo_getR (k := 12) cl_4 (Nat.le_of_ble_eq_true rfl) lk_X11_258 rfl kc_40 (kr_Plan_12 kc_40) d_X11_train_117 ?_
      refine jo_iload 1 d_X11_train_120 rfl rfl ?_
      refine jo_iald (N := 8) (ka_Plan_12 kc_40) d_X11_train_121 ?_
      refine jo_callV (st := []) (m_X11_answer hs n (M2 (40 + 8) (jw x1).toNat) M2) ok_X11_answer (And.intro (Nat.le_of_ble_eq_true rfl) (Nat.le_of_ble_eq_true rfl)) lm_X11_193 in_X11_answer se_X11_answer rfl kc_0 rfl rfl (And.intro (Nat.zero_le _) (Nat.zero_le _)) rfl (Nat.le_of_ble_eq_true rfl) d_X11_train_122 (fun r12 M13 => ?_)
      exact jo_iret rfl d_X11_train_125
    refine jo_if (fun c3_5 => ?_) (fun c3_5 => ?_)
    · skip
      refine jo_tabIn 126 d_X11_train_15 5 c3_5 (by decide) (by decide) rfl (by decide) ?_
      refine jo_aload 0 d_X11_train_126 rfl rfl ?_
      refine jo_aload 0 d_X11_train_127 rfl rfl ?_
      refine jo_getR (k := 8) cl_11 (Nat.le_of_ble_eq_true rfl) lk_X11_60 rfl kc_0 kr_0_8 d_X11_train_128 ?_
      refine jo_getI (k := 4) cl_1 (Nat.le_of_ble_eq_true rfl) lk_X11_237 (Or.inl rfl) kc_52 d_X11_train_131 ?_
      refine jo_iload 1 d_X11_train_134 rfl rfl ?_
      refine jo_ishr d_X11_train_135 ?_
      refine jo_iconst 1 d_X11_train_136 ?_
      refine jo_iand d_X11_train_137 ?_
      refine jo_callV (st := []) (m_X11_answer hs n (jand (jshr (M2 52 4) x1) 1) M2) ok_X11_answer (And.intro (Nat.le_of_ble_eq_true rfl) (Nat.le_of_ble_eq_true rfl)) lm_X11_193 in_X11_answer se_X11_answer rfl kc_0 rfl rfl (And.intro (Nat.zero_le _) (Nat.zero_le _)) rfl (Nat.le_of_ble_eq_true rfl) d_X11_train_138 (fun r14 M15 => ?_)
      exact jo_iret rfl d_X11_train_141
    refine jo_if (fun c3_6 => ?_) (fun c3_6 => ?_)
    · skip
      refine jo_tabIn 142 d_X11_train_15 6 c3_6 (by decide) (by decide) rfl (by decide) ?_
      refine jo_aload 0 d_X11_train_142 rfl rfl ?_
      refine jo_aload 0 d_X11_train_143 rfl rfl ?_
      refine jo_getR (k := 8) cl_11 (Nat.le_of_ble_eq_true rfl) lk_X11_60 rfl kc_0 kr_0_8 d_X11_train_144 ?_
      refine jo_getR (k := 8) cl_1 (Nat.le_of_ble_eq_true rfl) lk_X11_261 rfl kc_52 (kr_Now_8 kc_52) d_X11_train_147 ?_
      refine jo_iload 1 d_X11_train_150 rfl rfl ?_
      refine jo_iald (N := 8) (ka_Now_8 kc_52) d_X11_train_151 ?_
      refine jo_callV (st := []) (m_X11_answer hs n (M2 (52 + 4) (jw x1).toNat) M2) ok_X11_answer (And.intro (Nat.le_of_ble_eq_true rfl) (Nat.le_of_ble_eq_true rfl)) lm_X11_193 in_X11_answer se_X11_answer rfl kc_0 rfl rfl (And.intro (Nat.zero_le _) (Nat.zero_le _)) rfl (Nat.le_of_ble_eq_true rfl) d_X11_train_152 (fun r16 M17 => ?_)
      exact jo_iret rfl d_X11_train_155
    refine jo_tabOut 156 d_X11_train_15 (by omega) (by decide) ?_
    refine jo_aload 0 d_X11_train_156 rfl rfl ?_
    refine jo_iconst 1 d_X11_train_157 ?_
    refine jo_callV (st := []) (m_X11_refuse hs n 1 M2) ok_X11_refuse (And.intro (Nat.le_of_ble_eq_true rfl) (Nat.le_of_ble_eq_true rfl)) lm_X11_143 in_X11_refuse se_X11_refuse rfl kc_0 rfl rfl (And.intro (Nat.zero_le _) (Nat.zero_le _)) rfl (Nat.le_of_ble_eq_true rfl) d_X11_train_158 (fun r18 M19 => ?_)
    exact jo_iret rfl d_X11_train_161
  · skip
    refine jo_aload 0 d_X11_train_8 rfl rfl ?_
    refine jo_iconst 1 d_X11_train_9 ?_
    refine jo_callV (st := []) (m_X11_refuse hs n 1 M2) ok_X11_refuse (And.intro (Nat.le_of_ble_eq_true rfl) (Nat.le_of_ble_eq_true rfl)) lm_X11_143 in_X11_refuse se_X11_refuse rfl kc_0 rfl rfl (And.intro (Nat.zero_le _) (Nat.zero_le _)) rfl (Nat.le_of_ble_eq_true rfl) d_X11_train_10 (fun r20 M21 => ?_)
    exact jo_iret rfl d_X11_train_13
theorem m_X11_train {g : JG} {ad : Nat → Nat} (hs : jStr g ad) (n : Nat) (x1 : Int) (x2 : Int) (M : JMem) : jMet g jNN ad jR D_X11_train yX11_train [.ref 0, ji x1, ji x2] M (f_X11_train n x1 x2 M) :=
  jMet.of (lo0 := [some (.ref 0), some (ji x1), some (ji x2)]) (by decide) rfl rfl (Nat.le_of_ble_eq_true rfl) (And.intro rfl (And.intro rfl (And.intro rfl True.intro))) (t_X11_train hs n x1 x2 M)
/-! CageLeave.tray(III)Z -/
def D_X11_tray : JD := (RX11, cX11_tray, 4, some .boolean, "tray", { frames := 1, cells := 0, slots := 0, locals := 24 })
theorem ok_X11_tray : jOk D_X11_tray yX11_tray 3 := ⟨jTW_mem (k := 683) (by decide +kernel) rfl, jTW_mem (k := 135) (by decide +kernel) rfl, ⟨by decide +kernel, by decide +kernel⟩, by decide +kernel, rfl, rfl⟩
theorem in_X11_tray : Cond.instanceMethod yX11_tray ∈ jTW := jTW_mem (k := 681) (by decide +kernel) rfl
theorem se_X11_tray : Cond.selects yX11_tray.cls yX11_tray yX11_tray ∈ jTW := jTW_mem (k := 682) (by decide +kernel) rfl
theorem lm_X11_127 : Cond.methodLink RX11 127 yX7_lay ∈ jTW := jTW_mem (k := 691) (by decide +kernel) rfl
theorem d_X11_tray_0 : decode (D_X11_tray).2.1 0 = .ok (.iload_n 1, 1) := by decide +kernel
theorem d_X11_tray_1 : decode (D_X11_tray).2.1 1 = .ok (.invokestatic 120, 3) := by decide +kernel
theorem d_X11_tray_4 : decode (D_X11_tray).2.1 4 = .ok (.ifCond .eq 22, 3) := by decide +kernel
theorem d_X11_tray_7 : decode (D_X11_tray).2.1 7 = .ok (.iload_n 2, 1) := by decide +kernel
theorem d_X11_tray_8 : decode (D_X11_tray).2.1 8 = .ok (.ifCond .lt 18, 3) := by decide +kernel
theorem d_X11_tray_11 : decode (D_X11_tray).2.1 11 = .ok (.iload_n 2, 1) := by decide +kernel
theorem d_X11_tray_12 : decode (D_X11_tray).2.1 12 = .ok (.iconst 3, 1) := by decide +kernel
theorem d_X11_tray_13 : decode (D_X11_tray).2.1 13 = .ok (.if_icmp .gt 13, 3) := by decide +kernel
theorem d_X11_tray_16 : decode (D_X11_tray).2.1 16 = .ok (.iload_n 3, 1) := by decide +kernel
theorem d_X11_tray_17 : decode (D_X11_tray).2.1 17 = .ok (.ifCond .lt 9, 3) := by decide +kernel
theorem d_X11_tray_20 : decode (D_X11_tray).2.1 20 = .ok (.iload_n 3, 1) := by decide +kernel
theorem d_X11_tray_21 : decode (D_X11_tray).2.1 21 = .ok (.bipush 60, 2) := by decide +kernel
theorem d_X11_tray_23 : decode (D_X11_tray).2.1 23 = .ok (.if_icmp .le 9, 3) := by decide +kernel
theorem d_X11_tray_26 : decode (D_X11_tray).2.1 26 = .ok (.aload_n 0, 1) := by decide +kernel
theorem d_X11_tray_27 : decode (D_X11_tray).2.1 27 = .ok (.iconst 1, 1) := by decide +kernel
theorem d_X11_tray_28 : decode (D_X11_tray).2.1 28 = .ok (.invokevirtual 124, 3) := by decide +kernel
theorem d_X11_tray_31 : decode (D_X11_tray).2.1 31 = .ok (.ireturn, 1) := by decide +kernel
theorem d_X11_tray_32 : decode (D_X11_tray).2.1 32 = .ok (.aload_n 0, 1) := by decide +kernel
theorem d_X11_tray_33 : decode (D_X11_tray).2.1 33 = .ok (.getfield 23, 3) := by decide +kernel
theorem d_X11_tray_36 : decode (D_X11_tray).2.1 36 = .ok (.iload_n 1, 1) := by decide +kernel
theorem d_X11_tray_37 : decode (D_X11_tray).2.1 37 = .ok (.iload_n 2, 1) := by decide +kernel
theorem d_X11_tray_38 : decode (D_X11_tray).2.1 38 = .ok (.iload_n 3, 1) := by decide +kernel
theorem d_X11_tray_39 : decode (D_X11_tray).2.1 39 = .ok (.invokevirtual 127, 3) := by decide +kernel
theorem d_X11_tray_42 : decode (D_X11_tray).2.1 42 = .ok (.aload_n 0, 1) := by decide +kernel
theorem d_X11_tray_43 : decode (D_X11_tray).2.1 43 = .ok (.invokevirtual 131, 3) := by decide +kernel
theorem d_X11_tray_46 : decode (D_X11_tray).2.1 46 = .ok (.ireturn, 1) := by decide +kernel
def f_X11_tray_L26 (n : Nat) (M : JMem) : Option (Int × JMem) := bnd (f_X11_deny n 1 M) fun r1 M2 => chk (jw r1 = 0 ∨ jw r1 = 1) (some (r1, M2))
set_option maxRecDepth 4000 in
theorem t_X11_tray_L26 {g : JG} {ad : Nat → Nat} (hs : jStr g ad) (n : Nat) (M : JMem) : jB g D_X11_tray ad 26 [some (.ref 0), none, none, none] [] M (f_X11_tray_L26 n M) := by
  unfold f_X11_tray_L26
  refine jo_aload 0 d_X11_tray_26 rfl rfl ?_
  refine jo_iconst 1 d_X11_tray_27 ?_
  refine jo_callV (st := []) (m_X11_deny hs n 1 M) ok_X11_deny (And.intro (Nat.le_of_ble_eq_true rfl) (Nat.le_of_ble_eq_true rfl)) lm_X11_124 in_X11_deny se_X11_deny rfl kc_0 rfl rfl (And.intro (Nat.zero_le _) (Nat.zero_le _)) rfl (Nat.le_of_ble_eq_true rfl) d_X11_tray_28 (fun r1 M2 => ?_)
  exact jo_zretq rfl d_X11_tray_31
def f_X11_tray (n : Nat) (x1 : Int) (x2 : Int) (x3 : Int) (M : JMem) : Option (Int × JMem) := bnd (f_X7_isTray n x1 M) fun r1 M2 => if jw r1 = 0 then (f_X11_tray_L26 n M2) else (if jw x2 < 0 then (f_X11_tray_L26 n M2) else (if jw 3 < jw x2 then (f_X11_tray_L26 n M2) else (if jw x3 < 0 then (f_X11_tray_L26 n M2) else (if jw x3 ≤ jw 60 then (bnd (f_X7_lay n x1 x2 x3 M2) fun _ M4 => bnd (f_X11_allow n M4) fun r5 M6 => chk (jw r5 = 0 ∨ jw r5 = 1) (some (r5, M6))) else (f_X11_tray_L26 n M2)))))
set_option maxRecDepth 4000 in
theorem t_X11_tray {g : JG} {ad : Nat → Nat} (hs : jStr g ad) (n : Nat) (x1 : Int) (x2 : Int) (x3 : Int) (M : JMem) : jB g D_X11_tray ad 0 [some (.ref 0), some (ji x1), some (ji x2), some (ji x3)] [] M (f_X11_tray n x1 x2 x3 M) := by
  unfold f_X11_tray
  refine jo_iload 1 d_X11_tray_0 rfl rfl ?_
  refine jo_callS (st := []) (m_X7_isTray hs n x1 M) ok_X7_isTray (And.intro (Nat.le_of_ble_eq_true rfl) (Nat.le_of_ble_eq_true rfl)) lm_X11_120 st_X7_isTray rfl (And.intro (Nat.zero_le _) (Nat.zero_le _)) rfl (Nat.le_of_ble_eq_true rfl) d_X11_tray_1 (fun r1 M2 => ?_)
  refine jo_if_eq 26 d_X11_tray_4 (by decide) ?_ ?_
  · skip
    exact jO.sub (t_X11_tray_L26 hs n M2) (And.intro rfl True.intro)
  · skip
    refine jo_iload 2 d_X11_tray_7 rfl rfl ?_
    refine jo_if_lt 26 d_X11_tray_8 (by decide) ?_ ?_
    · skip
      exact jO.sub (t_X11_tray_L26 hs n M2) (And.intro rfl True.intro)
    · skip
      refine jo_iload 2 d_X11_tray_11 rfl rfl ?_
      refine jo_iconst 3 d_X11_tray_12 ?_
      refine jo_icmp_gt 26 d_X11_tray_13 (by decide) ?_ ?_
      · skip
        exact jO.sub (t_X11_tray_L26 hs n M2) (And.intro rfl True.intro)
      · skip
        refine jo_iload 3 d_X11_tray_16 rfl rfl ?_
        refine jo_if_lt 26 d_X11_tray_17 (by decide) ?_ ?_
        · skip
          exact jO.sub (t_X11_tray_L26 hs n M2) (And.intro rfl True.intro)
        · skip
          refine jo_iload 3 d_X11_tray_20 rfl rfl ?_
          refine jo_bipush 60 d_X11_tray_21 (by decide) ?_
          refine jo_icmp_le 32 d_X11_tray_23 (by decide) ?_ ?_
          · skip
            refine jo_aload 0 d_X11_tray_32 rfl rfl ?_
            refine jo_getR (k := 3) cl_11 (Nat.le_of_ble_eq_true rfl) lk_X11_23 rfl kc_0 kr_0_3 d_X11_tray_33 ?_
            refine jo_iload 1 d_X11_tray_36 rfl rfl ?_
            refine jo_iload 2 d_X11_tray_37 rfl rfl ?_
            refine jo_iload 3 d_X11_tray_38 rfl rfl ?_
            refine jo_callV (st := []) (m_X7_lay hs n x1 x2 x3 M2) ok_X7_lay (And.intro (Nat.le_of_ble_eq_true rfl) (Nat.le_of_ble_eq_true rfl)) lm_X11_127 in_X7_lay se_X7_lay rfl kc_1 rfl rfl (And.intro (Nat.zero_le _) (Nat.zero_le _)) rfl (Nat.le_of_ble_eq_true rfl) d_X11_tray_39 (fun _ M4 => ?_)
            refine jo_aload 0 d_X11_tray_42 rfl rfl ?_
            refine jo_callV (st := []) (m_X11_allow hs n M4) ok_X11_allow (And.intro (Nat.le_of_ble_eq_true rfl) (Nat.le_of_ble_eq_true rfl)) lm_X11_131 in_X11_allow se_X11_allow rfl kc_0 rfl rfl (And.intro (Nat.zero_le _) (Nat.zero_le _)) rfl (Nat.le_of_ble_eq_true rfl) d_X11_tray_43 (fun r5 M6 => ?_)
            exact jo_zretq rfl d_X11_tray_46
          · skip
            exact jO.sub (t_X11_tray_L26 hs n M2) (And.intro rfl True.intro)
theorem m_X11_tray {g : JG} {ad : Nat → Nat} (hs : jStr g ad) (n : Nat) (x1 : Int) (x2 : Int) (x3 : Int) (M : JMem) : jMet g jNN ad jR D_X11_tray yX11_tray [.ref 0, ji x1, ji x2, ji x3] M (f_X11_tray n x1 x2 x3 M) :=
  jMet.of (lo0 := [some (.ref 0), some (ji x1), some (ji x2), some (ji x3)]) (by decide) rfl rfl (Nat.le_of_ble_eq_true rfl) (And.intro rfl (And.intro rfl (And.intro rfl (And.intro rfl True.intro)))) (t_X11_tray hs n x1 x2 x3 M)
/-! CageLeave.trust(II)Z -/
def D_X11_trust : JD := (RX11, cX11_trust, 3, some .boolean, "trust", { frames := 1, cells := 0, slots := 0, locals := 21 })
theorem ok_X11_trust : jOk D_X11_trust yX11_trust 2 := ⟨jTW_mem (k := 1076) (by decide +kernel) rfl, jTW_mem (k := 135) (by decide +kernel) rfl, ⟨by decide +kernel, by decide +kernel⟩, by decide +kernel, rfl, rfl⟩
theorem in_X11_trust : Cond.instanceMethod yX11_trust ∈ jTW := jTW_mem (k := 1074) (by decide +kernel) rfl
theorem se_X11_trust : Cond.selects yX11_trust.cls yX11_trust yX11_trust ∈ jTW := jTW_mem (k := 1075) (by decide +kernel) rfl
theorem d_X11_trust_0 : decode (D_X11_trust).2.1 0 = .ok (.aload_n 0, 1) := by decide +kernel
theorem d_X11_trust_1 : decode (D_X11_trust).2.1 1 = .ok (.iload_n 1, 1) := by decide +kernel
theorem d_X11_trust_2 : decode (D_X11_trust).2.1 2 = .ok (.invokevirtual 264, 3) := by decide +kernel
theorem d_X11_trust_5 : decode (D_X11_trust).2.1 5 = .ok (.ifCond .eq 13, 3) := by decide +kernel
theorem d_X11_trust_8 : decode (D_X11_trust).2.1 8 = .ok (.iload_n 2, 1) := by decide +kernel
theorem d_X11_trust_9 : decode (D_X11_trust).2.1 9 = .ok (.ifCond .lt 9, 3) := by decide +kernel
theorem d_X11_trust_12 : decode (D_X11_trust).2.1 12 = .ok (.iload_n 2, 1) := by decide +kernel
theorem d_X11_trust_13 : decode (D_X11_trust).2.1 13 = .ok (.bipush 16, 2) := by decide +kernel
theorem d_X11_trust_15 : decode (D_X11_trust).2.1 15 = .ok (.if_icmp .le 9, 3) := by decide +kernel
theorem d_X11_trust_18 : decode (D_X11_trust).2.1 18 = .ok (.aload_n 0, 1) := by decide +kernel
theorem d_X11_trust_19 : decode (D_X11_trust).2.1 19 = .ok (.iconst 1, 1) := by decide +kernel
theorem d_X11_trust_20 : decode (D_X11_trust).2.1 20 = .ok (.invokevirtual 124, 3) := by decide +kernel
theorem d_X11_trust_23 : decode (D_X11_trust).2.1 23 = .ok (.ireturn, 1) := by decide +kernel
theorem d_X11_trust_24 : decode (D_X11_trust).2.1 24 = .ok (.aload_n 0, 1) := by decide +kernel
theorem d_X11_trust_25 : decode (D_X11_trust).2.1 25 = .ok (.getfield 53, 3) := by decide +kernel
theorem d_X11_trust_28 : decode (D_X11_trust).2.1 28 = .ok (.getfield 270, 3) := by decide +kernel
theorem d_X11_trust_31 : decode (D_X11_trust).2.1 31 = .ok (.iload_n 1, 1) := by decide +kernel
theorem d_X11_trust_32 : decode (D_X11_trust).2.1 32 = .ok (.iload_n 2, 1) := by decide +kernel
theorem d_X11_trust_33 : decode (D_X11_trust).2.1 33 = .ok (.iastore, 1) := by decide +kernel
theorem d_X11_trust_34 : decode (D_X11_trust).2.1 34 = .ok (.aload_n 0, 1) := by decide +kernel
theorem d_X11_trust_35 : decode (D_X11_trust).2.1 35 = .ok (.invokevirtual 131, 3) := by decide +kernel
theorem d_X11_trust_38 : decode (D_X11_trust).2.1 38 = .ok (.ireturn, 1) := by decide +kernel
def f_X11_trust_L18 (n : Nat) (M : JMem) : Option (Int × JMem) := bnd (f_X11_deny n 1 M) fun r1 M2 => chk (jw r1 = 0 ∨ jw r1 = 1) (some (r1, M2))
set_option maxRecDepth 4000 in
theorem t_X11_trust_L18 {g : JG} {ad : Nat → Nat} (hs : jStr g ad) (n : Nat) (M : JMem) : jB g D_X11_trust ad 18 [some (.ref 0), none, none] [] M (f_X11_trust_L18 n M) := by
  unfold f_X11_trust_L18
  refine jo_aload 0 d_X11_trust_18 rfl rfl ?_
  refine jo_iconst 1 d_X11_trust_19 ?_
  refine jo_callV (st := []) (m_X11_deny hs n 1 M) ok_X11_deny (And.intro (Nat.le_of_ble_eq_true rfl) (Nat.le_of_ble_eq_true rfl)) lm_X11_124 in_X11_deny se_X11_deny rfl kc_0 rfl rfl (And.intro (Nat.zero_le _) (Nat.zero_le _)) rfl (Nat.le_of_ble_eq_true rfl) d_X11_trust_20 (fun r1 M2 => ?_)
  exact jo_zretq rfl d_X11_trust_23
def f_X11_trust (n : Nat) (x1 : Int) (x2 : Int) (M : JMem) : Option (Int × JMem) := bnd (f_X11_isBeast n x1 M) fun r1 M2 => if jw r1 = 0 then (f_X11_trust_L18 n M2) else (if jw x2 < 0 then (f_X11_trust_L18 n M2) else (if jw x2 ≤ jw 16 then (chk (jin x1 8) <| letm (jup M2 (40 + 10) (jw x1).toNat x2) fun M3 => bnd (f_X11_allow n M3) fun r4 M5 => chk (jw r4 = 0 ∨ jw r4 = 1) (some (r4, M5))) else (f_X11_trust_L18 n M2)))
set_option maxRecDepth 4000 in
theorem t_X11_trust {g : JG} {ad : Nat → Nat} (hs : jStr g ad) (n : Nat) (x1 : Int) (x2 : Int) (M : JMem) : jB g D_X11_trust ad 0 [some (.ref 0), some (ji x1), some (ji x2)] [] M (f_X11_trust n x1 x2 M) := by
  unfold f_X11_trust
  refine jo_aload 0 d_X11_trust_0 rfl rfl ?_
  refine jo_iload 1 d_X11_trust_1 rfl rfl ?_
  refine jo_callV (st := []) (m_X11_isBeast hs n x1 M) ok_X11_isBeast (And.intro (Nat.le_of_ble_eq_true rfl) (Nat.le_of_ble_eq_true rfl)) lm_X11_264 in_X11_isBeast se_X11_isBeast rfl kc_0 rfl rfl (And.intro (Nat.zero_le _) (Nat.zero_le _)) rfl (Nat.le_of_ble_eq_true rfl) d_X11_trust_2 (fun r1 M2 => ?_)
  refine jo_if_eq 18 d_X11_trust_5 (by decide) ?_ ?_
  · skip
    exact jO.sub (t_X11_trust_L18 hs n M2) (And.intro rfl True.intro)
  · skip
    refine jo_iload 2 d_X11_trust_8 rfl rfl ?_
    refine jo_if_lt 18 d_X11_trust_9 (by decide) ?_ ?_
    · skip
      exact jO.sub (t_X11_trust_L18 hs n M2) (And.intro rfl True.intro)
    · skip
      refine jo_iload 2 d_X11_trust_12 rfl rfl ?_
      refine jo_bipush 16 d_X11_trust_13 (by decide) ?_
      refine jo_icmp_le 24 d_X11_trust_15 (by decide) ?_ ?_
      · skip
        refine jo_aload 0 d_X11_trust_24 rfl rfl ?_
        refine jo_getR (k := 7) cl_11 (Nat.le_of_ble_eq_true rfl) lk_X11_53 rfl kc_0 kr_0_7 d_X11_trust_25 ?_
        refine jo_getR (k := 14) cl_4 (Nat.le_of_ble_eq_true rfl) lk_X11_270 rfl kc_40 (kr_Plan_14 kc_40) d_X11_trust_28 ?_
        refine jo_iload 1 d_X11_trust_31 rfl rfl ?_
        refine jo_iload 2 d_X11_trust_32 rfl rfl ?_
        refine jo_iast (N := 8) (ka_Plan_14 kc_40) d_X11_trust_33 (fun M3 => ?_)
        refine jo_aload 0 d_X11_trust_34 rfl rfl ?_
        refine jo_callV (st := []) (m_X11_allow hs n M3) ok_X11_allow (And.intro (Nat.le_of_ble_eq_true rfl) (Nat.le_of_ble_eq_true rfl)) lm_X11_131 in_X11_allow se_X11_allow rfl kc_0 rfl rfl (And.intro (Nat.zero_le _) (Nat.zero_le _)) rfl (Nat.le_of_ble_eq_true rfl) d_X11_trust_35 (fun r4 M5 => ?_)
        exact jo_zretq rfl d_X11_trust_38
      · skip
        exact jO.sub (t_X11_trust_L18 hs n M2) (And.intro rfl True.intro)
theorem m_X11_trust {g : JG} {ad : Nat → Nat} (hs : jStr g ad) (n : Nat) (x1 : Int) (x2 : Int) (M : JMem) : jMet g jNN ad jR D_X11_trust yX11_trust [.ref 0, ji x1, ji x2] M (f_X11_trust n x1 x2 M) :=
  jMet.of (lo0 := [some (.ref 0), some (ji x1), some (ji x2)]) (by decide) rfl rfl (Nat.le_of_ble_eq_true rfl) (And.intro rfl (And.intro rfl (And.intro rfl True.intro))) (t_X11_trust hs n x1 x2 M)
/-! CageLeave.undo()I -/
def D_X11_undo : JD := (RX11, cX11_undo, 1, some .int, "undo", { frames := 2, cells := 0, slots := 0, locals := 81 })
theorem ok_X11_undo : jOk D_X11_undo yX11_undo 0 := ⟨jTW_mem (k := 1365) (by decide +kernel) rfl, jTW_mem (k := 135) (by decide +kernel) rfl, ⟨by decide +kernel, by decide +kernel⟩, by decide +kernel, rfl, rfl⟩
theorem in_X11_undo : Cond.instanceMethod yX11_undo ∈ jTW := jTW_mem (k := 1363) (by decide +kernel) rfl
theorem se_X11_undo : Cond.selects yX11_undo.cls yX11_undo yX11_undo ∈ jTW := jTW_mem (k := 1364) (by decide +kernel) rfl
theorem d_X11_undo_0 : decode (D_X11_undo).2.1 0 = .ok (.aload_n 0, 1) := by decide +kernel
theorem d_X11_undo_1 : decode (D_X11_undo).2.1 1 = .ok (.getfield 83, 3) := by decide +kernel
theorem d_X11_undo_4 : decode (D_X11_undo).2.1 4 = .ok (.ifCond .gt 10, 3) := by decide +kernel
theorem d_X11_undo_7 : decode (D_X11_undo).2.1 7 = .ok (.aload_n 0, 1) := by decide +kernel
theorem d_X11_undo_8 : decode (D_X11_undo).2.1 8 = .ok (.bipush 6, 2) := by decide +kernel
theorem d_X11_undo_10 : decode (D_X11_undo).2.1 10 = .ok (.invokevirtual 143, 3) := by decide +kernel
theorem d_X11_undo_13 : decode (D_X11_undo).2.1 13 = .ok (.ireturn, 1) := by decide +kernel
theorem d_X11_undo_14 : decode (D_X11_undo).2.1 14 = .ok (.aload_n 0, 1) := by decide +kernel
theorem d_X11_undo_15 : decode (D_X11_undo).2.1 15 = .ok (.dup, 1) := by decide +kernel
theorem d_X11_undo_16 : decode (D_X11_undo).2.1 16 = .ok (.getfield 83, 3) := by decide +kernel
theorem d_X11_undo_19 : decode (D_X11_undo).2.1 19 = .ok (.iconst 1, 1) := by decide +kernel
theorem d_X11_undo_20 : decode (D_X11_undo).2.1 20 = .ok (.isub, 1) := by decide +kernel
theorem d_X11_undo_21 : decode (D_X11_undo).2.1 21 = .ok (.putfield 83, 3) := by decide +kernel
theorem d_X11_undo_24 : decode (D_X11_undo).2.1 24 = .ok (.aload_n 0, 1) := by decide +kernel
theorem d_X11_undo_25 : decode (D_X11_undo).2.1 25 = .ok (.getfield 53, 3) := by decide +kernel
theorem d_X11_undo_28 : decode (D_X11_undo).2.1 28 = .ok (.aload_n 0, 1) := by decide +kernel
theorem d_X11_undo_29 : decode (D_X11_undo).2.1 29 = .ok (.getfield 71, 3) := by decide +kernel
theorem d_X11_undo_32 : decode (D_X11_undo).2.1 32 = .ok (.aload_n 0, 1) := by decide +kernel
theorem d_X11_undo_33 : decode (D_X11_undo).2.1 33 = .ok (.getfield 83, 3) := by decide +kernel
theorem d_X11_undo_36 : decode (D_X11_undo).2.1 36 = .ok (.aaload, 1) := by decide +kernel
theorem d_X11_undo_37 : decode (D_X11_undo).2.1 37 = .ok (.invokevirtual 179, 3) := by decide +kernel
theorem d_X11_undo_40 : decode (D_X11_undo).2.1 40 = .ok (.aload_n 0, 1) := by decide +kernel
theorem d_X11_undo_41 : decode (D_X11_undo).2.1 41 = .ok (.getfield 60, 3) := by decide +kernel
theorem d_X11_undo_44 : decode (D_X11_undo).2.1 44 = .ok (.aload_n 0, 1) := by decide +kernel
theorem d_X11_undo_45 : decode (D_X11_undo).2.1 45 = .ok (.getfield 75, 3) := by decide +kernel
theorem d_X11_undo_48 : decode (D_X11_undo).2.1 48 = .ok (.aload_n 0, 1) := by decide +kernel
theorem d_X11_undo_49 : decode (D_X11_undo).2.1 49 = .ok (.getfield 83, 3) := by decide +kernel
theorem d_X11_undo_52 : decode (D_X11_undo).2.1 52 = .ok (.aaload, 1) := by decide +kernel
theorem d_X11_undo_53 : decode (D_X11_undo).2.1 53 = .ok (.invokevirtual 184, 3) := by decide +kernel
theorem d_X11_undo_56 : decode (D_X11_undo).2.1 56 = .ok (.aload_n 0, 1) := by decide +kernel
theorem d_X11_undo_57 : decode (D_X11_undo).2.1 57 = .ok (.getfield 67, 3) := by decide +kernel
theorem d_X11_undo_60 : decode (D_X11_undo).2.1 60 = .ok (.aload_n 0, 1) := by decide +kernel
theorem d_X11_undo_61 : decode (D_X11_undo).2.1 61 = .ok (.getfield 79, 3) := by decide +kernel
theorem d_X11_undo_64 : decode (D_X11_undo).2.1 64 = .ok (.aload_n 0, 1) := by decide +kernel
theorem d_X11_undo_65 : decode (D_X11_undo).2.1 65 = .ok (.getfield 83, 3) := by decide +kernel
theorem d_X11_undo_68 : decode (D_X11_undo).2.1 68 = .ok (.aaload, 1) := by decide +kernel
theorem d_X11_undo_69 : decode (D_X11_undo).2.1 69 = .ok (.invokevirtual 200, 3) := by decide +kernel
theorem d_X11_undo_72 : decode (D_X11_undo).2.1 72 = .ok (.aload_n 0, 1) := by decide +kernel
theorem d_X11_undo_73 : decode (D_X11_undo).2.1 73 = .ok (.aload_n 0, 1) := by decide +kernel
theorem d_X11_undo_74 : decode (D_X11_undo).2.1 74 = .ok (.getfield 83, 3) := by decide +kernel
theorem d_X11_undo_77 : decode (D_X11_undo).2.1 77 = .ok (.invokevirtual 193, 3) := by decide +kernel
theorem d_X11_undo_80 : decode (D_X11_undo).2.1 80 = .ok (.ireturn, 1) := by decide +kernel
def f_X11_undo (n : Nat) (M : JMem) : Option (Int × JMem) := if 0 < jw (M 0 13) then (letm (jup M 0 13 ((M 0 13) - 1)) fun M1 => chk (jin (M1 0 13) 3) <| bnd (f_X4_copyFrom n 40 (jRn 65 (jw (M1 0 13)).toNat) M1) fun _ M4 => chk (jin (M4 0 13) 3) <| bnd (f_X1_copyFrom n 52 (jRn 66 (jw (M4 0 13)).toNat) M4) fun _ M7 => chk (jin (M7 0 13) 3) <| bnd (f_X9_copyFrom n 60 (jRn 67 (jw (M7 0 13)).toNat) M7) fun _ M10 => bnd (f_X11_answer n (M10 0 13) M10) fun r11 M12 => some (r11, M12)) else (bnd (f_X11_refuse n 6 M) fun r13 M14 => some (r13, M14))
set_option maxRecDepth 4000 in
theorem t_X11_undo {g : JG} {ad : Nat → Nat} (hs : jStr g ad) (n : Nat) (M : JMem) : jB g D_X11_undo ad 0 [some (.ref 0)] [] M (f_X11_undo n M) := by
  unfold f_X11_undo
  refine jo_aload 0 d_X11_undo_0 rfl rfl ?_
  refine jo_getI (k := 13) cl_11 (Nat.le_of_ble_eq_true rfl) lk_X11_83 (Or.inl rfl) kc_0 d_X11_undo_1 ?_
  refine jo_if_gt 14 d_X11_undo_4 (by decide) ?_ ?_
  · skip
    refine jo_aload 0 d_X11_undo_14 rfl rfl ?_
    refine jo_dup d_X11_undo_15 rfl ?_
    refine jo_getI (k := 13) cl_11 (Nat.le_of_ble_eq_true rfl) lk_X11_83 (Or.inl rfl) kc_0 d_X11_undo_16 ?_
    refine jo_iconst 1 d_X11_undo_19 ?_
    refine jo_isub d_X11_undo_20 ?_
    refine jo_putI (k := 13) cl_11 (Nat.le_of_ble_eq_true rfl) lk_X11_83 rfl rfl kc_0 d_X11_undo_21 (fun M1 => ?_)
    refine jo_aload 0 d_X11_undo_24 rfl rfl ?_
    refine jo_getR (k := 7) cl_11 (Nat.le_of_ble_eq_true rfl) lk_X11_53 rfl kc_0 kr_0_7 d_X11_undo_25 ?_
    refine jo_aload 0 d_X11_undo_28 rfl rfl ?_
    refine jo_getR (k := 10) cl_11 (Nat.le_of_ble_eq_true rfl) lk_X11_71 rfl kc_0 kr_0_10 d_X11_undo_29 ?_
    refine jo_aload 0 d_X11_undo_32 rfl rfl ?_
    refine jo_getI (k := 13) cl_11 (Nat.le_of_ble_eq_true rfl) lk_X11_83 (Or.inl rfl) kc_0 d_X11_undo_33 ?_
    refine jo_aald_65 d_X11_undo_36 (fun h2 => ?_)
    refine jo_callV (st := []) (m_X4_copyFrom hs n 40 (jRn 65 (jw (M1 0 13)).toNat) kc_40 h2 M1) ok_X4_copyFrom (And.intro (Nat.le_of_ble_eq_true rfl) (Nat.le_of_ble_eq_true rfl)) lm_X11_179 in_X4_copyFrom se_X4_copyFrom rfl kc_40 rfl rfl (And.intro (Nat.zero_le _) (Nat.zero_le _)) rfl (Nat.le_of_ble_eq_true rfl) d_X11_undo_37 (fun _ M4 => ?_)
    refine jo_aload 0 d_X11_undo_40 rfl rfl ?_
    refine jo_getR (k := 8) cl_11 (Nat.le_of_ble_eq_true rfl) lk_X11_60 rfl kc_0 kr_0_8 d_X11_undo_41 ?_
    refine jo_aload 0 d_X11_undo_44 rfl rfl ?_
    refine jo_getR (k := 11) cl_11 (Nat.le_of_ble_eq_true rfl) lk_X11_75 rfl kc_0 kr_0_11 d_X11_undo_45 ?_
    refine jo_aload 0 d_X11_undo_48 rfl rfl ?_
    refine jo_getI (k := 13) cl_11 (Nat.le_of_ble_eq_true rfl) lk_X11_83 (Or.inl rfl) kc_0 d_X11_undo_49 ?_
    refine jo_aald_66 d_X11_undo_52 (fun h5 => ?_)
    refine jo_callV (st := []) (m_X1_copyFrom hs n 52 (jRn 66 (jw (M4 0 13)).toNat) kc_52 h5 M4) ok_X1_copyFrom (And.intro (Nat.le_of_ble_eq_true rfl) (Nat.le_of_ble_eq_true rfl)) lm_X11_184 in_X1_copyFrom se_X1_copyFrom rfl kc_52 rfl rfl (And.intro (Nat.zero_le _) (Nat.zero_le _)) rfl (Nat.le_of_ble_eq_true rfl) d_X11_undo_53 (fun _ M7 => ?_)
    refine jo_aload 0 d_X11_undo_56 rfl rfl ?_
    refine jo_getR (k := 9) cl_11 (Nat.le_of_ble_eq_true rfl) lk_X11_67 rfl kc_0 kr_0_9 d_X11_undo_57 ?_
    refine jo_aload 0 d_X11_undo_60 rfl rfl ?_
    refine jo_getR (k := 12) cl_11 (Nat.le_of_ble_eq_true rfl) lk_X11_79 rfl kc_0 kr_0_12 d_X11_undo_61 ?_
    refine jo_aload 0 d_X11_undo_64 rfl rfl ?_
    refine jo_getI (k := 13) cl_11 (Nat.le_of_ble_eq_true rfl) lk_X11_83 (Or.inl rfl) kc_0 d_X11_undo_65 ?_
    refine jo_aald_67 d_X11_undo_68 (fun h8 => ?_)
    refine jo_callV (st := []) (m_X9_copyFrom hs n 60 (jRn 67 (jw (M7 0 13)).toNat) kc_60 h8 M7) ok_X9_copyFrom (And.intro (Nat.le_of_ble_eq_true rfl) (Nat.le_of_ble_eq_true rfl)) lm_X11_200 in_X9_copyFrom se_X9_copyFrom rfl kc_60 rfl rfl (And.intro (Nat.zero_le _) (Nat.zero_le _)) rfl (Nat.le_of_ble_eq_true rfl) d_X11_undo_69 (fun _ M10 => ?_)
    refine jo_aload 0 d_X11_undo_72 rfl rfl ?_
    refine jo_aload 0 d_X11_undo_73 rfl rfl ?_
    refine jo_getI (k := 13) cl_11 (Nat.le_of_ble_eq_true rfl) lk_X11_83 (Or.inl rfl) kc_0 d_X11_undo_74 ?_
    refine jo_callV (st := []) (m_X11_answer hs n (M10 0 13) M10) ok_X11_answer (And.intro (Nat.le_of_ble_eq_true rfl) (Nat.le_of_ble_eq_true rfl)) lm_X11_193 in_X11_answer se_X11_answer rfl kc_0 rfl rfl (And.intro (Nat.zero_le _) (Nat.zero_le _)) rfl (Nat.le_of_ble_eq_true rfl) d_X11_undo_77 (fun r11 M12 => ?_)
    exact jo_iret rfl d_X11_undo_80
  · skip
    refine jo_aload 0 d_X11_undo_7 rfl rfl ?_
    refine jo_bipush 6 d_X11_undo_8 (by decide) ?_
    refine jo_callV (st := []) (m_X11_refuse hs n 6 M) ok_X11_refuse (And.intro (Nat.le_of_ble_eq_true rfl) (Nat.le_of_ble_eq_true rfl)) lm_X11_143 in_X11_refuse se_X11_refuse rfl kc_0 rfl rfl (And.intro (Nat.zero_le _) (Nat.zero_le _)) rfl (Nat.le_of_ble_eq_true rfl) d_X11_undo_10 (fun r13 M14 => ?_)
    exact jo_iret rfl d_X11_undo_13
theorem m_X11_undo {g : JG} {ad : Nat → Nat} (hs : jStr g ad) (n : Nat) (M : JMem) : jMet g jNN ad jR D_X11_undo yX11_undo [.ref 0] M (f_X11_undo n M) :=
  jMet.of (lo0 := [some (.ref 0)]) (by decide) rfl rfl (Nat.le_of_ble_eq_true rfl) (And.intro rfl True.intro) (t_X11_undo hs n M)
/-! CageLeave.weeks(I)I -/
def D_X11_weeks : JD := (RX11, cX11_weeks, 3, some .int, "weeks", { frames := 7, cells := 0, slots := 0, locals := 159 })
theorem ok_X11_weeks : jOk D_X11_weeks yX11_weeks 1 := ⟨jTW_mem (k := 894) (by decide +kernel) rfl, jTW_mem (k := 135) (by decide +kernel) rfl, ⟨by decide +kernel, by decide +kernel⟩, by decide +kernel, rfl, rfl⟩
theorem in_X11_weeks : Cond.instanceMethod yX11_weeks ∈ jTW := jTW_mem (k := 892) (by decide +kernel) rfl
theorem se_X11_weeks : Cond.selects yX11_weeks.cls yX11_weeks yX11_weeks ∈ jTW := jTW_mem (k := 893) (by decide +kernel) rfl
theorem lk_X11_46 : Cond.fieldLink RX11 46 (TX11 6).1 (TX11 6).2.1 (TX11 6).2.2.1 ∈ jTW := jTW_mem (k := 613) (by decide +kernel) rfl
theorem lm_X11_196 : Cond.methodLink RX11 196 yX10_takesAll ∈ jTW := jTW_mem (k := 895) (by decide +kernel) rfl
theorem lk_X11_199 : Cond.fieldLink RX11 199 (TX10 1).1 (TX10 1).2.1 (TX10 1).2.2.1 ∈ jTW := jTW_mem (k := 516) (by decide +kernel) rfl
theorem lk_X11_203 : Cond.fieldLink RX11 203 (TX9 1).1 (TX9 1).2.1 (TX9 1).2.2.1 ∈ jTW := jTW_mem (k := 486) (by decide +kernel) rfl
theorem d_X11_weeks_0 : decode (D_X11_weeks).2.1 0 = .ok (.iload_n 1, 1) := by decide +kernel
theorem d_X11_weeks_1 : decode (D_X11_weeks).2.1 1 = .ok (.ifCond .lt 21, 3) := by decide +kernel
theorem d_X11_weeks_4 : decode (D_X11_weeks).2.1 4 = .ok (.iload_n 1, 1) := by decide +kernel
theorem d_X11_weeks_5 : decode (D_X11_weeks).2.1 5 = .ok (.aload_n 0, 1) := by decide +kernel
theorem d_X11_weeks_6 : decode (D_X11_weeks).2.1 6 = .ok (.getfield 30, 3) := by decide +kernel
theorem d_X11_weeks_9 : decode (D_X11_weeks).2.1 9 = .ok (.getfield 168, 3) := by decide +kernel
theorem d_X11_weeks_12 : decode (D_X11_weeks).2.1 12 = .ok (.if_icmp .gt 10, 3) := by decide +kernel
theorem d_X11_weeks_15 : decode (D_X11_weeks).2.1 15 = .ok (.iload_n 1, 1) := by decide +kernel
theorem d_X11_weeks_16 : decode (D_X11_weeks).2.1 16 = .ok (.sipush 300, 3) := by decide +kernel
theorem d_X11_weeks_19 : decode (D_X11_weeks).2.1 19 = .ok (.if_icmp .le 9, 3) := by decide +kernel
theorem d_X11_weeks_22 : decode (D_X11_weeks).2.1 22 = .ok (.aload_n 0, 1) := by decide +kernel
theorem d_X11_weeks_23 : decode (D_X11_weeks).2.1 23 = .ok (.iconst 1, 1) := by decide +kernel
theorem d_X11_weeks_24 : decode (D_X11_weeks).2.1 24 = .ok (.invokevirtual 143, 3) := by decide +kernel
theorem d_X11_weeks_27 : decode (D_X11_weeks).2.1 27 = .ok (.ireturn, 1) := by decide +kernel
theorem d_X11_weeks_28 : decode (D_X11_weeks).2.1 28 = .ok (.aload_n 0, 1) := by decide +kernel
theorem d_X11_weeks_29 : decode (D_X11_weeks).2.1 29 = .ok (.getfield 46, 3) := by decide +kernel
theorem d_X11_weeks_32 : decode (D_X11_weeks).2.1 32 = .ok (.iload_n 1, 1) := by decide +kernel
theorem d_X11_weeks_33 : decode (D_X11_weeks).2.1 33 = .ok (.aload_n 0, 1) := by decide +kernel
theorem d_X11_weeks_34 : decode (D_X11_weeks).2.1 34 = .ok (.getfield 53, 3) := by decide +kernel
theorem d_X11_weeks_37 : decode (D_X11_weeks).2.1 37 = .ok (.invokevirtual 196, 3) := by decide +kernel
theorem d_X11_weeks_40 : decode (D_X11_weeks).2.1 40 = .ok (.istore_n 2, 1) := by decide +kernel
theorem d_X11_weeks_41 : decode (D_X11_weeks).2.1 41 = .ok (.aload_n 0, 1) := by decide +kernel
theorem d_X11_weeks_42 : decode (D_X11_weeks).2.1 42 = .ok (.getfield 30, 3) := by decide +kernel
theorem d_X11_weeks_45 : decode (D_X11_weeks).2.1 45 = .ok (.iconst 0, 1) := by decide +kernel
theorem d_X11_weeks_46 : decode (D_X11_weeks).2.1 46 = .ok (.putfield 168, 3) := by decide +kernel
theorem d_X11_weeks_49 : decode (D_X11_weeks).2.1 49 = .ok (.iload_n 2, 1) := by decide +kernel
theorem d_X11_weeks_50 : decode (D_X11_weeks).2.1 50 = .ok (.ifCond .ne 10, 3) := by decide +kernel
theorem d_X11_weeks_53 : decode (D_X11_weeks).2.1 53 = .ok (.aload_n 0, 1) := by decide +kernel
theorem d_X11_weeks_54 : decode (D_X11_weeks).2.1 54 = .ok (.bipush 9, 2) := by decide +kernel
theorem d_X11_weeks_56 : decode (D_X11_weeks).2.1 56 = .ok (.invokevirtual 143, 3) := by decide +kernel
theorem d_X11_weeks_59 : decode (D_X11_weeks).2.1 59 = .ok (.ireturn, 1) := by decide +kernel
theorem d_X11_weeks_60 : decode (D_X11_weeks).2.1 60 = .ok (.aload_n 0, 1) := by decide +kernel
theorem d_X11_weeks_61 : decode (D_X11_weeks).2.1 61 = .ok (.getfield 67, 3) := by decide +kernel
theorem d_X11_weeks_64 : decode (D_X11_weeks).2.1 64 = .ok (.aload_n 0, 1) := by decide +kernel
theorem d_X11_weeks_65 : decode (D_X11_weeks).2.1 65 = .ok (.getfield 46, 3) := by decide +kernel
theorem d_X11_weeks_68 : decode (D_X11_weeks).2.1 68 = .ok (.getfield 199, 3) := by decide +kernel
theorem d_X11_weeks_71 : decode (D_X11_weeks).2.1 71 = .ok (.invokevirtual 200, 3) := by decide +kernel
theorem d_X11_weeks_74 : decode (D_X11_weeks).2.1 74 = .ok (.aload_n 0, 1) := by decide +kernel
theorem d_X11_weeks_75 : decode (D_X11_weeks).2.1 75 = .ok (.aload_n 0, 1) := by decide +kernel
theorem d_X11_weeks_76 : decode (D_X11_weeks).2.1 76 = .ok (.getfield 67, 3) := by decide +kernel
theorem d_X11_weeks_79 : decode (D_X11_weeks).2.1 79 = .ok (.getfield 203, 3) := by decide +kernel
theorem d_X11_weeks_82 : decode (D_X11_weeks).2.1 82 = .ok (.invokevirtual 193, 3) := by decide +kernel
theorem d_X11_weeks_85 : decode (D_X11_weeks).2.1 85 = .ok (.ireturn, 1) := by decide +kernel
def f_X11_weeks_L22 (n : Nat) (M : JMem) : Option (Int × JMem) := bnd (f_X11_refuse n 1 M) fun r1 M2 => some (r1, M2)
set_option maxRecDepth 4000 in
theorem t_X11_weeks_L22 {g : JG} {ad : Nat → Nat} (hs : jStr g ad) (n : Nat) (M : JMem) : jB g D_X11_weeks ad 22 [some (.ref 0), none, none] [] M (f_X11_weeks_L22 n M) := by
  unfold f_X11_weeks_L22
  refine jo_aload 0 d_X11_weeks_22 rfl rfl ?_
  refine jo_iconst 1 d_X11_weeks_23 ?_
  refine jo_callV (st := []) (m_X11_refuse hs n 1 M) ok_X11_refuse (And.intro (Nat.le_of_ble_eq_true rfl) (Nat.le_of_ble_eq_true rfl)) lm_X11_143 in_X11_refuse se_X11_refuse rfl kc_0 rfl rfl (And.intro (Nat.zero_le _) (Nat.zero_le _)) rfl (Nat.le_of_ble_eq_true rfl) d_X11_weeks_24 (fun r1 M2 => ?_)
  exact jo_iret rfl d_X11_weeks_27
def f_X11_weeks (n : Nat) (x1 : Int) (M : JMem) : Option (Int × JMem) := if jw x1 < 0 then (f_X11_weeks_L22 n M) else (if jw (M 9 1) < jw x1 then (f_X11_weeks_L22 n M) else (if jw x1 ≤ jw 300 then (bnd (f_X10_takesAll n x1 40 M) fun r1 M2 => letv r1 fun y3 => letm (jup M2 9 1 0) fun M4 => if jw y3 = 0 then (bnd (f_X11_refuse n 9 M4) fun r9 M10 => some (r9, M10)) else (bnd (f_X9_copyFrom n 60 34 M4) fun _ M6 => bnd (f_X11_answer n (M6 60 1) M6) fun r7 M8 => some (r7, M8))) else (f_X11_weeks_L22 n M)))
set_option maxRecDepth 4000 in
theorem t_X11_weeks {g : JG} {ad : Nat → Nat} (hs : jStr g ad) (n : Nat) (x1 : Int) (M : JMem) : jB g D_X11_weeks ad 0 [some (.ref 0), some (ji x1), none] [] M (f_X11_weeks n x1 M) := by
  unfold f_X11_weeks
  refine jo_iload 1 d_X11_weeks_0 rfl rfl ?_
  refine jo_if_lt 22 d_X11_weeks_1 (by decide) ?_ ?_
  · skip
    exact jO.sub (t_X11_weeks_L22 hs n M) (And.intro rfl True.intro)
  · skip
    refine jo_iload 1 d_X11_weeks_4 rfl rfl ?_
    refine jo_aload 0 d_X11_weeks_5 rfl rfl ?_
    refine jo_getR (k := 4) cl_11 (Nat.le_of_ble_eq_true rfl) lk_X11_30 rfl kc_0 kr_0_4 d_X11_weeks_6 ?_
    refine jo_getI (k := 1) cl_6 (Nat.le_of_ble_eq_true rfl) lk_X11_168 (Or.inl rfl) kc_9 d_X11_weeks_9 ?_
    refine jo_icmp_gt 22 d_X11_weeks_12 (by decide) ?_ ?_
    · skip
      exact jO.sub (t_X11_weeks_L22 hs n M) (And.intro rfl True.intro)
    · skip
      refine jo_iload 1 d_X11_weeks_15 rfl rfl ?_
      refine jo_sipush 300 d_X11_weeks_16 (by decide) ?_
      refine jo_icmp_le 28 d_X11_weeks_19 (by decide) ?_ ?_
      · skip
        refine jo_aload 0 d_X11_weeks_28 rfl rfl ?_
        refine jo_getR (k := 6) cl_11 (Nat.le_of_ble_eq_true rfl) lk_X11_46 rfl kc_0 kr_0_6 d_X11_weeks_29 ?_
        refine jo_iload 1 d_X11_weeks_32 rfl rfl ?_
        refine jo_aload 0 d_X11_weeks_33 rfl rfl ?_
        refine jo_getR (k := 7) cl_11 (Nat.le_of_ble_eq_true rfl) lk_X11_53 rfl kc_0 kr_0_7 d_X11_weeks_34 ?_
        refine jo_callV (st := []) (m_X10_takesAll hs n x1 40 kc_40 M) ok_X10_takesAll (And.intro (Nat.le_of_ble_eq_true rfl) (Nat.le_of_ble_eq_true rfl)) lm_X11_196 in_X10_takesAll se_X10_takesAll rfl kc_33 rfl rfl (And.intro (Nat.zero_le _) (Nat.zero_le _)) rfl (Nat.le_of_ble_eq_true rfl) d_X11_weeks_37 (fun r1 M2 => ?_)
        refine jo_istore 2 d_X11_weeks_40 rfl (Nat.le_of_ble_eq_true rfl) (fun y3 => ?_)
        refine jo_aload 0 d_X11_weeks_41 rfl rfl ?_
        refine jo_getR (k := 4) cl_11 (Nat.le_of_ble_eq_true rfl) lk_X11_30 rfl kc_0 kr_0_4 d_X11_weeks_42 ?_
        refine jo_iconst 0 d_X11_weeks_45 ?_
        refine jo_putI (k := 1) cl_6 (Nat.le_of_ble_eq_true rfl) lk_X11_168 rfl rfl kc_9 d_X11_weeks_46 (fun M4 => ?_)
        refine jo_iload 2 d_X11_weeks_49 rfl rfl ?_
        refine jo_if_ne 60 d_X11_weeks_50 (by decide) ?_ ?_
        · skip
          refine jo_aload 0 d_X11_weeks_60 rfl rfl ?_
          refine jo_getR (k := 9) cl_11 (Nat.le_of_ble_eq_true rfl) lk_X11_67 rfl kc_0 kr_0_9 d_X11_weeks_61 ?_
          refine jo_aload 0 d_X11_weeks_64 rfl rfl ?_
          refine jo_getR (k := 6) cl_11 (Nat.le_of_ble_eq_true rfl) lk_X11_46 rfl kc_0 kr_0_6 d_X11_weeks_65 ?_
          refine jo_getR (k := 1) cl_10 (Nat.le_of_ble_eq_true rfl) lk_X11_199 rfl kc_33 kr_33_1 d_X11_weeks_68 ?_
          refine jo_callV (st := []) (m_X9_copyFrom hs n 60 34 kc_60 kc_34 M4) ok_X9_copyFrom (And.intro (Nat.le_of_ble_eq_true rfl) (Nat.le_of_ble_eq_true rfl)) lm_X11_200 in_X9_copyFrom se_X9_copyFrom rfl kc_60 rfl rfl (And.intro (Nat.zero_le _) (Nat.zero_le _)) rfl (Nat.le_of_ble_eq_true rfl) d_X11_weeks_71 (fun _ M6 => ?_)
          refine jo_aload 0 d_X11_weeks_74 rfl rfl ?_
          refine jo_aload 0 d_X11_weeks_75 rfl rfl ?_
          refine jo_getR (k := 9) cl_11 (Nat.le_of_ble_eq_true rfl) lk_X11_67 rfl kc_0 kr_0_9 d_X11_weeks_76 ?_
          refine jo_getI (k := 1) cl_9 (Nat.le_of_ble_eq_true rfl) lk_X11_203 (Or.inl rfl) kc_60 d_X11_weeks_79 ?_
          refine jo_callV (st := []) (m_X11_answer hs n (M6 60 1) M6) ok_X11_answer (And.intro (Nat.le_of_ble_eq_true rfl) (Nat.le_of_ble_eq_true rfl)) lm_X11_193 in_X11_answer se_X11_answer rfl kc_0 rfl rfl (And.intro (Nat.zero_le _) (Nat.zero_le _)) rfl (Nat.le_of_ble_eq_true rfl) d_X11_weeks_82 (fun r7 M8 => ?_)
          exact jo_iret rfl d_X11_weeks_85
        · skip
          refine jo_aload 0 d_X11_weeks_53 rfl rfl ?_
          refine jo_bipush 9 d_X11_weeks_54 (by decide) ?_
          refine jo_callV (st := []) (m_X11_refuse hs n 9 M4) ok_X11_refuse (And.intro (Nat.le_of_ble_eq_true rfl) (Nat.le_of_ble_eq_true rfl)) lm_X11_143 in_X11_refuse se_X11_refuse rfl kc_0 rfl rfl (And.intro (Nat.zero_le _) (Nat.zero_le _)) rfl (Nat.le_of_ble_eq_true rfl) d_X11_weeks_56 (fun r9 M10 => ?_)
          exact jo_iret rfl d_X11_weeks_59
      · skip
        exact jO.sub (t_X11_weeks_L22 hs n M) (And.intro rfl True.intro)
theorem m_X11_weeks {g : JG} {ad : Nat → Nat} (hs : jStr g ad) (n : Nat) (x1 : Int) (M : JMem) : jMet g jNN ad jR D_X11_weeks yX11_weeks [.ref 0, ji x1] M (f_X11_weeks n x1 M) :=
  jMet.of (lo0 := [some (.ref 0), some (ji x1), none]) (by decide) rfl rfl (Nat.le_of_ble_eq_true rfl) (And.intro rfl (And.intro rfl True.intro)) (t_X11_weeks hs n x1 M)
/-! CageLeave.where(II)I -/
def D_X11_where : JD := (RX11, cX11_where, 3, some .int, "where", { frames := 5, cells := 0, slots := 0, locals := 116 })
theorem ok_X11_where : jOk D_X11_where yX11_where 2 := ⟨jTW_mem (k := 1096) (by decide +kernel) rfl, jTW_mem (k := 135) (by decide +kernel) rfl, ⟨by decide +kernel, by decide +kernel⟩, by decide +kernel, rfl, rfl⟩
theorem in_X11_where : Cond.instanceMethod yX11_where ∈ jTW := jTW_mem (k := 1094) (by decide +kernel) rfl
theorem se_X11_where : Cond.selects yX11_where.cls yX11_where yX11_where ∈ jTW := jTW_mem (k := 1095) (by decide +kernel) rfl
theorem d_X11_where_0 : decode (D_X11_where).2.1 0 = .ok (.aload_n 0, 1) := by decide +kernel
theorem d_X11_where_1 : decode (D_X11_where).2.1 1 = .ok (.iload_n 1, 1) := by decide +kernel
theorem d_X11_where_2 : decode (D_X11_where).2.1 2 = .ok (.invokevirtual 264, 3) := by decide +kernel
theorem d_X11_where_5 : decode (D_X11_where).2.1 5 = .ok (.ifCond .eq 20, 3) := by decide +kernel
theorem d_X11_where_8 : decode (D_X11_where).2.1 8 = .ok (.iload_n 2, 1) := by decide +kernel
theorem d_X11_where_9 : decode (D_X11_where).2.1 9 = .ok (.aload_n 0, 1) := by decide +kernel
theorem d_X11_where_10 : decode (D_X11_where).2.1 10 = .ok (.getfield 60, 3) := by decide +kernel
theorem d_X11_where_13 : decode (D_X11_where).2.1 13 = .ok (.getfield 224, 3) := by decide +kernel
theorem d_X11_where_16 : decode (D_X11_where).2.1 16 = .ok (.if_icmp .lt 9, 3) := by decide +kernel
theorem d_X11_where_19 : decode (D_X11_where).2.1 19 = .ok (.iload_n 2, 1) := by decide +kernel
theorem d_X11_where_20 : decode (D_X11_where).2.1 20 = .ok (.bipush 64, 2) := by decide +kernel
theorem d_X11_where_22 : decode (D_X11_where).2.1 22 = .ok (.if_icmp .le 9, 3) := by decide +kernel
theorem d_X11_where_25 : decode (D_X11_where).2.1 25 = .ok (.aload_n 0, 1) := by decide +kernel
theorem d_X11_where_26 : decode (D_X11_where).2.1 26 = .ok (.iconst 1, 1) := by decide +kernel
theorem d_X11_where_27 : decode (D_X11_where).2.1 27 = .ok (.invokevirtual 143, 3) := by decide +kernel
theorem d_X11_where_30 : decode (D_X11_where).2.1 30 = .ok (.ireturn, 1) := by decide +kernel
theorem d_X11_where_31 : decode (D_X11_where).2.1 31 = .ok (.aload_n 0, 1) := by decide +kernel
theorem d_X11_where_32 : decode (D_X11_where).2.1 32 = .ok (.iload_n 2, 1) := by decide +kernel
theorem d_X11_where_33 : decode (D_X11_where).2.1 33 = .ok (.invokevirtual 323, 3) := by decide +kernel
theorem d_X11_where_36 : decode (D_X11_where).2.1 36 = .ok (.aload_n 0, 1) := by decide +kernel
theorem d_X11_where_37 : decode (D_X11_where).2.1 37 = .ok (.getfield 86, 3) := by decide +kernel
theorem d_X11_where_40 : decode (D_X11_where).2.1 40 = .ok (.iload_n 1, 1) := by decide +kernel
theorem d_X11_where_41 : decode (D_X11_where).2.1 41 = .ok (.invokevirtual 282, 3) := by decide +kernel
theorem d_X11_where_44 : decode (D_X11_where).2.1 44 = .ok (.ifCond .eq 10, 3) := by decide +kernel
theorem d_X11_where_47 : decode (D_X11_where).2.1 47 = .ok (.aload_n 0, 1) := by decide +kernel
theorem d_X11_where_48 : decode (D_X11_where).2.1 48 = .ok (.bipush 6, 2) := by decide +kernel
theorem d_X11_where_50 : decode (D_X11_where).2.1 50 = .ok (.invokevirtual 143, 3) := by decide +kernel
theorem d_X11_where_53 : decode (D_X11_where).2.1 53 = .ok (.ireturn, 1) := by decide +kernel
theorem d_X11_where_54 : decode (D_X11_where).2.1 54 = .ok (.aload_n 0, 1) := by decide +kernel
theorem d_X11_where_55 : decode (D_X11_where).2.1 55 = .ok (.aload_n 0, 1) := by decide +kernel
theorem d_X11_where_56 : decode (D_X11_where).2.1 56 = .ok (.getfield 86, 3) := by decide +kernel
theorem d_X11_where_59 : decode (D_X11_where).2.1 59 = .ok (.aload_n 0, 1) := by decide +kernel
theorem d_X11_where_60 : decode (D_X11_where).2.1 60 = .ok (.getfield 53, 3) := by decide +kernel
theorem d_X11_where_63 : decode (D_X11_where).2.1 63 = .ok (.iload_n 1, 1) := by decide +kernel
theorem d_X11_where_64 : decode (D_X11_where).2.1 64 = .ok (.invokevirtual 285, 3) := by decide +kernel
theorem d_X11_where_67 : decode (D_X11_where).2.1 67 = .ok (.invokevirtual 193, 3) := by decide +kernel
theorem d_X11_where_70 : decode (D_X11_where).2.1 70 = .ok (.ireturn, 1) := by decide +kernel
def f_X11_where_L25 (n : Nat) (M : JMem) : Option (Int × JMem) := bnd (f_X11_refuse n 1 M) fun r1 M2 => some (r1, M2)
set_option maxRecDepth 4000 in
theorem t_X11_where_L25 {g : JG} {ad : Nat → Nat} (hs : jStr g ad) (n : Nat) (M : JMem) : jB g D_X11_where ad 25 [some (.ref 0), none, none] [] M (f_X11_where_L25 n M) := by
  unfold f_X11_where_L25
  refine jo_aload 0 d_X11_where_25 rfl rfl ?_
  refine jo_iconst 1 d_X11_where_26 ?_
  refine jo_callV (st := []) (m_X11_refuse hs n 1 M) ok_X11_refuse (And.intro (Nat.le_of_ble_eq_true rfl) (Nat.le_of_ble_eq_true rfl)) lm_X11_143 in_X11_refuse se_X11_refuse rfl kc_0 rfl rfl (And.intro (Nat.zero_le _) (Nat.zero_le _)) rfl (Nat.le_of_ble_eq_true rfl) d_X11_where_27 (fun r1 M2 => ?_)
  exact jo_iret rfl d_X11_where_30
def f_X11_where (n : Nat) (x1 : Int) (x2 : Int) (M : JMem) : Option (Int × JMem) := bnd (f_X11_isBeast n x1 M) fun r1 M2 => if jw r1 = 0 then (f_X11_where_L25 n M2) else (if jw x2 < jw (M2 52 1) then (f_X11_where_L25 n M2) else (if jw x2 ≤ jw 64 then (bnd (f_X11_goOnUntil n x2 M2) fun _ M4 => bnd (f_X1_isEaten n 68 x1 M4) fun r5 M6 => if jw r5 = 0 then (bnd (f_X1_spotOf n 68 40 x1 M6) fun r7 M8 => bnd (f_X11_answer n r7 M8) fun r9 M10 => some (r9, M10)) else (bnd (f_X11_refuse n 6 M6) fun r11 M12 => some (r11, M12))) else (f_X11_where_L25 n M2)))
set_option maxRecDepth 4000 in
theorem t_X11_where {g : JG} {ad : Nat → Nat} (hs : jStr g ad) (n : Nat) (x1 : Int) (x2 : Int) (M : JMem) : jB g D_X11_where ad 0 [some (.ref 0), some (ji x1), some (ji x2)] [] M (f_X11_where n x1 x2 M) := by
  unfold f_X11_where
  refine jo_aload 0 d_X11_where_0 rfl rfl ?_
  refine jo_iload 1 d_X11_where_1 rfl rfl ?_
  refine jo_callV (st := []) (m_X11_isBeast hs n x1 M) ok_X11_isBeast (And.intro (Nat.le_of_ble_eq_true rfl) (Nat.le_of_ble_eq_true rfl)) lm_X11_264 in_X11_isBeast se_X11_isBeast rfl kc_0 rfl rfl (And.intro (Nat.zero_le _) (Nat.zero_le _)) rfl (Nat.le_of_ble_eq_true rfl) d_X11_where_2 (fun r1 M2 => ?_)
  refine jo_if_eq 25 d_X11_where_5 (by decide) ?_ ?_
  · skip
    exact jO.sub (t_X11_where_L25 hs n M2) (And.intro rfl True.intro)
  · skip
    refine jo_iload 2 d_X11_where_8 rfl rfl ?_
    refine jo_aload 0 d_X11_where_9 rfl rfl ?_
    refine jo_getR (k := 8) cl_11 (Nat.le_of_ble_eq_true rfl) lk_X11_60 rfl kc_0 kr_0_8 d_X11_where_10 ?_
    refine jo_getI (k := 1) cl_1 (Nat.le_of_ble_eq_true rfl) lk_X11_224 (Or.inl rfl) kc_52 d_X11_where_13 ?_
    refine jo_icmp_lt 25 d_X11_where_16 (by decide) ?_ ?_
    · skip
      exact jO.sub (t_X11_where_L25 hs n M2) (And.intro rfl True.intro)
    · skip
      refine jo_iload 2 d_X11_where_19 rfl rfl ?_
      refine jo_bipush 64 d_X11_where_20 (by decide) ?_
      refine jo_icmp_le 31 d_X11_where_22 (by decide) ?_ ?_
      · skip
        refine jo_aload 0 d_X11_where_31 rfl rfl ?_
        refine jo_iload 2 d_X11_where_32 rfl rfl ?_
        refine jo_callV (st := []) (m_X11_goOnUntil hs n x2 M2) ok_X11_goOnUntil (And.intro (Nat.le_of_ble_eq_true rfl) (Nat.le_of_ble_eq_true rfl)) lm_X11_323 in_X11_goOnUntil se_X11_goOnUntil rfl kc_0 rfl rfl (And.intro (Nat.zero_le _) (Nat.zero_le _)) rfl (Nat.le_of_ble_eq_true rfl) d_X11_where_33 (fun _ M4 => ?_)
        refine jo_aload 0 d_X11_where_36 rfl rfl ?_
        refine jo_getR (k := 14) cl_11 (Nat.le_of_ble_eq_true rfl) lk_X11_86 rfl kc_0 kr_0_14 d_X11_where_37 ?_
        refine jo_iload 1 d_X11_where_40 rfl rfl ?_
        refine jo_callV (st := []) (m_X1_isEaten hs n 68 x1 kc_68 M4) ok_X1_isEaten (And.intro (Nat.le_of_ble_eq_true rfl) (Nat.le_of_ble_eq_true rfl)) lm_X11_282 in_X1_isEaten se_X1_isEaten rfl kc_68 rfl rfl (And.intro (Nat.zero_le _) (Nat.zero_le _)) rfl (Nat.le_of_ble_eq_true rfl) d_X11_where_41 (fun r5 M6 => ?_)
        refine jo_if_eq 54 d_X11_where_44 (by decide) ?_ ?_
        · skip
          refine jo_aload 0 d_X11_where_54 rfl rfl ?_
          refine jo_aload 0 d_X11_where_55 rfl rfl ?_
          refine jo_getR (k := 14) cl_11 (Nat.le_of_ble_eq_true rfl) lk_X11_86 rfl kc_0 kr_0_14 d_X11_where_56 ?_
          refine jo_aload 0 d_X11_where_59 rfl rfl ?_
          refine jo_getR (k := 7) cl_11 (Nat.le_of_ble_eq_true rfl) lk_X11_53 rfl kc_0 kr_0_7 d_X11_where_60 ?_
          refine jo_iload 1 d_X11_where_63 rfl rfl ?_
          refine jo_callV (st := [.ref 0]) (m_X1_spotOf hs n 68 40 x1 kc_68 kc_40 M6) ok_X1_spotOf (And.intro (Nat.le_of_ble_eq_true rfl) (Nat.le_of_ble_eq_true rfl)) lm_X11_285 in_X1_spotOf se_X1_spotOf rfl kc_68 rfl rfl (And.intro (Nat.zero_le _) (Nat.zero_le _)) rfl (Nat.le_of_ble_eq_true rfl) d_X11_where_64 (fun r7 M8 => ?_)
          refine jo_callV (st := []) (m_X11_answer hs n r7 M8) ok_X11_answer (And.intro (Nat.le_of_ble_eq_true rfl) (Nat.le_of_ble_eq_true rfl)) lm_X11_193 in_X11_answer se_X11_answer rfl kc_0 rfl rfl (And.intro (Nat.zero_le _) (Nat.zero_le _)) rfl (Nat.le_of_ble_eq_true rfl) d_X11_where_67 (fun r9 M10 => ?_)
          exact jo_iret rfl d_X11_where_70
        · skip
          refine jo_aload 0 d_X11_where_47 rfl rfl ?_
          refine jo_bipush 6 d_X11_where_48 (by decide) ?_
          refine jo_callV (st := []) (m_X11_refuse hs n 6 M6) ok_X11_refuse (And.intro (Nat.le_of_ble_eq_true rfl) (Nat.le_of_ble_eq_true rfl)) lm_X11_143 in_X11_refuse se_X11_refuse rfl kc_0 rfl rfl (And.intro (Nat.zero_le _) (Nat.zero_le _)) rfl (Nat.le_of_ble_eq_true rfl) d_X11_where_50 (fun r11 M12 => ?_)
          exact jo_iret rfl d_X11_where_53
      · skip
        exact jO.sub (t_X11_where_L25 hs n M2) (And.intro rfl True.intro)
theorem m_X11_where {g : JG} {ad : Nat → Nat} (hs : jStr g ad) (n : Nat) (x1 : Int) (x2 : Int) (M : JMem) : jMet g jNN ad jR D_X11_where yX11_where [.ref 0, ji x1, ji x2] M (f_X11_where n x1 x2 M) :=
  jMet.of (lo0 := [some (.ref 0), some (ji x1), some (ji x2)]) (by decide) rfl rfl (Nat.le_of_ble_eq_true rfl) (And.intro rfl (And.intro rfl (And.intro rfl True.intro))) (t_X11_where hs n x1 x2 M)
/-! CageLeave.wildest(I)I -/
def D_X11_wildest : JD := (RX11, cX11_wildest, 4, some .int, "wildest", { frames := 1, cells := 0, slots := 0, locals := 21 })
theorem ok_X11_wildest : jOk D_X11_wildest yX11_wildest 1 := ⟨jTW_mem (k := 1241) (by decide +kernel) rfl, jTW_mem (k := 135) (by decide +kernel) rfl, ⟨by decide +kernel, by decide +kernel⟩, by decide +kernel, rfl, rfl⟩
theorem in_X11_wildest : Cond.instanceMethod yX11_wildest ∈ jTW := jTW_mem (k := 1239) (by decide +kernel) rfl
theorem se_X11_wildest : Cond.selects yX11_wildest.cls yX11_wildest yX11_wildest ∈ jTW := jTW_mem (k := 1240) (by decide +kernel) rfl
theorem d_X11_wildest_0 : decode (D_X11_wildest).2.1 0 = .ok (.aload_n 0, 1) := by decide +kernel
theorem d_X11_wildest_1 : decode (D_X11_wildest).2.1 1 = .ok (.iload_n 1, 1) := by decide +kernel
theorem d_X11_wildest_2 : decode (D_X11_wildest).2.1 2 = .ok (.invokevirtual 379, 3) := by decide +kernel
theorem d_X11_wildest_5 : decode (D_X11_wildest).2.1 5 = .ok (.ifCond .ne 9, 3) := by decide +kernel
theorem d_X11_wildest_8 : decode (D_X11_wildest).2.1 8 = .ok (.aload_n 0, 1) := by decide +kernel
theorem d_X11_wildest_9 : decode (D_X11_wildest).2.1 9 = .ok (.iconst 1, 1) := by decide +kernel
theorem d_X11_wildest_10 : decode (D_X11_wildest).2.1 10 = .ok (.invokevirtual 143, 3) := by decide +kernel
theorem d_X11_wildest_13 : decode (D_X11_wildest).2.1 13 = .ok (.ireturn, 1) := by decide +kernel
theorem d_X11_wildest_14 : decode (D_X11_wildest).2.1 14 = .ok (.iconst (-1), 1) := by decide +kernel
theorem d_X11_wildest_15 : decode (D_X11_wildest).2.1 15 = .ok (.istore_n 2, 1) := by decide +kernel
theorem d_X11_wildest_16 : decode (D_X11_wildest).2.1 16 = .ok (.iconst 0, 1) := by decide +kernel
theorem d_X11_wildest_17 : decode (D_X11_wildest).2.1 17 = .ok (.istore_n 3, 1) := by decide +kernel
theorem d_X11_wildest_18 : decode (D_X11_wildest).2.1 18 = .ok (.iload_n 3, 1) := by decide +kernel
theorem d_X11_wildest_19 : decode (D_X11_wildest).2.1 19 = .ok (.aload_n 0, 1) := by decide +kernel
theorem d_X11_wildest_20 : decode (D_X11_wildest).2.1 20 = .ok (.getfield 53, 3) := by decide +kernel
theorem d_X11_wildest_23 : decode (D_X11_wildest).2.1 23 = .ok (.getfield 190, 3) := by decide +kernel
theorem d_X11_wildest_26 : decode (D_X11_wildest).2.1 26 = .ok (.if_icmp .ge 45, 3) := by decide +kernel
theorem d_X11_wildest_29 : decode (D_X11_wildest).2.1 29 = .ok (.iload_n 1, 1) := by decide +kernel
theorem d_X11_wildest_30 : decode (D_X11_wildest).2.1 30 = .ok (.iload_n 3, 1) := by decide +kernel
theorem d_X11_wildest_31 : decode (D_X11_wildest).2.1 31 = .ok (.invokestatic 310, 3) := by decide +kernel
theorem d_X11_wildest_34 : decode (D_X11_wildest).2.1 34 = .ok (.ifCond .eq 31, 3) := by decide +kernel
theorem d_X11_wildest_37 : decode (D_X11_wildest).2.1 37 = .ok (.iload_n 2, 1) := by decide +kernel
theorem d_X11_wildest_38 : decode (D_X11_wildest).2.1 38 = .ok (.iconst (-1), 1) := by decide +kernel
theorem d_X11_wildest_39 : decode (D_X11_wildest).2.1 39 = .ok (.if_icmp .eq 24, 3) := by decide +kernel
theorem d_X11_wildest_42 : decode (D_X11_wildest).2.1 42 = .ok (.aload_n 0, 1) := by decide +kernel
theorem d_X11_wildest_43 : decode (D_X11_wildest).2.1 43 = .ok (.getfield 53, 3) := by decide +kernel
theorem d_X11_wildest_46 : decode (D_X11_wildest).2.1 46 = .ok (.getfield 270, 3) := by decide +kernel
theorem d_X11_wildest_49 : decode (D_X11_wildest).2.1 49 = .ok (.iload_n 3, 1) := by decide +kernel
theorem d_X11_wildest_50 : decode (D_X11_wildest).2.1 50 = .ok (.iaload, 1) := by decide +kernel
theorem d_X11_wildest_51 : decode (D_X11_wildest).2.1 51 = .ok (.aload_n 0, 1) := by decide +kernel
theorem d_X11_wildest_52 : decode (D_X11_wildest).2.1 52 = .ok (.getfield 53, 3) := by decide +kernel
theorem d_X11_wildest_55 : decode (D_X11_wildest).2.1 55 = .ok (.getfield 270, 3) := by decide +kernel
theorem d_X11_wildest_58 : decode (D_X11_wildest).2.1 58 = .ok (.iload_n 2, 1) := by decide +kernel
theorem d_X11_wildest_59 : decode (D_X11_wildest).2.1 59 = .ok (.iaload, 1) := by decide +kernel
theorem d_X11_wildest_60 : decode (D_X11_wildest).2.1 60 = .ok (.if_icmp .ge 5, 3) := by decide +kernel
theorem d_X11_wildest_63 : decode (D_X11_wildest).2.1 63 = .ok (.iload_n 3, 1) := by decide +kernel
theorem d_X11_wildest_64 : decode (D_X11_wildest).2.1 64 = .ok (.istore_n 2, 1) := by decide +kernel
theorem d_X11_wildest_65 : decode (D_X11_wildest).2.1 65 = .ok (.iinc 3 1, 3) := by decide +kernel
theorem d_X11_wildest_68 : decode (D_X11_wildest).2.1 68 = .ok (.goto (-50), 3) := by decide +kernel
theorem d_X11_wildest_71 : decode (D_X11_wildest).2.1 71 = .ok (.iload_n 2, 1) := by decide +kernel
theorem d_X11_wildest_72 : decode (D_X11_wildest).2.1 72 = .ok (.iconst (-1), 1) := by decide +kernel
theorem d_X11_wildest_73 : decode (D_X11_wildest).2.1 73 = .ok (.if_icmp .ne 12, 3) := by decide +kernel
theorem d_X11_wildest_76 : decode (D_X11_wildest).2.1 76 = .ok (.aload_n 0, 1) := by decide +kernel
theorem d_X11_wildest_77 : decode (D_X11_wildest).2.1 77 = .ok (.bipush 6, 2) := by decide +kernel
theorem d_X11_wildest_79 : decode (D_X11_wildest).2.1 79 = .ok (.invokevirtual 143, 3) := by decide +kernel
theorem d_X11_wildest_82 : decode (D_X11_wildest).2.1 82 = .ok (.goto 8, 3) := by decide +kernel
theorem d_X11_wildest_85 : decode (D_X11_wildest).2.1 85 = .ok (.aload_n 0, 1) := by decide +kernel
theorem d_X11_wildest_86 : decode (D_X11_wildest).2.1 86 = .ok (.iload_n 2, 1) := by decide +kernel
theorem d_X11_wildest_87 : decode (D_X11_wildest).2.1 87 = .ok (.invokevirtual 193, 3) := by decide +kernel
theorem d_X11_wildest_90 : decode (D_X11_wildest).2.1 90 = .ok (.ireturn, 1) := by decide +kernel
def f_X11_wildest_L65 (n : Nat) (r18 : Int → Int → Int → JMem → Option (Int × JMem)) (v1 v2 v3 : Int) (M : JMem) : Option (Int × JMem) := letv (v3 + 1) fun y1 => r18 v1 v2 y1 M
set_option maxRecDepth 4000 in
theorem t_X11_wildest_L65 {g : JG} {ad : Nat → Nat} (hs : jStr g ad) (n : Nat) (r18 : Int → Int → Int → JMem → Option (Int × JMem)) (hr18 : ∀ (v1 v2 v3 : Int) (M : JMem), jB g D_X11_wildest ad 18 [some (.ref 0), some (ji v1), some (ji v2), some (ji v3)] [] M (r18 v1 v2 v3 M)) (v1 v2 v3 : Int) (M : JMem) : jB g D_X11_wildest ad 65 [some (.ref 0), some (ji v1), some (ji v2), some (ji v3)] [] M (f_X11_wildest_L65 n r18 v1 v2 v3 M) := by
  unfold f_X11_wildest_L65
  refine jo_iinc 3 d_X11_wildest_65 rfl (Nat.le_of_ble_eq_true rfl) (fun y1 => ?_)
  refine jo_goto 18 d_X11_wildest_68 (by decide) ?_
  exact jO.sub (hr18 v1 v2 y1 M) (And.intro rfl (And.intro rfl (And.intro rfl (And.intro rfl True.intro))))
def f_X11_wildest_L63 (n : Nat) (r18 : Int → Int → Int → JMem → Option (Int × JMem)) (v1 v3 : Int) (M : JMem) : Option (Int × JMem) := letv v3 fun y1 => f_X11_wildest_L65 n r18 v1 y1 v3 M
set_option maxRecDepth 4000 in
theorem t_X11_wildest_L63 {g : JG} {ad : Nat → Nat} (hs : jStr g ad) (n : Nat) (r18 : Int → Int → Int → JMem → Option (Int × JMem)) (hr18 : ∀ (v1 v2 v3 : Int) (M : JMem), jB g D_X11_wildest ad 18 [some (.ref 0), some (ji v1), some (ji v2), some (ji v3)] [] M (r18 v1 v2 v3 M)) (v1 v3 : Int) (M : JMem) : jB g D_X11_wildest ad 63 [some (.ref 0), some (ji v1), none, some (ji v3)] [] M (f_X11_wildest_L63 n r18 v1 v3 M) := by
  unfold f_X11_wildest_L63
  refine jo_iload 3 d_X11_wildest_63 rfl rfl ?_
  refine jo_istore 2 d_X11_wildest_64 rfl (Nat.le_of_ble_eq_true rfl) (fun y1 => ?_)
  exact jO.sub (t_X11_wildest_L65 hs n r18 hr18 v1 y1 v3 M) (And.intro rfl (And.intro rfl (And.intro rfl (And.intro rfl True.intro))))
def f_X11_wildest_L71 (n : Nat) (v2 : Int) (M : JMem) : Option (Int × JMem) := if jw v2 = jw (-1) then (bnd (f_X11_refuse n 6 M) fun r3 M4 => some (r3, M4)) else (bnd (f_X11_answer n v2 M) fun r1 M2 => some (r1, M2))
set_option maxRecDepth 4000 in
theorem t_X11_wildest_L71 {g : JG} {ad : Nat → Nat} (hs : jStr g ad) (n : Nat) (v2 : Int) (M : JMem) : jB g D_X11_wildest ad 71 [some (.ref 0), none, some (ji v2), none] [] M (f_X11_wildest_L71 n v2 M) := by
  unfold f_X11_wildest_L71
  refine jo_iload 2 d_X11_wildest_71 rfl rfl ?_
  refine jo_iconst (-1) d_X11_wildest_72 ?_
  refine jo_icmp_ne 85 d_X11_wildest_73 (by decide) ?_ ?_
  · skip
    refine jo_aload 0 d_X11_wildest_85 rfl rfl ?_
    refine jo_iload 2 d_X11_wildest_86 rfl rfl ?_
    refine jo_callV (st := []) (m_X11_answer hs n v2 M) ok_X11_answer (And.intro (Nat.le_of_ble_eq_true rfl) (Nat.le_of_ble_eq_true rfl)) lm_X11_193 in_X11_answer se_X11_answer rfl kc_0 rfl rfl (And.intro (Nat.zero_le _) (Nat.zero_le _)) rfl (Nat.le_of_ble_eq_true rfl) d_X11_wildest_87 (fun r1 M2 => ?_)
    exact jo_iret rfl d_X11_wildest_90
  · skip
    refine jo_aload 0 d_X11_wildest_76 rfl rfl ?_
    refine jo_bipush 6 d_X11_wildest_77 (by decide) ?_
    refine jo_callV (st := []) (m_X11_refuse hs n 6 M) ok_X11_refuse (And.intro (Nat.le_of_ble_eq_true rfl) (Nat.le_of_ble_eq_true rfl)) lm_X11_143 in_X11_refuse se_X11_refuse rfl kc_0 rfl rfl (And.intro (Nat.zero_le _) (Nat.zero_le _)) rfl (Nat.le_of_ble_eq_true rfl) d_X11_wildest_79 (fun r3 M4 => ?_)
    refine jo_goto 90 d_X11_wildest_82 (by decide) ?_
    exact jo_iret rfl d_X11_wildest_90
def f_X11_wildest_L18 (n : Nat) : Nat → Int → Int → Int → JMem → Option (Int × JMem)
  | 0, _, _, _, _ => none
  | k + 1, v1, v2, v3, M => if jw (M 40 2) ≤ jw v3 then (f_X11_wildest_L71 n v2 M) else (bnd (f_X11_isIn n v1 v3 M) fun r1 M2 => if jw r1 = 0 then (f_X11_wildest_L65 n (f_X11_wildest_L18 n k) v1 v2 v3 M2) else (if jw v2 = jw (-1) then (f_X11_wildest_L63 n (f_X11_wildest_L18 n k) v1 v3 M2) else (chk (jin v3 8) <| chk (jin v2 8) <| if jw (M2 (40 + 10) (jw v2).toNat) ≤ jw (M2 (40 + 10) (jw v3).toNat) then (f_X11_wildest_L65 n (f_X11_wildest_L18 n k) v1 v2 v3 M2) else (f_X11_wildest_L63 n (f_X11_wildest_L18 n k) v1 v3 M2))))
set_option maxRecDepth 4000 in
theorem t_X11_wildest_L18 {g : JG} {ad : Nat → Nat} (hs : jStr g ad) (n : Nat) : ∀ (k : Nat) (v1 v2 v3 : Int) (M : JMem), jB g D_X11_wildest ad 18 [some (.ref 0), some (ji v1), some (ji v2), some (ji v3)] [] M (f_X11_wildest_L18 n k v1 v2 v3 M) := by
  intro k
  induction k with
  | zero => intro v1 v2 v3 M; exact jO.none
  | succ k ih =>
    intro v1 v2 v3 M
    rw [f_X11_wildest_L18]
    refine jo_iload 3 d_X11_wildest_18 rfl rfl ?_
    refine jo_aload 0 d_X11_wildest_19 rfl rfl ?_
    refine jo_getR (k := 7) cl_11 (Nat.le_of_ble_eq_true rfl) lk_X11_53 rfl kc_0 kr_0_7 d_X11_wildest_20 ?_
    refine jo_getI (k := 2) cl_4 (Nat.le_of_ble_eq_true rfl) lk_X11_190 (Or.inl rfl) kc_40 d_X11_wildest_23 ?_
    refine jo_icmp_ge 71 d_X11_wildest_26 (by decide) ?_ ?_
    · skip
      exact jO.sub (t_X11_wildest_L71 hs n v2 M) (And.intro rfl (And.intro rfl True.intro))
    · skip
      refine jo_iload 1 d_X11_wildest_29 rfl rfl ?_
      refine jo_iload 3 d_X11_wildest_30 rfl rfl ?_
      refine jo_callS (st := []) (m_X11_isIn hs n v1 v3 M) ok_X11_isIn (And.intro (Nat.le_of_ble_eq_true rfl) (Nat.le_of_ble_eq_true rfl)) lm_X11_310 st_X11_isIn rfl (And.intro (Nat.zero_le _) (Nat.zero_le _)) rfl (Nat.le_of_ble_eq_true rfl) d_X11_wildest_31 (fun r1 M2 => ?_)
      refine jo_if_eq 65 d_X11_wildest_34 (by decide) ?_ ?_
      · skip
        exact jO.sub (t_X11_wildest_L65 hs n (f_X11_wildest_L18 n k) ih v1 v2 v3 M2) (And.intro rfl (And.intro rfl (And.intro rfl (And.intro rfl True.intro))))
      · skip
        refine jo_iload 2 d_X11_wildest_37 rfl rfl ?_
        refine jo_iconst (-1) d_X11_wildest_38 ?_
        refine jo_icmp_eq 63 d_X11_wildest_39 (by decide) ?_ ?_
        · skip
          exact jO.sub (t_X11_wildest_L63 hs n (f_X11_wildest_L18 n k) ih v1 v3 M2) (And.intro rfl (And.intro rfl (And.intro rfl True.intro)))
        · skip
          refine jo_aload 0 d_X11_wildest_42 rfl rfl ?_
          refine jo_getR (k := 7) cl_11 (Nat.le_of_ble_eq_true rfl) lk_X11_53 rfl kc_0 kr_0_7 d_X11_wildest_43 ?_
          refine jo_getR (k := 14) cl_4 (Nat.le_of_ble_eq_true rfl) lk_X11_270 rfl kc_40 (kr_Plan_14 kc_40) d_X11_wildest_46 ?_
          refine jo_iload 3 d_X11_wildest_49 rfl rfl ?_
          refine jo_iald (N := 8) (ka_Plan_14 kc_40) d_X11_wildest_50 ?_
          refine jo_aload 0 d_X11_wildest_51 rfl rfl ?_
          refine jo_getR (k := 7) cl_11 (Nat.le_of_ble_eq_true rfl) lk_X11_53 rfl kc_0 kr_0_7 d_X11_wildest_52 ?_
          refine jo_getR (k := 14) cl_4 (Nat.le_of_ble_eq_true rfl) lk_X11_270 rfl kc_40 (kr_Plan_14 kc_40) d_X11_wildest_55 ?_
          refine jo_iload 2 d_X11_wildest_58 rfl rfl ?_
          refine jo_iald (N := 8) (ka_Plan_14 kc_40) d_X11_wildest_59 ?_
          refine jo_icmp_ge 65 d_X11_wildest_60 (by decide) ?_ ?_
          · skip
            exact jO.sub (t_X11_wildest_L65 hs n (f_X11_wildest_L18 n k) ih v1 v2 v3 M2) (And.intro rfl (And.intro rfl (And.intro rfl (And.intro rfl True.intro))))
          · skip
            exact jO.sub (t_X11_wildest_L63 hs n (f_X11_wildest_L18 n k) ih v1 v3 M2) (And.intro rfl (And.intro rfl (And.intro rfl True.intro)))
def f_X11_wildest (n : Nat) (x1 : Int) (M : JMem) : Option (Int × JMem) := bnd (f_X11_isSet n x1 M) fun r1 M2 => if jw r1 = 0 then (bnd (f_X11_refuse n 1 M2) fun r5 M6 => some (r5, M6)) else (letv (-1) fun y3 => letv 0 fun y4 => f_X11_wildest_L18 n n x1 y3 y4 M2)
set_option maxRecDepth 4000 in
theorem t_X11_wildest {g : JG} {ad : Nat → Nat} (hs : jStr g ad) (n : Nat) (x1 : Int) (M : JMem) : jB g D_X11_wildest ad 0 [some (.ref 0), some (ji x1), none, none] [] M (f_X11_wildest n x1 M) := by
  unfold f_X11_wildest
  refine jo_aload 0 d_X11_wildest_0 rfl rfl ?_
  refine jo_iload 1 d_X11_wildest_1 rfl rfl ?_
  refine jo_callV (st := []) (m_X11_isSet hs n x1 M) ok_X11_isSet (And.intro (Nat.le_of_ble_eq_true rfl) (Nat.le_of_ble_eq_true rfl)) lm_X11_379 in_X11_isSet se_X11_isSet rfl kc_0 rfl rfl (And.intro (Nat.zero_le _) (Nat.zero_le _)) rfl (Nat.le_of_ble_eq_true rfl) d_X11_wildest_2 (fun r1 M2 => ?_)
  refine jo_if_ne 14 d_X11_wildest_5 (by decide) ?_ ?_
  · skip
    refine jo_iconst (-1) d_X11_wildest_14 ?_
    refine jo_istore 2 d_X11_wildest_15 rfl (Nat.le_of_ble_eq_true rfl) (fun y3 => ?_)
    refine jo_iconst 0 d_X11_wildest_16 ?_
    refine jo_istore 3 d_X11_wildest_17 rfl (Nat.le_of_ble_eq_true rfl) (fun y4 => ?_)
    exact jO.sub (t_X11_wildest_L18 hs n n x1 y3 y4 M2) (And.intro rfl (And.intro rfl (And.intro rfl (And.intro rfl True.intro))))
  · skip
    refine jo_aload 0 d_X11_wildest_8 rfl rfl ?_
    refine jo_iconst 1 d_X11_wildest_9 ?_
    refine jo_callV (st := []) (m_X11_refuse hs n 1 M2) ok_X11_refuse (And.intro (Nat.le_of_ble_eq_true rfl) (Nat.le_of_ble_eq_true rfl)) lm_X11_143 in_X11_refuse se_X11_refuse rfl kc_0 rfl rfl (And.intro (Nat.zero_le _) (Nat.zero_le _)) rfl (Nat.le_of_ble_eq_true rfl) d_X11_wildest_10 (fun r5 M6 => ?_)
    exact jo_iret rfl d_X11_wildest_13
theorem m_X11_wildest {g : JG} {ad : Nat → Nat} (hs : jStr g ad) (n : Nat) (x1 : Int) (M : JMem) : jMet g jNN ad jR D_X11_wildest yX11_wildest [.ref 0, ji x1] M (f_X11_wildest n x1 M) :=
  jMet.of (lo0 := [some (.ref 0), some (ji x1), none, none]) (by decide) rfl rfl (Nat.le_of_ble_eq_true rfl) (And.intro rfl (And.intro rfl True.intro)) (t_X11_wildest hs n x1 M)
/-! CageLeave.write(IIJ)Z -/
def D_X11_write : JD := (RX11, cX11_write, 6, some .boolean, "write", { frames := 3, cells := 0, slots := 0, locals := 66 })
theorem ok_X11_write : jOk D_X11_write yX11_write 3 := ⟨jTW_mem (k := 702) (by decide +kernel) rfl, jTW_mem (k := 135) (by decide +kernel) rfl, ⟨by decide +kernel, by decide +kernel⟩, by decide +kernel, rfl, rfl⟩
theorem in_X11_write : Cond.instanceMethod yX11_write ∈ jTW := jTW_mem (k := 700) (by decide +kernel) rfl
theorem se_X11_write : Cond.selects yX11_write.cls yX11_write yX11_write ∈ jTW := jTW_mem (k := 701) (by decide +kernel) rfl
theorem d_X11_write_0 : decode (D_X11_write).2.1 0 = .ok (.aload_n 0, 1) := by decide +kernel
theorem d_X11_write_1 : decode (D_X11_write).2.1 1 = .ok (.getfield 23, 3) := by decide +kernel
theorem d_X11_write_4 : decode (D_X11_write).2.1 4 = .ok (.iload_n 1, 1) := by decide +kernel
theorem d_X11_write_5 : decode (D_X11_write).2.1 5 = .ok (.iload_n 2, 1) := by decide +kernel
theorem d_X11_write_6 : decode (D_X11_write).2.1 6 = .ok (.invokevirtual 135, 3) := by decide +kernel
theorem d_X11_write_9 : decode (D_X11_write).2.1 9 = .ok (.istore 5, 2) := by decide +kernel
theorem d_X11_write_11 : decode (D_X11_write).2.1 11 = .ok (.iload 5, 2) := by decide +kernel
theorem d_X11_write_13 : decode (D_X11_write).2.1 13 = .ok (.ifCond .eq 10, 3) := by decide +kernel
theorem d_X11_write_16 : decode (D_X11_write).2.1 16 = .ok (.aload_n 0, 1) := by decide +kernel
theorem d_X11_write_17 : decode (D_X11_write).2.1 17 = .ok (.iload 5, 2) := by decide +kernel
theorem d_X11_write_19 : decode (D_X11_write).2.1 19 = .ok (.invokevirtual 124, 3) := by decide +kernel
theorem d_X11_write_22 : decode (D_X11_write).2.1 22 = .ok (.ireturn, 1) := by decide +kernel
theorem d_X11_write_23 : decode (D_X11_write).2.1 23 = .ok (.aload_n 0, 1) := by decide +kernel
theorem d_X11_write_24 : decode (D_X11_write).2.1 24 = .ok (.getfield 23, 3) := by decide +kernel
theorem d_X11_write_27 : decode (D_X11_write).2.1 27 = .ok (.iload_n 1, 1) := by decide +kernel
theorem d_X11_write_28 : decode (D_X11_write).2.1 28 = .ok (.iload_n 2, 1) := by decide +kernel
theorem d_X11_write_29 : decode (D_X11_write).2.1 29 = .ok (.lload_n 3, 1) := by decide +kernel
theorem d_X11_write_30 : decode (D_X11_write).2.1 30 = .ok (.invokevirtual 139, 3) := by decide +kernel
theorem d_X11_write_33 : decode (D_X11_write).2.1 33 = .ok (.aload_n 0, 1) := by decide +kernel
theorem d_X11_write_34 : decode (D_X11_write).2.1 34 = .ok (.invokevirtual 131, 3) := by decide +kernel
theorem d_X11_write_37 : decode (D_X11_write).2.1 37 = .ok (.ireturn, 1) := by decide +kernel
def f_X11_write (n : Nat) (x1 : Int) (x2 : Int) (x3 : Int) (M : JMem) : Option (Int × JMem) := bnd (f_X7_whyNotAt n x1 x2 M) fun r1 M2 => letv r1 fun y3 => if jw y3 = 0 then (bnd (f_X7_put n x1 x2 x3 M2) fun _ M5 => bnd (f_X11_allow n M5) fun r6 M7 => chk (jw r6 = 0 ∨ jw r6 = 1) (some (r6, M7))) else (bnd (f_X11_deny n y3 M2) fun r8 M9 => chk (jw r8 = 0 ∨ jw r8 = 1) (some (r8, M9)))
set_option maxRecDepth 4000 in
theorem t_X11_write {g : JG} {ad : Nat → Nat} (hs : jStr g ad) (n : Nat) (x1 : Int) (x2 : Int) (x3 : Int) (M : JMem) : jB g D_X11_write ad 0 [some (.ref 0), some (ji x1), some (ji x2), some (jl x3), none, none] [] M (f_X11_write n x1 x2 x3 M) := by
  unfold f_X11_write
  refine jo_aload 0 d_X11_write_0 rfl rfl ?_
  refine jo_getR (k := 3) cl_11 (Nat.le_of_ble_eq_true rfl) lk_X11_23 rfl kc_0 kr_0_3 d_X11_write_1 ?_
  refine jo_iload 1 d_X11_write_4 rfl rfl ?_
  refine jo_iload 2 d_X11_write_5 rfl rfl ?_
  refine jo_callV (st := []) (m_X7_whyNotAt hs n x1 x2 M) ok_X7_whyNotAt (And.intro (Nat.le_of_ble_eq_true rfl) (Nat.le_of_ble_eq_true rfl)) lm_X11_135 in_X7_whyNotAt se_X7_whyNotAt rfl kc_1 rfl rfl (And.intro (Nat.zero_le _) (Nat.zero_le _)) rfl (Nat.le_of_ble_eq_true rfl) d_X11_write_6 (fun r1 M2 => ?_)
  refine jo_istoreW 5 d_X11_write_9 (Nat.le_of_ble_eq_true rfl) (fun y3 => ?_)
  refine jo_iloadW 5 d_X11_write_11 rfl ?_
  refine jo_if_eq 23 d_X11_write_13 (by decide) ?_ ?_
  · skip
    refine jo_aload 0 d_X11_write_23 rfl rfl ?_
    refine jo_getR (k := 3) cl_11 (Nat.le_of_ble_eq_true rfl) lk_X11_23 rfl kc_0 kr_0_3 d_X11_write_24 ?_
    refine jo_iload 1 d_X11_write_27 rfl rfl ?_
    refine jo_iload 2 d_X11_write_28 rfl rfl ?_
    refine jo_lload 3 d_X11_write_29 rfl rfl ?_
    refine jo_callV (st := []) (m_X7_put hs n x1 x2 x3 M2) ok_X7_put (And.intro (Nat.le_of_ble_eq_true rfl) (Nat.le_of_ble_eq_true rfl)) lm_X11_139 in_X7_put se_X7_put rfl kc_1 rfl rfl (And.intro (Nat.zero_le _) (Nat.zero_le _)) rfl (Nat.le_of_ble_eq_true rfl) d_X11_write_30 (fun _ M5 => ?_)
    refine jo_aload 0 d_X11_write_33 rfl rfl ?_
    refine jo_callV (st := []) (m_X11_allow hs n M5) ok_X11_allow (And.intro (Nat.le_of_ble_eq_true rfl) (Nat.le_of_ble_eq_true rfl)) lm_X11_131 in_X11_allow se_X11_allow rfl kc_0 rfl rfl (And.intro (Nat.zero_le _) (Nat.zero_le _)) rfl (Nat.le_of_ble_eq_true rfl) d_X11_write_34 (fun r6 M7 => ?_)
    exact jo_zretq rfl d_X11_write_37
  · skip
    refine jo_aload 0 d_X11_write_16 rfl rfl ?_
    refine jo_iloadW 5 d_X11_write_17 rfl ?_
    refine jo_callV (st := []) (m_X11_deny hs n y3 M2) ok_X11_deny (And.intro (Nat.le_of_ble_eq_true rfl) (Nat.le_of_ble_eq_true rfl)) lm_X11_124 in_X11_deny se_X11_deny rfl kc_0 rfl rfl (And.intro (Nat.zero_le _) (Nat.zero_le _)) rfl (Nat.le_of_ble_eq_true rfl) d_X11_write_19 (fun r8 M9 => ?_)
    exact jo_zretq rfl d_X11_write_22
theorem m_X11_write {g : JG} {ad : Nat → Nat} (hs : jStr g ad) (n : Nat) (x1 : Int) (x2 : Int) (x3 : Int) (M : JMem) : jMet g jNN ad jR D_X11_write yX11_write [.ref 0, ji x1, ji x2, jl x3] M (f_X11_write n x1 x2 x3 M) :=
  jMet.of (lo0 := [some (.ref 0), some (ji x1), some (ji x2), some (jl x3), none, none]) (by decide) rfl rfl (Nat.le_of_ble_eq_true rfl) (And.intro rfl (And.intro rfl (And.intro rfl (And.intro rfl True.intro)))) (t_X11_write hs n x1 x2 x3 M)
end

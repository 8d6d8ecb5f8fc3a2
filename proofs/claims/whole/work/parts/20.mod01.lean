section
/-! CageLeaveModel.fails(I)Z -/
def D_X12_fails : JD := (RX12, cX12_fails, 2, some .boolean, "fails", { frames := 0, cells := 0, slots := 0, locals := 0 })
theorem ok_X12_fails : jOk D_X12_fails yX12_fails 1 := ⟨jTW_mem (k := 1591) (by decide +kernel) rfl, jTW_mem (k := 151) (by decide +kernel) rfl, ⟨by decide +kernel, by decide +kernel⟩, by decide +kernel, rfl, rfl⟩
theorem in_X12_fails : Cond.instanceMethod yX12_fails ∈ jTW := jTW_mem (k := 1590) (by decide +kernel) rfl
theorem se_X12_fails : Cond.selects yX12_fails.cls yX12_fails yX12_fails ∈ jTW := jTW_mem (k := 58) (by decide +kernel) rfl
theorem lk_X12_157 : Cond.fieldLink RX12 157 (TX12 18).1 (TX12 18).2.1 (TX12 18).2.2.1 ∈ jTW := jTW_mem (k := 1394) (by decide +kernel) rfl
theorem lk_X12_126 : Cond.fieldLink RX12 126 (TX12 13).1 (TX12 13).2.1 (TX12 13).2.2.1 ∈ jTW := jTW_mem (k := 1389) (by decide +kernel) rfl
theorem lk_X12_41 : Cond.fieldLink RX12 41 (TX12 17).1 (TX12 17).2.1 (TX12 17).2.2.1 ∈ jTW := jTW_mem (k := 1393) (by decide +kernel) rfl
theorem lk_X12_132 : Cond.fieldLink RX12 132 (TX12 12).1 (TX12 12).2.1 (TX12 12).2.2.1 ∈ jTW := jTW_mem (k := 1388) (by decide +kernel) rfl
theorem d_X12_fails_0 : decode (D_X12_fails).2.1 0 = .ok (.aload_n 0, 1) := by decide +kernel
theorem d_X12_fails_1 : decode (D_X12_fails).2.1 1 = .ok (.getfield 157, 3) := by decide +kernel
theorem d_X12_fails_4 : decode (D_X12_fails).2.1 4 = .ok (.ifCond .ne 28, 3) := by decide +kernel
theorem d_X12_fails_7 : decode (D_X12_fails).2.1 7 = .ok (.aload_n 0, 1) := by decide +kernel
theorem d_X12_fails_8 : decode (D_X12_fails).2.1 8 = .ok (.aload_n 0, 1) := by decide +kernel
theorem d_X12_fails_9 : decode (D_X12_fails).2.1 9 = .ok (.getfield 132, 3) := by decide +kernel
theorem d_X12_fails_12 : decode (D_X12_fails).2.1 12 = .ok (.iconst 1, 1) := by decide +kernel
theorem d_X12_fails_13 : decode (D_X12_fails).2.1 13 = .ok (.if_icmp .ne 7, 3) := by decide +kernel
theorem d_X12_fails_16 : decode (D_X12_fails).2.1 16 = .ok (.iconst 1, 1) := by decide +kernel
theorem d_X12_fails_17 : decode (D_X12_fails).2.1 17 = .ok (.goto 4, 3) := by decide +kernel
theorem d_X12_fails_20 : decode (D_X12_fails).2.1 20 = .ok (.iload_n 1, 1) := by decide +kernel
theorem d_X12_fails_21 : decode (D_X12_fails).2.1 21 = .ok (.putfield 157, 3) := by decide +kernel
theorem d_X12_fails_24 : decode (D_X12_fails).2.1 24 = .ok (.aload_n 0, 1) := by decide +kernel
theorem d_X12_fails_25 : decode (D_X12_fails).2.1 25 = .ok (.aload_n 0, 1) := by decide +kernel
theorem d_X12_fails_26 : decode (D_X12_fails).2.1 26 = .ok (.getfield 126, 3) := by decide +kernel
theorem d_X12_fails_29 : decode (D_X12_fails).2.1 29 = .ok (.putfield 41, 3) := by decide +kernel
theorem d_X12_fails_32 : decode (D_X12_fails).2.1 32 = .ok (.iconst 0, 1) := by decide +kernel
theorem d_X12_fails_33 : decode (D_X12_fails).2.1 33 = .ok (.ireturn, 1) := by decide +kernel
def f_X12_fails_L21 (n : Nat) (w1 : Int) (M : JMem) : Option (Int × JMem) := letm (jup M 167 18 w1) fun M1 => letm (jup M1 167 17 (M1 167 13)) fun M2 => some (0, M2)
set_option maxRecDepth 4000 in
theorem t_X12_fails_L21 {g : JG} {ad : Nat → Nat} (hs : jStr g ad) (n : Nat) (w1 : Int) (M : JMem) : jB g D_X12_fails ad 21 [some (.ref 167), none] [ji w1, .ref 167] M (f_X12_fails_L21 n w1 M) := by
  unfold f_X12_fails_L21
  refine jo_putI (k := 18) cl_12 (Nat.le_of_ble_eq_true rfl) lk_X12_157 rfl rfl kc_167 d_X12_fails_21 (fun M1 => ?_)
  refine jo_aload 0 d_X12_fails_24 rfl rfl ?_
  refine jo_aload 0 d_X12_fails_25 rfl rfl ?_
  refine jo_getI (k := 13) cl_12 (Nat.le_of_ble_eq_true rfl) lk_X12_126 (Or.inl rfl) kc_167 d_X12_fails_26 ?_
  refine jo_putI (k := 17) cl_12 (Nat.le_of_ble_eq_true rfl) lk_X12_41 rfl rfl kc_167 d_X12_fails_29 (fun M2 => ?_)
  refine jo_iconst 0 d_X12_fails_32 ?_
  exact jo_zret rfl (by decide) d_X12_fails_33
def f_X12_fails (n : Nat) (x1 : Int) (M : JMem) : Option (Int × JMem) := if jw (M 167 18) = 0 then (if jw (M 167 12) = jw 1 then (f_X12_fails_L21 n 1 M) else (f_X12_fails_L21 n x1 M)) else (some (0, M))
set_option maxRecDepth 4000 in
theorem t_X12_fails {g : JG} {ad : Nat → Nat} (hs : jStr g ad) (n : Nat) (x1 : Int) (M : JMem) : jB g D_X12_fails ad 0 [some (.ref 167), some (ji x1)] [] M (f_X12_fails n x1 M) := by
  unfold f_X12_fails
  refine jo_aload 0 d_X12_fails_0 rfl rfl ?_
  refine jo_getI (k := 18) cl_12 (Nat.le_of_ble_eq_true rfl) lk_X12_157 (Or.inl rfl) kc_167 d_X12_fails_1 ?_
  refine jo_if_ne 32 d_X12_fails_4 (by decide) ?_ ?_
  · skip
    refine jo_iconst 0 d_X12_fails_32 ?_
    exact jo_zret rfl (by decide) d_X12_fails_33
  · skip
    refine jo_aload 0 d_X12_fails_7 rfl rfl ?_
    refine jo_aload 0 d_X12_fails_8 rfl rfl ?_
    refine jo_getI (k := 12) cl_12 (Nat.le_of_ble_eq_true rfl) lk_X12_132 (Or.inl rfl) kc_167 d_X12_fails_9 ?_
    refine jo_iconst 1 d_X12_fails_12 ?_
    refine jo_icmp_ne 20 d_X12_fails_13 (by decide) ?_ ?_
    · skip
      refine jo_iload 1 d_X12_fails_20 rfl rfl ?_
      exact jO.sub (t_X12_fails_L21 hs n x1 M) (And.intro rfl True.intro)
    · skip
      refine jo_iconst 1 d_X12_fails_16 ?_
      refine jo_goto 21 d_X12_fails_17 (by decide) ?_
      exact jO.sub (t_X12_fails_L21 hs n 1 M) (And.intro rfl True.intro)
theorem m_X12_fails {g : JG} {ad : Nat → Nat} (hs : jStr g ad) (n : Nat) (x1 : Int) (M : JMem) : jMet g jNN ad jR D_X12_fails yX12_fails [.ref 167, ji x1] M (f_X12_fails n x1 M) :=
  jMet.of (lo0 := [some (.ref 167), some (ji x1)]) (by decide) rfl rfl (Nat.le_of_ble_eq_true rfl) (And.intro rfl (And.intro rfl True.intro)) (t_X12_fails hs n x1 M)
/-! CageLeaveModel.byteAt(I)I -/
def D_X12_byteAt : JD := (RX12, cX12_byteAt, 2, some .int, "byteAt", { frames := 0, cells := 0, slots := 0, locals := 0 })
theorem ok_X12_byteAt : jOk D_X12_byteAt yX12_byteAt 1 := ⟨jTW_mem (k := 1564) (by decide +kernel) rfl, jTW_mem (k := 151) (by decide +kernel) rfl, ⟨by decide +kernel, by decide +kernel⟩, by decide +kernel, rfl, rfl⟩
theorem in_X12_byteAt : Cond.instanceMethod yX12_byteAt ∈ jTW := jTW_mem (k := 1563) (by decide +kernel) rfl
theorem se_X12_byteAt : Cond.selects yX12_byteAt.cls yX12_byteAt yX12_byteAt ∈ jTW := jTW_mem (k := 54) (by decide +kernel) rfl
theorem lk_X12_117 : Cond.fieldLink RX12 117 (TX12 11).1 (TX12 11).2.1 (TX12 11).2.2.1 ∈ jTW := jTW_mem (k := 1387) (by decide +kernel) rfl
theorem lk_X12_34 : Cond.fieldLink RX12 34 (TX12 9).1 (TX12 9).2.1 (TX12 9).2.2.1 ∈ jTW := jTW_mem (k := 1385) (by decide +kernel) rfl
theorem d_X12_byteAt_0 : decode (D_X12_byteAt).2.1 0 = .ok (.iload_n 1, 1) := by decide +kernel
theorem d_X12_byteAt_1 : decode (D_X12_byteAt).2.1 1 = .ok (.aload_n 0, 1) := by decide +kernel
theorem d_X12_byteAt_2 : decode (D_X12_byteAt).2.1 2 = .ok (.getfield 117, 3) := by decide +kernel
theorem d_X12_byteAt_5 : decode (D_X12_byteAt).2.1 5 = .ok (.if_icmp .ge 16, 3) := by decide +kernel
theorem d_X12_byteAt_8 : decode (D_X12_byteAt).2.1 8 = .ok (.aload_n 0, 1) := by decide +kernel
theorem d_X12_byteAt_9 : decode (D_X12_byteAt).2.1 9 = .ok (.getfield 34, 3) := by decide +kernel
theorem d_X12_byteAt_12 : decode (D_X12_byteAt).2.1 12 = .ok (.iload_n 1, 1) := by decide +kernel
theorem d_X12_byteAt_13 : decode (D_X12_byteAt).2.1 13 = .ok (.baload, 1) := by decide +kernel
theorem d_X12_byteAt_14 : decode (D_X12_byteAt).2.1 14 = .ok (.sipush 255, 3) := by decide +kernel
theorem d_X12_byteAt_17 : decode (D_X12_byteAt).2.1 17 = .ok (.iand, 1) := by decide +kernel
theorem d_X12_byteAt_18 : decode (D_X12_byteAt).2.1 18 = .ok (.goto 4, 3) := by decide +kernel
theorem d_X12_byteAt_21 : decode (D_X12_byteAt).2.1 21 = .ok (.iconst (-1), 1) := by decide +kernel
theorem d_X12_byteAt_22 : decode (D_X12_byteAt).2.1 22 = .ok (.ireturn, 1) := by decide +kernel
def f_X12_byteAt (n : Nat) (x1 : Int) (M : JMem) : Option (Int × JMem) := if jw (M 167 11) ≤ jw x1 then (some ((-1), M)) else (chk (jin x1 900) <| some ((jand (M 174 (jw x1).toNat) 255), M))
set_option maxRecDepth 4000 in
theorem t_X12_byteAt {g : JG} {ad : Nat → Nat} (hs : jStr g ad) (n : Nat) (x1 : Int) (M : JMem) : jB g D_X12_byteAt ad 0 [some (.ref 167), some (ji x1)] [] M (f_X12_byteAt n x1 M) := by
  unfold f_X12_byteAt
  refine jo_iload 1 d_X12_byteAt_0 rfl rfl ?_
  refine jo_aload 0 d_X12_byteAt_1 rfl rfl ?_
  refine jo_getI (k := 11) cl_12 (Nat.le_of_ble_eq_true rfl) lk_X12_117 (Or.inl rfl) kc_167 d_X12_byteAt_2 ?_
  refine jo_icmp_ge 21 d_X12_byteAt_5 (by decide) ?_ ?_
  · skip
    refine jo_iconst (-1) d_X12_byteAt_21 ?_
    exact jo_iret rfl d_X12_byteAt_22
  · skip
    refine jo_aload 0 d_X12_byteAt_8 rfl rfl ?_
    refine jo_getR (k := 9) cl_12 (Nat.le_of_ble_eq_true rfl) lk_X12_34 rfl kc_167 kr_167_9 d_X12_byteAt_9 ?_
    refine jo_iload 1 d_X12_byteAt_12 rfl rfl ?_
    refine jo_bald (N := 900) kc_174 d_X12_byteAt_13 ?_
    refine jo_sipush 255 d_X12_byteAt_14 (by decide) ?_
    refine jo_iand d_X12_byteAt_17 ?_
    refine jo_goto 22 d_X12_byteAt_18 (by decide) ?_
    exact jo_iret rfl d_X12_byteAt_22
theorem m_X12_byteAt {g : JG} {ad : Nat → Nat} (hs : jStr g ad) (n : Nat) (x1 : Int) (M : JMem) : jMet g jNN ad jR D_X12_byteAt yX12_byteAt [.ref 167, ji x1] M (f_X12_byteAt n x1 M) :=
  jMet.of (lo0 := [some (.ref 167), some (ji x1)]) (by decide) rfl rfl (Nat.le_of_ble_eq_true rfl) (And.intro rfl (And.intro rfl True.intro)) (t_X12_byteAt hs n x1 M)
/-! CageLeaveModel.isSmall(I)Z -/
def D_X12_isSmall : JD := (RX12, cX12_isSmall, 1, some .boolean, "isSmall", { frames := 0, cells := 0, slots := 0, locals := 0 })
theorem ok_X12_isSmall : jOk D_X12_isSmall yX12_isSmall 1 := ⟨jTW_mem (k := 1567) (by decide +kernel) rfl, jTW_mem (k := 151) (by decide +kernel) rfl, ⟨by decide +kernel, by decide +kernel⟩, by decide +kernel, rfl, rfl⟩
theorem st_X12_isSmall : Cond.static yX12_isSmall ∈ jTW := jTW_mem (k := 1566) (by decide +kernel) rfl
theorem d_X12_isSmall_0 : decode (D_X12_isSmall).2.1 0 = .ok (.iload_n 0, 1) := by decide +kernel
theorem d_X12_isSmall_1 : decode (D_X12_isSmall).2.1 1 = .ok (.bipush 97, 2) := by decide +kernel
theorem d_X12_isSmall_3 : decode (D_X12_isSmall).2.1 3 = .ok (.if_icmp .lt 13, 3) := by decide +kernel
theorem d_X12_isSmall_6 : decode (D_X12_isSmall).2.1 6 = .ok (.iload_n 0, 1) := by decide +kernel
theorem d_X12_isSmall_7 : decode (D_X12_isSmall).2.1 7 = .ok (.bipush 122, 2) := by decide +kernel
theorem d_X12_isSmall_9 : decode (D_X12_isSmall).2.1 9 = .ok (.if_icmp .gt 7, 3) := by decide +kernel
theorem d_X12_isSmall_12 : decode (D_X12_isSmall).2.1 12 = .ok (.iconst 1, 1) := by decide +kernel
theorem d_X12_isSmall_13 : decode (D_X12_isSmall).2.1 13 = .ok (.goto 4, 3) := by decide +kernel
theorem d_X12_isSmall_16 : decode (D_X12_isSmall).2.1 16 = .ok (.iconst 0, 1) := by decide +kernel
theorem d_X12_isSmall_17 : decode (D_X12_isSmall).2.1 17 = .ok (.ireturn, 1) := by decide +kernel
def f_X12_isSmall (n : Nat) (x0 : Int) (M : JMem) : Option (Int × JMem) := if jw x0 < jw 97 then (some (0, M)) else (if jw 122 < jw x0 then (some (0, M)) else (some (1, M)))
set_option maxRecDepth 4000 in
theorem t_X12_isSmall {g : JG} {ad : Nat → Nat} (hs : jStr g ad) (n : Nat) (x0 : Int) (M : JMem) : jB g D_X12_isSmall ad 0 [some (ji x0)] [] M (f_X12_isSmall n x0 M) := by
  unfold f_X12_isSmall
  refine jo_iload 0 d_X12_isSmall_0 rfl rfl ?_
  refine jo_bipush 97 d_X12_isSmall_1 (by decide) ?_
  refine jo_icmp_lt 16 d_X12_isSmall_3 (by decide) ?_ ?_
  · skip
    refine jo_iconst 0 d_X12_isSmall_16 ?_
    exact jo_zret rfl (by decide) d_X12_isSmall_17
  · skip
    refine jo_iload 0 d_X12_isSmall_6 rfl rfl ?_
    refine jo_bipush 122 d_X12_isSmall_7 (by decide) ?_
    refine jo_icmp_gt 16 d_X12_isSmall_9 (by decide) ?_ ?_
    · skip
      refine jo_iconst 0 d_X12_isSmall_16 ?_
      exact jo_zret rfl (by decide) d_X12_isSmall_17
    · skip
      refine jo_iconst 1 d_X12_isSmall_12 ?_
      refine jo_goto 17 d_X12_isSmall_13 (by decide) ?_
      exact jo_zret rfl (by decide) d_X12_isSmall_17
theorem m_X12_isSmall {g : JG} {ad : Nat → Nat} (hs : jStr g ad) (n : Nat) (x0 : Int) (M : JMem) : jMet g jNN ad jR D_X12_isSmall yX12_isSmall [ji x0] M (f_X12_isSmall n x0 M) :=
  jMet.of (lo0 := [some (ji x0)]) (by decide) rfl rfl (Nat.le_of_ble_eq_true rfl) (And.intro rfl True.intro) (t_X12_isSmall hs n x0 M)
/-! CageLeaveModel.isDigit(I)Z -/
def D_X12_isDigit : JD := (RX12, cX12_isDigit, 1, some .boolean, "isDigit", { frames := 0, cells := 0, slots := 0, locals := 0 })
theorem ok_X12_isDigit : jOk D_X12_isDigit yX12_isDigit 1 := ⟨jTW_mem (k := 1570) (by decide +kernel) rfl, jTW_mem (k := 151) (by decide +kernel) rfl, ⟨by decide +kernel, by decide +kernel⟩, by decide +kernel, rfl, rfl⟩
theorem st_X12_isDigit : Cond.static yX12_isDigit ∈ jTW := jTW_mem (k := 1569) (by decide +kernel) rfl
theorem d_X12_isDigit_0 : decode (D_X12_isDigit).2.1 0 = .ok (.iload_n 0, 1) := by decide +kernel
theorem d_X12_isDigit_1 : decode (D_X12_isDigit).2.1 1 = .ok (.bipush 48, 2) := by decide +kernel
theorem d_X12_isDigit_3 : decode (D_X12_isDigit).2.1 3 = .ok (.if_icmp .lt 13, 3) := by decide +kernel
theorem d_X12_isDigit_6 : decode (D_X12_isDigit).2.1 6 = .ok (.iload_n 0, 1) := by decide +kernel
theorem d_X12_isDigit_7 : decode (D_X12_isDigit).2.1 7 = .ok (.bipush 57, 2) := by decide +kernel
theorem d_X12_isDigit_9 : decode (D_X12_isDigit).2.1 9 = .ok (.if_icmp .gt 7, 3) := by decide +kernel
theorem d_X12_isDigit_12 : decode (D_X12_isDigit).2.1 12 = .ok (.iconst 1, 1) := by decide +kernel
theorem d_X12_isDigit_13 : decode (D_X12_isDigit).2.1 13 = .ok (.goto 4, 3) := by decide +kernel
theorem d_X12_isDigit_16 : decode (D_X12_isDigit).2.1 16 = .ok (.iconst 0, 1) := by decide +kernel
theorem d_X12_isDigit_17 : decode (D_X12_isDigit).2.1 17 = .ok (.ireturn, 1) := by decide +kernel
def f_X12_isDigit (n : Nat) (x0 : Int) (M : JMem) : Option (Int × JMem) := if jw x0 < jw 48 then (some (0, M)) else (if jw 57 < jw x0 then (some (0, M)) else (some (1, M)))
set_option maxRecDepth 4000 in
theorem t_X12_isDigit {g : JG} {ad : Nat → Nat} (hs : jStr g ad) (n : Nat) (x0 : Int) (M : JMem) : jB g D_X12_isDigit ad 0 [some (ji x0)] [] M (f_X12_isDigit n x0 M) := by
  unfold f_X12_isDigit
  refine jo_iload 0 d_X12_isDigit_0 rfl rfl ?_
  refine jo_bipush 48 d_X12_isDigit_1 (by decide) ?_
  refine jo_icmp_lt 16 d_X12_isDigit_3 (by decide) ?_ ?_
  · skip
    refine jo_iconst 0 d_X12_isDigit_16 ?_
    exact jo_zret rfl (by decide) d_X12_isDigit_17
  · skip
    refine jo_iload 0 d_X12_isDigit_6 rfl rfl ?_
    refine jo_bipush 57 d_X12_isDigit_7 (by decide) ?_
    refine jo_icmp_gt 16 d_X12_isDigit_9 (by decide) ?_ ?_
    · skip
      refine jo_iconst 0 d_X12_isDigit_16 ?_
      exact jo_zret rfl (by decide) d_X12_isDigit_17
    · skip
      refine jo_iconst 1 d_X12_isDigit_12 ?_
      refine jo_goto 17 d_X12_isDigit_13 (by decide) ?_
      exact jo_zret rfl (by decide) d_X12_isDigit_17
theorem m_X12_isDigit {g : JG} {ad : Nat → Nat} (hs : jStr g ad) (n : Nat) (x0 : Int) (M : JMem) : jMet g jNN ad jR D_X12_isDigit yX12_isDigit [ji x0] M (f_X12_isDigit n x0 M) :=
  jMet.of (lo0 := [some (ji x0)]) (by decide) rfl rfl (Nat.le_of_ble_eq_true rfl) (And.intro rfl True.intro) (t_X12_isDigit hs n x0 M)
/-! CageLeaveModel.ahead()V -/
def D_X12_ahead : JD := (RX12, cX12_ahead, 2, none, "ahead", { frames := 1, cells := 0, slots := 0, locals := 40 })
theorem ok_X12_ahead : jOk D_X12_ahead yX12_ahead 0 := ⟨jTW_mem (k := 1560) (by decide +kernel) rfl, jTW_mem (k := 151) (by decide +kernel) rfl, ⟨by decide +kernel, by decide +kernel⟩, by decide +kernel, rfl, rfl⟩
theorem in_X12_ahead : Cond.instanceMethod yX12_ahead ∈ jTW := jTW_mem (k := 1559) (by decide +kernel) rfl
theorem se_X12_ahead : Cond.selects yX12_ahead.cls yX12_ahead yX12_ahead ∈ jTW := jTW_mem (k := 53) (by decide +kernel) rfl
theorem lk_X12_120 : Cond.fieldLink RX12 120 (TX12 14).1 (TX12 14).2.1 (TX12 14).2.2.1 ∈ jTW := jTW_mem (k := 1390) (by decide +kernel) rfl
theorem lm_X12_123 : Cond.methodLink RX12 123 yX12_byteAt ∈ jTW := jTW_mem (k := 1561) (by decide +kernel) rfl
theorem lm_X12_138 : Cond.methodLink RX12 138 yX12_isDigit ∈ jTW := jTW_mem (k := 1568) (by decide +kernel) rfl
theorem lc_X12_141 : Cond.constant RX12 141 (Int32.ofInt 100000) ∈ jTW := jTW_mem (k := 1571) (by decide +kernel) rfl
theorem lk_X12_129 : Cond.fieldLink RX12 129 (TX12 15).1 (TX12 15).2.1 (TX12 15).2.2.1 ∈ jTW := jTW_mem (k := 1391) (by decide +kernel) rfl
theorem lm_X12_142 : Cond.methodLink RX12 142 Lib.Math.min.name ∈ jTW := jTW_mem (k := 1572) (by decide +kernel) rfl
theorem lm_X12_135 : Cond.methodLink RX12 135 yX12_isSmall ∈ jTW := jTW_mem (k := 1565) (by decide +kernel) rfl
theorem d_X12_ahead_0 : decode (D_X12_ahead).2.1 0 = .ok (.aload_n 0, 1) := by decide +kernel
theorem d_X12_ahead_1 : decode (D_X12_ahead).2.1 1 = .ok (.aload_n 0, 1) := by decide +kernel
theorem d_X12_ahead_2 : decode (D_X12_ahead).2.1 2 = .ok (.getfield 120, 3) := by decide +kernel
theorem d_X12_ahead_5 : decode (D_X12_ahead).2.1 5 = .ok (.invokevirtual 123, 3) := by decide +kernel
theorem d_X12_ahead_8 : decode (D_X12_ahead).2.1 8 = .ok (.bipush 32, 2) := by decide +kernel
theorem d_X12_ahead_10 : decode (D_X12_ahead).2.1 10 = .ok (.if_icmp .eq 16, 3) := by decide +kernel
theorem d_X12_ahead_13 : decode (D_X12_ahead).2.1 13 = .ok (.aload_n 0, 1) := by decide +kernel
theorem d_X12_ahead_14 : decode (D_X12_ahead).2.1 14 = .ok (.aload_n 0, 1) := by decide +kernel
theorem d_X12_ahead_15 : decode (D_X12_ahead).2.1 15 = .ok (.getfield 120, 3) := by decide +kernel
theorem d_X12_ahead_18 : decode (D_X12_ahead).2.1 18 = .ok (.invokevirtual 123, 3) := by decide +kernel
theorem d_X12_ahead_21 : decode (D_X12_ahead).2.1 21 = .ok (.bipush 10, 2) := by decide +kernel
theorem d_X12_ahead_23 : decode (D_X12_ahead).2.1 23 = .ok (.if_icmp .ne 16, 3) := by decide +kernel
theorem d_X12_ahead_26 : decode (D_X12_ahead).2.1 26 = .ok (.aload_n 0, 1) := by decide +kernel
theorem d_X12_ahead_27 : decode (D_X12_ahead).2.1 27 = .ok (.dup, 1) := by decide +kernel
theorem d_X12_ahead_28 : decode (D_X12_ahead).2.1 28 = .ok (.getfield 120, 3) := by decide +kernel
theorem d_X12_ahead_31 : decode (D_X12_ahead).2.1 31 = .ok (.iconst 1, 1) := by decide +kernel
theorem d_X12_ahead_32 : decode (D_X12_ahead).2.1 32 = .ok (.iadd, 1) := by decide +kernel
theorem d_X12_ahead_33 : decode (D_X12_ahead).2.1 33 = .ok (.putfield 120, 3) := by decide +kernel
theorem d_X12_ahead_36 : decode (D_X12_ahead).2.1 36 = .ok (.goto (-36), 3) := by decide +kernel
theorem d_X12_ahead_39 : decode (D_X12_ahead).2.1 39 = .ok (.aload_n 0, 1) := by decide +kernel
theorem d_X12_ahead_40 : decode (D_X12_ahead).2.1 40 = .ok (.aload_n 0, 1) := by decide +kernel
theorem d_X12_ahead_41 : decode (D_X12_ahead).2.1 41 = .ok (.getfield 120, 3) := by decide +kernel
theorem d_X12_ahead_44 : decode (D_X12_ahead).2.1 44 = .ok (.putfield 126, 3) := by decide +kernel
theorem d_X12_ahead_47 : decode (D_X12_ahead).2.1 47 = .ok (.aload_n 0, 1) := by decide +kernel
theorem d_X12_ahead_48 : decode (D_X12_ahead).2.1 48 = .ok (.aload_n 0, 1) := by decide +kernel
theorem d_X12_ahead_49 : decode (D_X12_ahead).2.1 49 = .ok (.getfield 120, 3) := by decide +kernel
theorem d_X12_ahead_52 : decode (D_X12_ahead).2.1 52 = .ok (.invokevirtual 123, 3) := by decide +kernel
theorem d_X12_ahead_55 : decode (D_X12_ahead).2.1 55 = .ok (.istore_n 1, 1) := by decide +kernel
theorem d_X12_ahead_56 : decode (D_X12_ahead).2.1 56 = .ok (.aload_n 0, 1) := by decide +kernel
theorem d_X12_ahead_57 : decode (D_X12_ahead).2.1 57 = .ok (.iload_n 1, 1) := by decide +kernel
theorem d_X12_ahead_58 : decode (D_X12_ahead).2.1 58 = .ok (.putfield 129, 3) := by decide +kernel
theorem d_X12_ahead_61 : decode (D_X12_ahead).2.1 61 = .ok (.iload_n 1, 1) := by decide +kernel
theorem d_X12_ahead_62 : decode (D_X12_ahead).2.1 62 = .ok (.iconst (-1), 1) := by decide +kernel
theorem d_X12_ahead_63 : decode (D_X12_ahead).2.1 63 = .ok (.if_icmp .ne 11, 3) := by decide +kernel
theorem d_X12_ahead_66 : decode (D_X12_ahead).2.1 66 = .ok (.aload_n 0, 1) := by decide +kernel
theorem d_X12_ahead_67 : decode (D_X12_ahead).2.1 67 = .ok (.iconst 0, 1) := by decide +kernel
theorem d_X12_ahead_68 : decode (D_X12_ahead).2.1 68 = .ok (.putfield 132, 3) := by decide +kernel
theorem d_X12_ahead_71 : decode (D_X12_ahead).2.1 71 = .ok (.goto 180, 3) := by decide +kernel
theorem d_X12_ahead_74 : decode (D_X12_ahead).2.1 74 = .ok (.iload_n 1, 1) := by decide +kernel
theorem d_X12_ahead_75 : decode (D_X12_ahead).2.1 75 = .ok (.invokestatic 135, 3) := by decide +kernel
theorem d_X12_ahead_78 : decode (D_X12_ahead).2.1 78 = .ok (.ifCond .eq 38, 3) := by decide +kernel
theorem d_X12_ahead_81 : decode (D_X12_ahead).2.1 81 = .ok (.aload_n 0, 1) := by decide +kernel
theorem d_X12_ahead_82 : decode (D_X12_ahead).2.1 82 = .ok (.aload_n 0, 1) := by decide +kernel
theorem d_X12_ahead_83 : decode (D_X12_ahead).2.1 83 = .ok (.getfield 120, 3) := by decide +kernel
theorem d_X12_ahead_86 : decode (D_X12_ahead).2.1 86 = .ok (.invokevirtual 123, 3) := by decide +kernel
theorem d_X12_ahead_89 : decode (D_X12_ahead).2.1 89 = .ok (.invokestatic 135, 3) := by decide +kernel
theorem d_X12_ahead_92 : decode (D_X12_ahead).2.1 92 = .ok (.ifCond .eq 16, 3) := by decide +kernel
theorem d_X12_ahead_95 : decode (D_X12_ahead).2.1 95 = .ok (.aload_n 0, 1) := by decide +kernel
theorem d_X12_ahead_96 : decode (D_X12_ahead).2.1 96 = .ok (.dup, 1) := by decide +kernel
theorem d_X12_ahead_97 : decode (D_X12_ahead).2.1 97 = .ok (.getfield 120, 3) := by decide +kernel
theorem d_X12_ahead_100 : decode (D_X12_ahead).2.1 100 = .ok (.iconst 1, 1) := by decide +kernel
theorem d_X12_ahead_101 : decode (D_X12_ahead).2.1 101 = .ok (.iadd, 1) := by decide +kernel
theorem d_X12_ahead_102 : decode (D_X12_ahead).2.1 102 = .ok (.putfield 120, 3) := by decide +kernel
theorem d_X12_ahead_105 : decode (D_X12_ahead).2.1 105 = .ok (.goto (-24), 3) := by decide +kernel
theorem d_X12_ahead_108 : decode (D_X12_ahead).2.1 108 = .ok (.aload_n 0, 1) := by decide +kernel
theorem d_X12_ahead_109 : decode (D_X12_ahead).2.1 109 = .ok (.iconst 2, 1) := by decide +kernel
theorem d_X12_ahead_110 : decode (D_X12_ahead).2.1 110 = .ok (.putfield 132, 3) := by decide +kernel
theorem d_X12_ahead_113 : decode (D_X12_ahead).2.1 113 = .ok (.goto 138, 3) := by decide +kernel
theorem d_X12_ahead_116 : decode (D_X12_ahead).2.1 116 = .ok (.iload_n 1, 1) := by decide +kernel
theorem d_X12_ahead_117 : decode (D_X12_ahead).2.1 117 = .ok (.invokestatic 138, 3) := by decide +kernel
theorem d_X12_ahead_120 : decode (D_X12_ahead).2.1 120 = .ok (.ifCond .eq 88, 3) := by decide +kernel
theorem d_X12_ahead_123 : decode (D_X12_ahead).2.1 123 = .ok (.aload_n 0, 1) := by decide +kernel
theorem d_X12_ahead_124 : decode (D_X12_ahead).2.1 124 = .ok (.iconst 0, 1) := by decide +kernel
theorem d_X12_ahead_125 : decode (D_X12_ahead).2.1 125 = .ok (.putfield 129, 3) := by decide +kernel
theorem d_X12_ahead_128 : decode (D_X12_ahead).2.1 128 = .ok (.aload_n 0, 1) := by decide +kernel
theorem d_X12_ahead_129 : decode (D_X12_ahead).2.1 129 = .ok (.aload_n 0, 1) := by decide +kernel
theorem d_X12_ahead_130 : decode (D_X12_ahead).2.1 130 = .ok (.getfield 120, 3) := by decide +kernel
theorem d_X12_ahead_133 : decode (D_X12_ahead).2.1 133 = .ok (.invokevirtual 123, 3) := by decide +kernel
theorem d_X12_ahead_136 : decode (D_X12_ahead).2.1 136 = .ok (.invokestatic 138, 3) := by decide +kernel
theorem d_X12_ahead_139 : decode (D_X12_ahead).2.1 139 = .ok (.ifCond .eq 44, 3) := by decide +kernel
theorem d_X12_ahead_142 : decode (D_X12_ahead).2.1 142 = .ok (.aload_n 0, 1) := by decide +kernel
theorem d_X12_ahead_143 : decode (D_X12_ahead).2.1 143 = .ok (.ldc 141, 2) := by decide +kernel
theorem d_X12_ahead_145 : decode (D_X12_ahead).2.1 145 = .ok (.bipush 10, 2) := by decide +kernel
theorem d_X12_ahead_147 : decode (D_X12_ahead).2.1 147 = .ok (.aload_n 0, 1) := by decide +kernel
theorem d_X12_ahead_148 : decode (D_X12_ahead).2.1 148 = .ok (.getfield 129, 3) := by decide +kernel
theorem d_X12_ahead_151 : decode (D_X12_ahead).2.1 151 = .ok (.imul, 1) := by decide +kernel
theorem d_X12_ahead_152 : decode (D_X12_ahead).2.1 152 = .ok (.aload_n 0, 1) := by decide +kernel
theorem d_X12_ahead_153 : decode (D_X12_ahead).2.1 153 = .ok (.aload_n 0, 1) := by decide +kernel
theorem d_X12_ahead_154 : decode (D_X12_ahead).2.1 154 = .ok (.getfield 120, 3) := by decide +kernel
theorem d_X12_ahead_157 : decode (D_X12_ahead).2.1 157 = .ok (.invokevirtual 123, 3) := by decide +kernel
theorem d_X12_ahead_160 : decode (D_X12_ahead).2.1 160 = .ok (.iadd, 1) := by decide +kernel
theorem d_X12_ahead_161 : decode (D_X12_ahead).2.1 161 = .ok (.bipush 48, 2) := by decide +kernel
theorem d_X12_ahead_163 : decode (D_X12_ahead).2.1 163 = .ok (.isub, 1) := by decide +kernel
theorem d_X12_ahead_164 : decode (D_X12_ahead).2.1 164 = .ok (.invokestatic 142, 3) := by decide +kernel
theorem d_X12_ahead_167 : decode (D_X12_ahead).2.1 167 = .ok (.putfield 129, 3) := by decide +kernel
theorem d_X12_ahead_170 : decode (D_X12_ahead).2.1 170 = .ok (.aload_n 0, 1) := by decide +kernel
theorem d_X12_ahead_171 : decode (D_X12_ahead).2.1 171 = .ok (.dup, 1) := by decide +kernel
theorem d_X12_ahead_172 : decode (D_X12_ahead).2.1 172 = .ok (.getfield 120, 3) := by decide +kernel
theorem d_X12_ahead_175 : decode (D_X12_ahead).2.1 175 = .ok (.iconst 1, 1) := by decide +kernel
theorem d_X12_ahead_176 : decode (D_X12_ahead).2.1 176 = .ok (.iadd, 1) := by decide +kernel
theorem d_X12_ahead_177 : decode (D_X12_ahead).2.1 177 = .ok (.putfield 120, 3) := by decide +kernel
theorem d_X12_ahead_180 : decode (D_X12_ahead).2.1 180 = .ok (.goto (-52), 3) := by decide +kernel
theorem d_X12_ahead_183 : decode (D_X12_ahead).2.1 183 = .ok (.aload_n 0, 1) := by decide +kernel
theorem d_X12_ahead_184 : decode (D_X12_ahead).2.1 184 = .ok (.aload_n 0, 1) := by decide +kernel
theorem d_X12_ahead_185 : decode (D_X12_ahead).2.1 185 = .ok (.getfield 120, 3) := by decide +kernel
theorem d_X12_ahead_188 : decode (D_X12_ahead).2.1 188 = .ok (.aload_n 0, 1) := by decide +kernel
theorem d_X12_ahead_189 : decode (D_X12_ahead).2.1 189 = .ok (.getfield 126, 3) := by decide +kernel
theorem d_X12_ahead_192 : decode (D_X12_ahead).2.1 192 = .ok (.isub, 1) := by decide +kernel
theorem d_X12_ahead_193 : decode (D_X12_ahead).2.1 193 = .ok (.iconst 4, 1) := by decide +kernel
theorem d_X12_ahead_194 : decode (D_X12_ahead).2.1 194 = .ok (.if_icmp .le 7, 3) := by decide +kernel
theorem d_X12_ahead_197 : decode (D_X12_ahead).2.1 197 = .ok (.iconst 1, 1) := by decide +kernel
theorem d_X12_ahead_198 : decode (D_X12_ahead).2.1 198 = .ok (.goto 4, 3) := by decide +kernel
theorem d_X12_ahead_201 : decode (D_X12_ahead).2.1 201 = .ok (.iconst 3, 1) := by decide +kernel
theorem d_X12_ahead_202 : decode (D_X12_ahead).2.1 202 = .ok (.putfield 132, 3) := by decide +kernel
theorem d_X12_ahead_205 : decode (D_X12_ahead).2.1 205 = .ok (.goto 46, 3) := by decide +kernel
theorem d_X12_ahead_208 : decode (D_X12_ahead).2.1 208 = .ok (.aload_n 0, 1) := by decide +kernel
theorem d_X12_ahead_209 : decode (D_X12_ahead).2.1 209 = .ok (.dup, 1) := by decide +kernel
theorem d_X12_ahead_210 : decode (D_X12_ahead).2.1 210 = .ok (.getfield 120, 3) := by decide +kernel
theorem d_X12_ahead_213 : decode (D_X12_ahead).2.1 213 = .ok (.iconst 1, 1) := by decide +kernel
theorem d_X12_ahead_214 : decode (D_X12_ahead).2.1 214 = .ok (.iadd, 1) := by decide +kernel
theorem d_X12_ahead_215 : decode (D_X12_ahead).2.1 215 = .ok (.putfield 120, 3) := by decide +kernel
theorem d_X12_ahead_218 : decode (D_X12_ahead).2.1 218 = .ok (.aload_n 0, 1) := by decide +kernel
theorem d_X12_ahead_219 : decode (D_X12_ahead).2.1 219 = .ok (.iload_n 1, 1) := by decide +kernel
theorem d_X12_ahead_220 : decode (D_X12_ahead).2.1 220 = .ok (.bipush 59, 2) := by decide +kernel
theorem d_X12_ahead_222 : decode (D_X12_ahead).2.1 222 = .ok (.if_icmp .eq 21, 3) := by decide +kernel
theorem d_X12_ahead_225 : decode (D_X12_ahead).2.1 225 = .ok (.iload_n 1, 1) := by decide +kernel
theorem d_X12_ahead_226 : decode (D_X12_ahead).2.1 226 = .ok (.bipush 60, 2) := by decide +kernel
theorem d_X12_ahead_228 : decode (D_X12_ahead).2.1 228 = .ok (.if_icmp .eq 15, 3) := by decide +kernel
theorem d_X12_ahead_231 : decode (D_X12_ahead).2.1 231 = .ok (.iload_n 1, 1) := by decide +kernel
theorem d_X12_ahead_232 : decode (D_X12_ahead).2.1 232 = .ok (.bipush 62, 2) := by decide +kernel
theorem d_X12_ahead_234 : decode (D_X12_ahead).2.1 234 = .ok (.if_icmp .eq 9, 3) := by decide +kernel
theorem d_X12_ahead_237 : decode (D_X12_ahead).2.1 237 = .ok (.iload_n 1, 1) := by decide +kernel
theorem d_X12_ahead_238 : decode (D_X12_ahead).2.1 238 = .ok (.bipush 61, 2) := by decide +kernel
theorem d_X12_ahead_240 : decode (D_X12_ahead).2.1 240 = .ok (.if_icmp .ne 7, 3) := by decide +kernel
theorem d_X12_ahead_243 : decode (D_X12_ahead).2.1 243 = .ok (.iconst 4, 1) := by decide +kernel
theorem d_X12_ahead_244 : decode (D_X12_ahead).2.1 244 = .ok (.goto 4, 3) := by decide +kernel
theorem d_X12_ahead_247 : decode (D_X12_ahead).2.1 247 = .ok (.iconst 1, 1) := by decide +kernel
theorem d_X12_ahead_248 : decode (D_X12_ahead).2.1 248 = .ok (.putfield 132, 3) := by decide +kernel
theorem d_X12_ahead_251 : decode (D_X12_ahead).2.1 251 = .ok (.return_, 1) := by decide +kernel
def f_X12_ahead_L26 (n : Nat) (r0 : JMem → Option (Int × JMem)) (M : JMem) : Option (Int × JMem) := letm (jup M 167 14 ((M 167 14) + 1)) fun M1 => r0 M1
set_option maxRecDepth 4000 in
theorem t_X12_ahead_L26 {g : JG} {ad : Nat → Nat} (hs : jStr g ad) (n : Nat) (r0 : JMem → Option (Int × JMem)) (hr0 : ∀ (M : JMem), jB g D_X12_ahead ad 0 [some (.ref 167), none] [] M (r0 M)) (M : JMem) : jB g D_X12_ahead ad 26 [some (.ref 167), none] [] M (f_X12_ahead_L26 n r0 M) := by
  unfold f_X12_ahead_L26
  refine jo_aload 0 d_X12_ahead_26 rfl rfl ?_
  refine jo_dup d_X12_ahead_27 rfl ?_
  refine jo_getI (k := 14) cl_12 (Nat.le_of_ble_eq_true rfl) lk_X12_120 (Or.inl rfl) kc_167 d_X12_ahead_28 ?_
  refine jo_iconst 1 d_X12_ahead_31 ?_
  refine jo_iadd d_X12_ahead_32 ?_
  refine jo_putI (k := 14) cl_12 (Nat.le_of_ble_eq_true rfl) lk_X12_120 rfl rfl kc_167 d_X12_ahead_33 (fun M1 => ?_)
  refine jo_goto 0 d_X12_ahead_36 (by decide) ?_
  exact jO.sub (hr0 M1) (And.intro rfl True.intro)
def f_X12_ahead_L108 (n : Nat) (M : JMem) : Option (Int × JMem) := letm (jup M 167 12 2) fun M1 => some (0, M1)
set_option maxRecDepth 4000 in
theorem t_X12_ahead_L108 {g : JG} {ad : Nat → Nat} (hs : jStr g ad) (n : Nat) (M : JMem) : jB g D_X12_ahead ad 108 [some (.ref 167), none] [] M (f_X12_ahead_L108 n M) := by
  unfold f_X12_ahead_L108
  refine jo_aload 0 d_X12_ahead_108 rfl rfl ?_
  refine jo_iconst 2 d_X12_ahead_109 ?_
  refine jo_putI (k := 12) cl_12 (Nat.le_of_ble_eq_true rfl) lk_X12_132 rfl rfl kc_167 d_X12_ahead_110 (fun M1 => ?_)
  refine jo_goto 251 d_X12_ahead_113 (by decide) ?_
  exact jo_vret rfl d_X12_ahead_251
def f_X12_ahead_L81 (n : Nat) : Nat → JMem → Option (Int × JMem)
  | 0, _ => none
  | k + 1, M => bnd (f_X12_byteAt n (M 167 14) M) fun r1 M2 => bnd (f_X12_isSmall n r1 M2) fun r3 M4 => if jw r3 = 0 then (f_X12_ahead_L108 n M4) else (letm (jup M4 167 14 ((M4 167 14) + 1)) fun M5 => (f_X12_ahead_L81 n k) M5)
set_option maxRecDepth 4000 in
theorem t_X12_ahead_L81 {g : JG} {ad : Nat → Nat} (hs : jStr g ad) (n : Nat) : ∀ (k : Nat) (M : JMem), jB g D_X12_ahead ad 81 [some (.ref 167), none] [] M (f_X12_ahead_L81 n k M) := by
  intro k
  induction k with
  | zero => intro  M; exact jO.none
  | succ k ih =>
    intro  M
    rw [f_X12_ahead_L81]
    refine jo_aload 0 d_X12_ahead_81 rfl rfl ?_
    refine jo_aload 0 d_X12_ahead_82 rfl rfl ?_
    refine jo_getI (k := 14) cl_12 (Nat.le_of_ble_eq_true rfl) lk_X12_120 (Or.inl rfl) kc_167 d_X12_ahead_83 ?_
    refine jo_callV (st := []) (m_X12_byteAt hs n (M 167 14) M) ok_X12_byteAt (And.intro (Nat.le_of_ble_eq_true rfl) (Nat.le_of_ble_eq_true rfl)) lm_X12_123 in_X12_byteAt se_X12_byteAt rfl kc_167 rfl rfl (And.intro (Nat.zero_le _) (Nat.zero_le _)) rfl (Nat.le_of_ble_eq_true rfl) d_X12_ahead_86 (fun r1 M2 => ?_)
    refine jo_callS (st := []) (m_X12_isSmall hs n r1 M2) ok_X12_isSmall (And.intro (Nat.le_of_ble_eq_true rfl) (Nat.le_of_ble_eq_true rfl)) lm_X12_135 st_X12_isSmall rfl (And.intro (Nat.zero_le _) (Nat.zero_le _)) rfl (Nat.le_of_ble_eq_true rfl) d_X12_ahead_89 (fun r3 M4 => ?_)
    refine jo_if_eq 108 d_X12_ahead_92 (by decide) ?_ ?_
    · skip
      exact jO.sub (t_X12_ahead_L108 hs n M4) (And.intro rfl True.intro)
    · skip
      refine jo_aload 0 d_X12_ahead_95 rfl rfl ?_
      refine jo_dup d_X12_ahead_96 rfl ?_
      refine jo_getI (k := 14) cl_12 (Nat.le_of_ble_eq_true rfl) lk_X12_120 (Or.inl rfl) kc_167 d_X12_ahead_97 ?_
      refine jo_iconst 1 d_X12_ahead_100 ?_
      refine jo_iadd d_X12_ahead_101 ?_
      refine jo_putI (k := 14) cl_12 (Nat.le_of_ble_eq_true rfl) lk_X12_120 rfl rfl kc_167 d_X12_ahead_102 (fun M5 => ?_)
      refine jo_goto 81 d_X12_ahead_105 (by decide) ?_
      exact jO.sub (ih M5) (And.intro rfl True.intro)
def f_X12_ahead_L202 (n : Nat) (w1 : Int) (M : JMem) : Option (Int × JMem) := letm (jup M 167 12 w1) fun M1 => some (0, M1)
set_option maxRecDepth 4000 in
theorem t_X12_ahead_L202 {g : JG} {ad : Nat → Nat} (hs : jStr g ad) (n : Nat) (w1 : Int) (M : JMem) : jB g D_X12_ahead ad 202 [none, none] [ji w1, .ref 167] M (f_X12_ahead_L202 n w1 M) := by
  unfold f_X12_ahead_L202
  refine jo_putI (k := 12) cl_12 (Nat.le_of_ble_eq_true rfl) lk_X12_132 rfl rfl kc_167 d_X12_ahead_202 (fun M1 => ?_)
  refine jo_goto 251 d_X12_ahead_205 (by decide) ?_
  exact jo_vret rfl d_X12_ahead_251
def f_X12_ahead_L183 (n : Nat) (M : JMem) : Option (Int × JMem) := if jw ((M 167 14) - (M 167 13)) ≤ jw 4 then (f_X12_ahead_L202 n 3 M) else (f_X12_ahead_L202 n 1 M)
set_option maxRecDepth 4000 in
theorem t_X12_ahead_L183 {g : JG} {ad : Nat → Nat} (hs : jStr g ad) (n : Nat) (M : JMem) : jB g D_X12_ahead ad 183 [some (.ref 167), none] [] M (f_X12_ahead_L183 n M) := by
  unfold f_X12_ahead_L183
  refine jo_aload 0 d_X12_ahead_183 rfl rfl ?_
  refine jo_aload 0 d_X12_ahead_184 rfl rfl ?_
  refine jo_getI (k := 14) cl_12 (Nat.le_of_ble_eq_true rfl) lk_X12_120 (Or.inl rfl) kc_167 d_X12_ahead_185 ?_
  refine jo_aload 0 d_X12_ahead_188 rfl rfl ?_
  refine jo_getI (k := 13) cl_12 (Nat.le_of_ble_eq_true rfl) lk_X12_126 (Or.inl rfl) kc_167 d_X12_ahead_189 ?_
  refine jo_isub d_X12_ahead_192 ?_
  refine jo_iconst 4 d_X12_ahead_193 ?_
  refine jo_icmp_le 201 d_X12_ahead_194 (by decide) ?_ ?_
  · skip
    refine jo_iconst 3 d_X12_ahead_201 ?_
    exact jO.sub (t_X12_ahead_L202 hs n 3 M) True.intro
  · skip
    refine jo_iconst 1 d_X12_ahead_197 ?_
    refine jo_goto 202 d_X12_ahead_198 (by decide) ?_
    exact jO.sub (t_X12_ahead_L202 hs n 1 M) True.intro
def f_X12_ahead_L128 (n : Nat) : Nat → JMem → Option (Int × JMem)
  | 0, _ => none
  | k + 1, M => bnd (f_X12_byteAt n (M 167 14) M) fun r1 M2 => bnd (f_X12_isDigit n r1 M2) fun r3 M4 => if jw r3 = 0 then (f_X12_ahead_L183 n M4) else (bnd (f_X12_byteAt n (M4 167 14) M4) fun r5 M6 => letm (jup M6 167 15 (jmin 100000 (((10 * (M4 167 15)) + r5) - 48))) fun M7 => letm (jup M7 167 14 ((M7 167 14) + 1)) fun M8 => (f_X12_ahead_L128 n k) M8)
set_option maxRecDepth 4000 in
theorem t_X12_ahead_L128 {g : JG} {ad : Nat → Nat} (hs : jStr g ad) (n : Nat) : ∀ (k : Nat) (M : JMem), jB g D_X12_ahead ad 128 [some (.ref 167), none] [] M (f_X12_ahead_L128 n k M) := by
  intro k
  induction k with
  | zero => intro  M; exact jO.none
  | succ k ih =>
    intro  M
    rw [f_X12_ahead_L128]
    refine jo_aload 0 d_X12_ahead_128 rfl rfl ?_
    refine jo_aload 0 d_X12_ahead_129 rfl rfl ?_
    refine jo_getI (k := 14) cl_12 (Nat.le_of_ble_eq_true rfl) lk_X12_120 (Or.inl rfl) kc_167 d_X12_ahead_130 ?_
    refine jo_callV (st := []) (m_X12_byteAt hs n (M 167 14) M) ok_X12_byteAt (And.intro (Nat.le_of_ble_eq_true rfl) (Nat.le_of_ble_eq_true rfl)) lm_X12_123 in_X12_byteAt se_X12_byteAt rfl kc_167 rfl rfl (And.intro (Nat.zero_le _) (Nat.zero_le _)) rfl (Nat.le_of_ble_eq_true rfl) d_X12_ahead_133 (fun r1 M2 => ?_)
    refine jo_callS (st := []) (m_X12_isDigit hs n r1 M2) ok_X12_isDigit (And.intro (Nat.le_of_ble_eq_true rfl) (Nat.le_of_ble_eq_true rfl)) lm_X12_138 st_X12_isDigit rfl (And.intro (Nat.zero_le _) (Nat.zero_le _)) rfl (Nat.le_of_ble_eq_true rfl) d_X12_ahead_136 (fun r3 M4 => ?_)
    refine jo_if_eq 183 d_X12_ahead_139 (by decide) ?_ ?_
    · skip
      exact jO.sub (t_X12_ahead_L183 hs n M4) (And.intro rfl True.intro)
    · skip
      refine jo_aload 0 d_X12_ahead_142 rfl rfl ?_
      refine jo_ldc 100000 lc_X12_141 d_X12_ahead_143 ?_
      refine jo_bipush 10 d_X12_ahead_145 (by decide) ?_
      refine jo_aload 0 d_X12_ahead_147 rfl rfl ?_
      refine jo_getI (k := 15) cl_12 (Nat.le_of_ble_eq_true rfl) lk_X12_129 (Or.inl rfl) kc_167 d_X12_ahead_148 ?_
      refine jo_imul d_X12_ahead_151 ?_
      refine jo_aload 0 d_X12_ahead_152 rfl rfl ?_
      refine jo_aload 0 d_X12_ahead_153 rfl rfl ?_
      refine jo_getI (k := 14) cl_12 (Nat.le_of_ble_eq_true rfl) lk_X12_120 (Or.inl rfl) kc_167 d_X12_ahead_154 ?_
      refine jo_callV (st := [ji (10 * (M4 167 15)), ji 100000, .ref 167]) (m_X12_byteAt hs n (M4 167 14) M4) ok_X12_byteAt (And.intro (Nat.le_of_ble_eq_true rfl) (Nat.le_of_ble_eq_true rfl)) lm_X12_123 in_X12_byteAt se_X12_byteAt rfl kc_167 rfl rfl (And.intro (Nat.zero_le _) (Nat.zero_le _)) rfl (Nat.le_of_ble_eq_true rfl) d_X12_ahead_157 (fun r5 M6 => ?_)
      refine jo_iadd d_X12_ahead_160 ?_
      refine jo_bipush 48 d_X12_ahead_161 (by decide) ?_
      refine jo_isub d_X12_ahead_163 ?_
      refine jo_mmin lm_X12_142 (Nat.le_of_ble_eq_true rfl) (Nat.le_of_ble_eq_true rfl) (And.intro (Nat.zero_le _) (Nat.zero_le _)) d_X12_ahead_164 ?_
      refine jo_putI (k := 15) cl_12 (Nat.le_of_ble_eq_true rfl) lk_X12_129 rfl rfl kc_167 d_X12_ahead_167 (fun M7 => ?_)
      refine jo_aload 0 d_X12_ahead_170 rfl rfl ?_
      refine jo_dup d_X12_ahead_171 rfl ?_
      refine jo_getI (k := 14) cl_12 (Nat.le_of_ble_eq_true rfl) lk_X12_120 (Or.inl rfl) kc_167 d_X12_ahead_172 ?_
      refine jo_iconst 1 d_X12_ahead_175 ?_
      refine jo_iadd d_X12_ahead_176 ?_
      refine jo_putI (k := 14) cl_12 (Nat.le_of_ble_eq_true rfl) lk_X12_120 rfl rfl kc_167 d_X12_ahead_177 (fun M8 => ?_)
      refine jo_goto 128 d_X12_ahead_180 (by decide) ?_
      exact jO.sub (ih M8) (And.intro rfl True.intro)
def f_X12_ahead_L248 (n : Nat) (w1 : Int) (M : JMem) : Option (Int × JMem) := letm (jup M 167 12 w1) fun M1 => some (0, M1)
set_option maxRecDepth 4000 in
theorem t_X12_ahead_L248 {g : JG} {ad : Nat → Nat} (hs : jStr g ad) (n : Nat) (w1 : Int) (M : JMem) : jB g D_X12_ahead ad 248 [none, none] [ji w1, .ref 167] M (f_X12_ahead_L248 n w1 M) := by
  unfold f_X12_ahead_L248
  refine jo_putI (k := 12) cl_12 (Nat.le_of_ble_eq_true rfl) lk_X12_132 rfl rfl kc_167 d_X12_ahead_248 (fun M1 => ?_)
  exact jo_vret rfl d_X12_ahead_251
def f_X12_ahead_L243 (n : Nat) (M : JMem) : Option (Int × JMem) := f_X12_ahead_L248 n 4 M
set_option maxRecDepth 4000 in
theorem t_X12_ahead_L243 {g : JG} {ad : Nat → Nat} (hs : jStr g ad) (n : Nat) (M : JMem) : jB g D_X12_ahead ad 243 [none, none] [.ref 167] M (f_X12_ahead_L243 n M) := by
  unfold f_X12_ahead_L243
  refine jo_iconst 4 d_X12_ahead_243 ?_
  refine jo_goto 248 d_X12_ahead_244 (by decide) ?_
  exact jO.sub (t_X12_ahead_L248 hs n 4 M) True.intro
def f_X12_ahead_L39 (n : Nat) (M : JMem) : Option (Int × JMem) := letm (jup M 167 13 (M 167 14)) fun M1 => bnd (f_X12_byteAt n (M1 167 14) M1) fun r2 M3 => letv r2 fun y4 => letm (jup M3 167 15 y4) fun M5 => if jw y4 = jw (-1) then (letm (jup M5 167 12 0) fun M12 => some (0, M12)) else (bnd (f_X12_isSmall n y4 M5) fun r6 M7 => if jw r6 = 0 then (bnd (f_X12_isDigit n y4 M7) fun r8 M9 => if jw r8 = 0 then (letm (jup M9 167 14 ((M9 167 14) + 1)) fun M10 => if jw y4 = jw 59 then (f_X12_ahead_L243 n M10) else (if jw y4 = jw 60 then (f_X12_ahead_L243 n M10) else (if jw y4 = jw 62 then (f_X12_ahead_L243 n M10) else (if jw y4 = jw 61 then (f_X12_ahead_L243 n M10) else (f_X12_ahead_L248 n 1 M10))))) else (letm (jup M9 167 15 0) fun M11 => f_X12_ahead_L128 n n M11)) else (f_X12_ahead_L81 n n M7))
set_option maxRecDepth 4000 in
theorem t_X12_ahead_L39 {g : JG} {ad : Nat → Nat} (hs : jStr g ad) (n : Nat) (M : JMem) : jB g D_X12_ahead ad 39 [some (.ref 167), none] [] M (f_X12_ahead_L39 n M) := by
  unfold f_X12_ahead_L39
  refine jo_aload 0 d_X12_ahead_39 rfl rfl ?_
  refine jo_aload 0 d_X12_ahead_40 rfl rfl ?_
  refine jo_getI (k := 14) cl_12 (Nat.le_of_ble_eq_true rfl) lk_X12_120 (Or.inl rfl) kc_167 d_X12_ahead_41 ?_
  refine jo_putI (k := 13) cl_12 (Nat.le_of_ble_eq_true rfl) lk_X12_126 rfl rfl kc_167 d_X12_ahead_44 (fun M1 => ?_)
  refine jo_aload 0 d_X12_ahead_47 rfl rfl ?_
  refine jo_aload 0 d_X12_ahead_48 rfl rfl ?_
  refine jo_getI (k := 14) cl_12 (Nat.le_of_ble_eq_true rfl) lk_X12_120 (Or.inl rfl) kc_167 d_X12_ahead_49 ?_
  refine jo_callV (st := []) (m_X12_byteAt hs n (M1 167 14) M1) ok_X12_byteAt (And.intro (Nat.le_of_ble_eq_true rfl) (Nat.le_of_ble_eq_true rfl)) lm_X12_123 in_X12_byteAt se_X12_byteAt rfl kc_167 rfl rfl (And.intro (Nat.zero_le _) (Nat.zero_le _)) rfl (Nat.le_of_ble_eq_true rfl) d_X12_ahead_52 (fun r2 M3 => ?_)
  refine jo_istore 1 d_X12_ahead_55 rfl (Nat.le_of_ble_eq_true rfl) (fun y4 => ?_)
  refine jo_aload 0 d_X12_ahead_56 rfl rfl ?_
  refine jo_iload 1 d_X12_ahead_57 rfl rfl ?_
  refine jo_putI (k := 15) cl_12 (Nat.le_of_ble_eq_true rfl) lk_X12_129 rfl rfl kc_167 d_X12_ahead_58 (fun M5 => ?_)
  refine jo_iload 1 d_X12_ahead_61 rfl rfl ?_
  refine jo_iconst (-1) d_X12_ahead_62 ?_
  refine jo_icmp_ne 74 d_X12_ahead_63 (by decide) ?_ ?_
  · skip
    refine jo_iload 1 d_X12_ahead_74 rfl rfl ?_
    refine jo_callS (st := []) (m_X12_isSmall hs n y4 M5) ok_X12_isSmall (And.intro (Nat.le_of_ble_eq_true rfl) (Nat.le_of_ble_eq_true rfl)) lm_X12_135 st_X12_isSmall rfl (And.intro (Nat.zero_le _) (Nat.zero_le _)) rfl (Nat.le_of_ble_eq_true rfl) d_X12_ahead_75 (fun r6 M7 => ?_)
    refine jo_if_eq 116 d_X12_ahead_78 (by decide) ?_ ?_
    · skip
      refine jo_iload 1 d_X12_ahead_116 rfl rfl ?_
      refine jo_callS (st := []) (m_X12_isDigit hs n y4 M7) ok_X12_isDigit (And.intro (Nat.le_of_ble_eq_true rfl) (Nat.le_of_ble_eq_true rfl)) lm_X12_138 st_X12_isDigit rfl (And.intro (Nat.zero_le _) (Nat.zero_le _)) rfl (Nat.le_of_ble_eq_true rfl) d_X12_ahead_117 (fun r8 M9 => ?_)
      refine jo_if_eq 208 d_X12_ahead_120 (by decide) ?_ ?_
      · skip
        refine jo_aload 0 d_X12_ahead_208 rfl rfl ?_
        refine jo_dup d_X12_ahead_209 rfl ?_
        refine jo_getI (k := 14) cl_12 (Nat.le_of_ble_eq_true rfl) lk_X12_120 (Or.inl rfl) kc_167 d_X12_ahead_210 ?_
        refine jo_iconst 1 d_X12_ahead_213 ?_
        refine jo_iadd d_X12_ahead_214 ?_
        refine jo_putI (k := 14) cl_12 (Nat.le_of_ble_eq_true rfl) lk_X12_120 rfl rfl kc_167 d_X12_ahead_215 (fun M10 => ?_)
        refine jo_aload 0 d_X12_ahead_218 rfl rfl ?_
        refine jo_iload 1 d_X12_ahead_219 rfl rfl ?_
        refine jo_bipush 59 d_X12_ahead_220 (by decide) ?_
        refine jo_icmp_eq 243 d_X12_ahead_222 (by decide) ?_ ?_
        · skip
          exact jO.sub (t_X12_ahead_L243 hs n M10) True.intro
        · skip
          refine jo_iload 1 d_X12_ahead_225 rfl rfl ?_
          refine jo_bipush 60 d_X12_ahead_226 (by decide) ?_
          refine jo_icmp_eq 243 d_X12_ahead_228 (by decide) ?_ ?_
          · skip
            exact jO.sub (t_X12_ahead_L243 hs n M10) True.intro
          · skip
            refine jo_iload 1 d_X12_ahead_231 rfl rfl ?_
            refine jo_bipush 62 d_X12_ahead_232 (by decide) ?_
            refine jo_icmp_eq 243 d_X12_ahead_234 (by decide) ?_ ?_
            · skip
              exact jO.sub (t_X12_ahead_L243 hs n M10) True.intro
            · skip
              refine jo_iload 1 d_X12_ahead_237 rfl rfl ?_
              refine jo_bipush 61 d_X12_ahead_238 (by decide) ?_
              refine jo_icmp_ne 247 d_X12_ahead_240 (by decide) ?_ ?_
              · skip
                refine jo_iconst 1 d_X12_ahead_247 ?_
                exact jO.sub (t_X12_ahead_L248 hs n 1 M10) True.intro
              · skip
                exact jO.sub (t_X12_ahead_L243 hs n M10) True.intro
      · skip
        refine jo_aload 0 d_X12_ahead_123 rfl rfl ?_
        refine jo_iconst 0 d_X12_ahead_124 ?_
        refine jo_putI (k := 15) cl_12 (Nat.le_of_ble_eq_true rfl) lk_X12_129 rfl rfl kc_167 d_X12_ahead_125 (fun M11 => ?_)
        exact jO.sub (t_X12_ahead_L128 hs n n M11) (And.intro rfl True.intro)
    · skip
      exact jO.sub (t_X12_ahead_L81 hs n n M7) (And.intro rfl True.intro)
  · skip
    refine jo_aload 0 d_X12_ahead_66 rfl rfl ?_
    refine jo_iconst 0 d_X12_ahead_67 ?_
    refine jo_putI (k := 12) cl_12 (Nat.le_of_ble_eq_true rfl) lk_X12_132 rfl rfl kc_167 d_X12_ahead_68 (fun M12 => ?_)
    refine jo_goto 251 d_X12_ahead_71 (by decide) ?_
    exact jo_vret rfl d_X12_ahead_251
def f_X12_ahead_L0 (n : Nat) : Nat → JMem → Option (Int × JMem)
  | 0, _ => none
  | k + 1, M => bnd (f_X12_byteAt n (M 167 14) M) fun r1 M2 => if jw r1 = jw 32 then (f_X12_ahead_L26 n (f_X12_ahead_L0 n k) M2) else (bnd (f_X12_byteAt n (M2 167 14) M2) fun r3 M4 => if jw r3 = jw 10 then (f_X12_ahead_L26 n (f_X12_ahead_L0 n k) M4) else (f_X12_ahead_L39 n M4))
set_option maxRecDepth 4000 in
theorem t_X12_ahead_L0 {g : JG} {ad : Nat → Nat} (hs : jStr g ad) (n : Nat) : ∀ (k : Nat) (M : JMem), jB g D_X12_ahead ad 0 [some (.ref 167), none] [] M (f_X12_ahead_L0 n k M) := by
  intro k
  induction k with
  | zero => intro  M; exact jO.none
  | succ k ih =>
    intro  M
    rw [f_X12_ahead_L0]
    refine jo_aload 0 d_X12_ahead_0 rfl rfl ?_
    refine jo_aload 0 d_X12_ahead_1 rfl rfl ?_
    refine jo_getI (k := 14) cl_12 (Nat.le_of_ble_eq_true rfl) lk_X12_120 (Or.inl rfl) kc_167 d_X12_ahead_2 ?_
    refine jo_callV (st := []) (m_X12_byteAt hs n (M 167 14) M) ok_X12_byteAt (And.intro (Nat.le_of_ble_eq_true rfl) (Nat.le_of_ble_eq_true rfl)) lm_X12_123 in_X12_byteAt se_X12_byteAt rfl kc_167 rfl rfl (And.intro (Nat.zero_le _) (Nat.zero_le _)) rfl (Nat.le_of_ble_eq_true rfl) d_X12_ahead_5 (fun r1 M2 => ?_)
    refine jo_bipush 32 d_X12_ahead_8 (by decide) ?_
    refine jo_icmp_eq 26 d_X12_ahead_10 (by decide) ?_ ?_
    · skip
      exact jO.sub (t_X12_ahead_L26 hs n (f_X12_ahead_L0 n k) ih M2) (And.intro rfl True.intro)
    · skip
      refine jo_aload 0 d_X12_ahead_13 rfl rfl ?_
      refine jo_aload 0 d_X12_ahead_14 rfl rfl ?_
      refine jo_getI (k := 14) cl_12 (Nat.le_of_ble_eq_true rfl) lk_X12_120 (Or.inl rfl) kc_167 d_X12_ahead_15 ?_
      refine jo_callV (st := []) (m_X12_byteAt hs n (M2 167 14) M2) ok_X12_byteAt (And.intro (Nat.le_of_ble_eq_true rfl) (Nat.le_of_ble_eq_true rfl)) lm_X12_123 in_X12_byteAt se_X12_byteAt rfl kc_167 rfl rfl (And.intro (Nat.zero_le _) (Nat.zero_le _)) rfl (Nat.le_of_ble_eq_true rfl) d_X12_ahead_18 (fun r3 M4 => ?_)
      refine jo_bipush 10 d_X12_ahead_21 (by decide) ?_
      refine jo_icmp_ne 39 d_X12_ahead_23 (by decide) ?_ ?_
      · skip
        exact jO.sub (t_X12_ahead_L39 hs n M4) (And.intro rfl True.intro)
      · skip
        exact jO.sub (t_X12_ahead_L26 hs n (f_X12_ahead_L0 n k) ih M4) (And.intro rfl True.intro)
def f_X12_ahead (n : Nat) (M : JMem) : Option (Int × JMem) := f_X12_ahead_L0 n n M
set_option maxRecDepth 4000 in
theorem t_X12_ahead {g : JG} {ad : Nat → Nat} (hs : jStr g ad) (n : Nat) (M : JMem) : jB g D_X12_ahead ad 0 [some (.ref 167), none] [] M (f_X12_ahead n M) := by
  unfold f_X12_ahead
  exact jO.sub (t_X12_ahead_L0 hs n n M) (And.intro rfl True.intro)
theorem m_X12_ahead {g : JG} {ad : Nat → Nat} (hs : jStr g ad) (n : Nat) (M : JMem) : jMet g jNN ad jR D_X12_ahead yX12_ahead [.ref 167] M (f_X12_ahead n M) :=
  jMet.of (lo0 := [some (.ref 167), none]) (by decide) rfl rfl (Nat.le_of_ble_eq_true rfl) (And.intro rfl True.intro) (t_X12_ahead hs n M)
/-! CageLeaveModel.inWords(Ljava/lang/String;)I -/
def D_X12_inWords : JD := (RX12, cX12_inWords, 7, some .int, "inWords", { frames := 6, cells := 0, slots := 0, locals := 150 })
theorem ok_X12_inWords : jOk D_X12_inWords yX12_inWords 1 := ⟨jTW_mem (k := 1585) (by decide +kernel) rfl, jTW_mem (k := 151) (by decide +kernel) rfl, ⟨by decide +kernel, by decide +kernel⟩, by decide +kernel, rfl, rfl⟩
theorem in_X12_inWords : Cond.instanceMethod yX12_inWords ∈ jTW := jTW_mem (k := 1584) (by decide +kernel) rfl
theorem se_X12_inWords : Cond.selects yX12_inWords.cls yX12_inWords yX12_inWords ∈ jTW := jTW_mem (k := 57) (by decide +kernel) rfl
theorem lm_X12_153 : Cond.methodLink RX12 153 yJ0_charAt_5068e ∈ jTW := jTW_mem (k := 1587) (by decide +kernel) rfl
theorem lm_X12_147 : Cond.methodLink RX12 147 yJ0_length_8abf5 ∈ jTW := jTW_mem (k := 1586) (by decide +kernel) rfl
theorem d_X12_inWords_0 : decode (D_X12_inWords).2.1 0 = .ok (.aload_n 0, 1) := by decide +kernel
theorem d_X12_inWords_1 : decode (D_X12_inWords).2.1 1 = .ok (.getfield 132, 3) := by decide +kernel
theorem d_X12_inWords_4 : decode (D_X12_inWords).2.1 4 = .ok (.iconst 2, 1) := by decide +kernel
theorem d_X12_inWords_5 : decode (D_X12_inWords).2.1 5 = .ok (.if_icmp .eq 5, 3) := by decide +kernel
theorem d_X12_inWords_8 : decode (D_X12_inWords).2.1 8 = .ok (.iconst (-1), 1) := by decide +kernel
theorem d_X12_inWords_9 : decode (D_X12_inWords).2.1 9 = .ok (.ireturn, 1) := by decide +kernel
theorem d_X12_inWords_10 : decode (D_X12_inWords).2.1 10 = .ok (.iconst 0, 1) := by decide +kernel
theorem d_X12_inWords_11 : decode (D_X12_inWords).2.1 11 = .ok (.istore_n 2, 1) := by decide +kernel
theorem d_X12_inWords_12 : decode (D_X12_inWords).2.1 12 = .ok (.iconst 1, 1) := by decide +kernel
theorem d_X12_inWords_13 : decode (D_X12_inWords).2.1 13 = .ok (.istore_n 3, 1) := by decide +kernel
theorem d_X12_inWords_14 : decode (D_X12_inWords).2.1 14 = .ok (.iload_n 3, 1) := by decide +kernel
theorem d_X12_inWords_15 : decode (D_X12_inWords).2.1 15 = .ok (.aload_n 1, 1) := by decide +kernel
theorem d_X12_inWords_16 : decode (D_X12_inWords).2.1 16 = .ok (.invokevirtual 147, 3) := by decide +kernel
theorem d_X12_inWords_19 : decode (D_X12_inWords).2.1 19 = .ok (.if_icmp .ge 114, 3) := by decide +kernel
theorem d_X12_inWords_22 : decode (D_X12_inWords).2.1 22 = .ok (.iload_n 3, 1) := by decide +kernel
theorem d_X12_inWords_23 : decode (D_X12_inWords).2.1 23 = .ok (.istore 4, 2) := by decide +kernel
theorem d_X12_inWords_25 : decode (D_X12_inWords).2.1 25 = .ok (.aload_n 1, 1) := by decide +kernel
theorem d_X12_inWords_26 : decode (D_X12_inWords).2.1 26 = .ok (.iload 4, 2) := by decide +kernel
theorem d_X12_inWords_28 : decode (D_X12_inWords).2.1 28 = .ok (.invokevirtual 153, 3) := by decide +kernel
theorem d_X12_inWords_31 : decode (D_X12_inWords).2.1 31 = .ok (.bipush 32, 2) := by decide +kernel
theorem d_X12_inWords_33 : decode (D_X12_inWords).2.1 33 = .ok (.if_icmp .eq 9, 3) := by decide +kernel
theorem d_X12_inWords_36 : decode (D_X12_inWords).2.1 36 = .ok (.iinc 4 1, 3) := by decide +kernel
theorem d_X12_inWords_39 : decode (D_X12_inWords).2.1 39 = .ok (.goto (-14), 3) := by decide +kernel
theorem d_X12_inWords_42 : decode (D_X12_inWords).2.1 42 = .ok (.iload 4, 2) := by decide +kernel
theorem d_X12_inWords_44 : decode (D_X12_inWords).2.1 44 = .ok (.iload_n 3, 1) := by decide +kernel
theorem d_X12_inWords_45 : decode (D_X12_inWords).2.1 45 = .ok (.isub, 1) := by decide +kernel
theorem d_X12_inWords_46 : decode (D_X12_inWords).2.1 46 = .ok (.aload_n 0, 1) := by decide +kernel
theorem d_X12_inWords_47 : decode (D_X12_inWords).2.1 47 = .ok (.getfield 120, 3) := by decide +kernel
theorem d_X12_inWords_50 : decode (D_X12_inWords).2.1 50 = .ok (.aload_n 0, 1) := by decide +kernel
theorem d_X12_inWords_51 : decode (D_X12_inWords).2.1 51 = .ok (.getfield 126, 3) := by decide +kernel
theorem d_X12_inWords_54 : decode (D_X12_inWords).2.1 54 = .ok (.isub, 1) := by decide +kernel
theorem d_X12_inWords_55 : decode (D_X12_inWords).2.1 55 = .ok (.if_icmp .ne 7, 3) := by decide +kernel
theorem d_X12_inWords_58 : decode (D_X12_inWords).2.1 58 = .ok (.iconst 1, 1) := by decide +kernel
theorem d_X12_inWords_59 : decode (D_X12_inWords).2.1 59 = .ok (.goto 4, 3) := by decide +kernel
theorem d_X12_inWords_62 : decode (D_X12_inWords).2.1 62 = .ok (.iconst 0, 1) := by decide +kernel
theorem d_X12_inWords_63 : decode (D_X12_inWords).2.1 63 = .ok (.istore 5, 2) := by decide +kernel
theorem d_X12_inWords_65 : decode (D_X12_inWords).2.1 65 = .ok (.iload_n 3, 1) := by decide +kernel
theorem d_X12_inWords_66 : decode (D_X12_inWords).2.1 66 = .ok (.istore 6, 2) := by decide +kernel
theorem d_X12_inWords_68 : decode (D_X12_inWords).2.1 68 = .ok (.iload 6, 2) := by decide +kernel
theorem d_X12_inWords_70 : decode (D_X12_inWords).2.1 70 = .ok (.iload 4, 2) := by decide +kernel
theorem d_X12_inWords_72 : decode (D_X12_inWords).2.1 72 = .ok (.if_icmp .ge 43, 3) := by decide +kernel
theorem d_X12_inWords_75 : decode (D_X12_inWords).2.1 75 = .ok (.iload 5, 2) := by decide +kernel
theorem d_X12_inWords_77 : decode (D_X12_inWords).2.1 77 = .ok (.ifCond .eq 38, 3) := by decide +kernel
theorem d_X12_inWords_80 : decode (D_X12_inWords).2.1 80 = .ok (.aload_n 1, 1) := by decide +kernel
theorem d_X12_inWords_81 : decode (D_X12_inWords).2.1 81 = .ok (.iload 6, 2) := by decide +kernel
theorem d_X12_inWords_83 : decode (D_X12_inWords).2.1 83 = .ok (.invokevirtual 153, 3) := by decide +kernel
theorem d_X12_inWords_86 : decode (D_X12_inWords).2.1 86 = .ok (.aload_n 0, 1) := by decide +kernel
theorem d_X12_inWords_87 : decode (D_X12_inWords).2.1 87 = .ok (.aload_n 0, 1) := by decide +kernel
theorem d_X12_inWords_88 : decode (D_X12_inWords).2.1 88 = .ok (.getfield 126, 3) := by decide +kernel
theorem d_X12_inWords_91 : decode (D_X12_inWords).2.1 91 = .ok (.iload 6, 2) := by decide +kernel
theorem d_X12_inWords_93 : decode (D_X12_inWords).2.1 93 = .ok (.iadd, 1) := by decide +kernel
theorem d_X12_inWords_94 : decode (D_X12_inWords).2.1 94 = .ok (.iload_n 3, 1) := by decide +kernel
theorem d_X12_inWords_95 : decode (D_X12_inWords).2.1 95 = .ok (.isub, 1) := by decide +kernel
theorem d_X12_inWords_96 : decode (D_X12_inWords).2.1 96 = .ok (.invokevirtual 123, 3) := by decide +kernel
theorem d_X12_inWords_99 : decode (D_X12_inWords).2.1 99 = .ok (.if_icmp .ne 7, 3) := by decide +kernel
theorem d_X12_inWords_102 : decode (D_X12_inWords).2.1 102 = .ok (.iconst 1, 1) := by decide +kernel
theorem d_X12_inWords_103 : decode (D_X12_inWords).2.1 103 = .ok (.goto 4, 3) := by decide +kernel
theorem d_X12_inWords_106 : decode (D_X12_inWords).2.1 106 = .ok (.iconst 0, 1) := by decide +kernel
theorem d_X12_inWords_107 : decode (D_X12_inWords).2.1 107 = .ok (.istore 5, 2) := by decide +kernel
theorem d_X12_inWords_109 : decode (D_X12_inWords).2.1 109 = .ok (.iinc 6 1, 3) := by decide +kernel
theorem d_X12_inWords_112 : decode (D_X12_inWords).2.1 112 = .ok (.goto (-44), 3) := by decide +kernel
theorem d_X12_inWords_115 : decode (D_X12_inWords).2.1 115 = .ok (.iload 5, 2) := by decide +kernel
theorem d_X12_inWords_117 : decode (D_X12_inWords).2.1 117 = .ok (.ifCond .eq 5, 3) := by decide +kernel
theorem d_X12_inWords_120 : decode (D_X12_inWords).2.1 120 = .ok (.iload_n 2, 1) := by decide +kernel
theorem d_X12_inWords_121 : decode (D_X12_inWords).2.1 121 = .ok (.ireturn, 1) := by decide +kernel
theorem d_X12_inWords_122 : decode (D_X12_inWords).2.1 122 = .ok (.iinc 2 1, 3) := by decide +kernel
theorem d_X12_inWords_125 : decode (D_X12_inWords).2.1 125 = .ok (.iload 4, 2) := by decide +kernel
theorem d_X12_inWords_127 : decode (D_X12_inWords).2.1 127 = .ok (.iconst 1, 1) := by decide +kernel
theorem d_X12_inWords_128 : decode (D_X12_inWords).2.1 128 = .ok (.iadd, 1) := by decide +kernel
theorem d_X12_inWords_129 : decode (D_X12_inWords).2.1 129 = .ok (.istore_n 3, 1) := by decide +kernel
theorem d_X12_inWords_130 : decode (D_X12_inWords).2.1 130 = .ok (.goto (-116), 3) := by decide +kernel
theorem d_X12_inWords_133 : decode (D_X12_inWords).2.1 133 = .ok (.iconst (-1), 1) := by decide +kernel
theorem d_X12_inWords_134 : decode (D_X12_inWords).2.1 134 = .ok (.ireturn, 1) := by decide +kernel
def f_X12_inWords_L107 (n : Nat) (r14 : Int → Int → JMem → Option (Int × JMem)) (r68 : Int → Int → Int → Int → Int → JMem → Option (Int × JMem)) (v2 v3 v4 v6 w0 : Int) (M : JMem) : Option (Int × JMem) := letv w0 fun y1 => letv (v6 + 1) fun y2 => r68 v2 v3 v4 y1 y2 M
set_option maxRecDepth 4000 in
theorem t_X12_inWords_L107 {g : JG} {ad : Nat → Nat} (hs : jStr g ad) (n : Nat) (r14 : Int → Int → JMem → Option (Int × JMem)) (r68 : Int → Int → Int → Int → Int → JMem → Option (Int × JMem)) (hr14 : ∀ (v2 v3 : Int) (M : JMem), jB g D_X12_inWords ad 14 [some (.ref 167), some (.ref 1001), some (ji v2), some (ji v3), none, none, none] [] M (r14 v2 v3 M)) (hr68 : ∀ (v2 v3 v4 v5 v6 : Int) (M : JMem), jB g D_X12_inWords ad 68 [some (.ref 167), some (.ref 1001), some (ji v2), some (ji v3), some (ji v4), some (ji v5), some (ji v6)] [] M (r68 v2 v3 v4 v5 v6 M)) (v2 v3 v4 v6 w0 : Int) (M : JMem) : jB g D_X12_inWords ad 107 [some (.ref 167), some (.ref 1001), some (ji v2), some (ji v3), some (ji v4), none, some (ji v6)] [ji w0] M (f_X12_inWords_L107 n r14 r68 v2 v3 v4 v6 w0 M) := by
  unfold f_X12_inWords_L107
  refine jo_istoreW 5 d_X12_inWords_107 (Nat.le_of_ble_eq_true rfl) (fun y1 => ?_)
  refine jo_iinc 6 d_X12_inWords_109 rfl (Nat.le_of_ble_eq_true rfl) (fun y2 => ?_)
  refine jo_goto 68 d_X12_inWords_112 (by decide) ?_
  exact jO.sub (hr68 v2 v3 v4 y1 y2 M) (And.intro rfl (And.intro rfl (And.intro rfl (And.intro rfl (And.intro rfl (And.intro rfl (And.intro rfl True.intro)))))))
def f_X12_inWords_L115 (n : Nat) (r14 : Int → Int → JMem → Option (Int × JMem)) (v2 v4 v5 : Int) (M : JMem) : Option (Int × JMem) := if jw v5 = 0 then (letv (v2 + 1) fun y1 => letv (v4 + 1) fun y2 => r14 y1 y2 M) else (some (v2, M))
set_option maxRecDepth 4000 in
theorem t_X12_inWords_L115 {g : JG} {ad : Nat → Nat} (hs : jStr g ad) (n : Nat) (r14 : Int → Int → JMem → Option (Int × JMem)) (hr14 : ∀ (v2 v3 : Int) (M : JMem), jB g D_X12_inWords ad 14 [some (.ref 167), some (.ref 1001), some (ji v2), some (ji v3), none, none, none] [] M (r14 v2 v3 M)) (v2 v4 v5 : Int) (M : JMem) : jB g D_X12_inWords ad 115 [some (.ref 167), some (.ref 1001), some (ji v2), none, some (ji v4), some (ji v5), none] [] M (f_X12_inWords_L115 n r14 v2 v4 v5 M) := by
  unfold f_X12_inWords_L115
  refine jo_iloadW 5 d_X12_inWords_115 rfl ?_
  refine jo_if_eq 122 d_X12_inWords_117 (by decide) ?_ ?_
  · skip
    refine jo_iinc 2 d_X12_inWords_122 rfl (Nat.le_of_ble_eq_true rfl) (fun y1 => ?_)
    refine jo_iloadW 4 d_X12_inWords_125 rfl ?_
    refine jo_iconst 1 d_X12_inWords_127 ?_
    refine jo_iadd d_X12_inWords_128 ?_
    refine jo_istore 3 d_X12_inWords_129 rfl (Nat.le_of_ble_eq_true rfl) (fun y2 => ?_)
    refine jo_goto 14 d_X12_inWords_130 (by decide) ?_
    exact jO.sub (hr14 y1 y2 M) (And.intro rfl (And.intro rfl (And.intro rfl (And.intro rfl True.intro))))
  · skip
    refine jo_iload 2 d_X12_inWords_120 rfl rfl ?_
    exact jo_iret rfl d_X12_inWords_121
def f_X12_inWords_L68 (n : Nat) (r14 : Int → Int → JMem → Option (Int × JMem)) : Nat → Int → Int → Int → Int → Int → JMem → Option (Int × JMem)
  | 0, _, _, _, _, _, _ => none
  | k + 1, v2, v3, v4, v5, v6, M => if jw v4 ≤ jw v6 then (f_X12_inWords_L115 n r14 v2 v4 v5 M) else (if jw v5 = 0 then (f_X12_inWords_L115 n r14 v2 v4 v5 M) else (chk (jin v6 138) <| bnd (f_X12_byteAt n (((M 167 13) + v6) - v3) M) fun r1 M2 => if jw (jSc (jw v6).toNat) = jw r1 then (f_X12_inWords_L107 n r14 (f_X12_inWords_L68 n r14 k) v2 v3 v4 v6 1 M2) else (f_X12_inWords_L107 n r14 (f_X12_inWords_L68 n r14 k) v2 v3 v4 v6 0 M2)))
set_option maxRecDepth 4000 in
theorem t_X12_inWords_L68 {g : JG} {ad : Nat → Nat} (hs : jStr g ad) (n : Nat) (r14 : Int → Int → JMem → Option (Int × JMem)) (hr14 : ∀ (v2 v3 : Int) (M : JMem), jB g D_X12_inWords ad 14 [some (.ref 167), some (.ref 1001), some (ji v2), some (ji v3), none, none, none] [] M (r14 v2 v3 M)) : ∀ (k : Nat) (v2 v3 v4 v5 v6 : Int) (M : JMem), jB g D_X12_inWords ad 68 [some (.ref 167), some (.ref 1001), some (ji v2), some (ji v3), some (ji v4), some (ji v5), some (ji v6)] [] M (f_X12_inWords_L68 n r14 k v2 v3 v4 v5 v6 M) := by
  intro k
  induction k with
  | zero => intro v2 v3 v4 v5 v6 M; exact jO.none
  | succ k ih =>
    intro v2 v3 v4 v5 v6 M
    rw [f_X12_inWords_L68]
    refine jo_iloadW 6 d_X12_inWords_68 rfl ?_
    refine jo_iloadW 4 d_X12_inWords_70 rfl ?_
    refine jo_icmp_ge 115 d_X12_inWords_72 (by decide) ?_ ?_
    · skip
      exact jO.sub (t_X12_inWords_L115 hs n r14 hr14 v2 v4 v5 M) (And.intro rfl (And.intro rfl (And.intro rfl (And.intro rfl (And.intro rfl True.intro)))))
    · skip
      refine jo_iloadW 5 d_X12_inWords_75 rfl ?_
      refine jo_if_eq 115 d_X12_inWords_77 (by decide) ?_ ?_
      · skip
        exact jO.sub (t_X12_inWords_L115 hs n r14 hr14 v2 v4 v5 M) (And.intro rfl (And.intro rfl (And.intro rfl (And.intro rfl (And.intro rfl True.intro)))))
      · skip
        refine jo_aload 1 d_X12_inWords_80 rfl rfl ?_
        refine jo_iloadW 6 d_X12_inWords_81 rfl ?_
        refine jo_sat hs lm_X12_153 (And.intro (Nat.le_of_ble_eq_true rfl) (Nat.le_of_ble_eq_true rfl)) (Nat.le_of_ble_eq_true rfl) d_X12_inWords_83 ?_
        refine jo_aload 0 d_X12_inWords_86 rfl rfl ?_
        refine jo_aload 0 d_X12_inWords_87 rfl rfl ?_
        refine jo_getI (k := 13) cl_12 (Nat.le_of_ble_eq_true rfl) lk_X12_126 (Or.inl rfl) kc_167 d_X12_inWords_88 ?_
        refine jo_iloadW 6 d_X12_inWords_91 rfl ?_
        refine jo_iadd d_X12_inWords_93 ?_
        refine jo_iload 3 d_X12_inWords_94 rfl rfl ?_
        refine jo_isub d_X12_inWords_95 ?_
        refine jo_callV (st := [ji (jSc (jw v6).toNat)]) (m_X12_byteAt hs n (((M 167 13) + v6) - v3) M) ok_X12_byteAt (And.intro (Nat.le_of_ble_eq_true rfl) (Nat.le_of_ble_eq_true rfl)) lm_X12_123 in_X12_byteAt se_X12_byteAt rfl kc_167 rfl rfl (And.intro (Nat.zero_le _) (Nat.zero_le _)) rfl (Nat.le_of_ble_eq_true rfl) d_X12_inWords_96 (fun r1 M2 => ?_)
        refine jo_icmp_ne 106 d_X12_inWords_99 (by decide) ?_ ?_
        · skip
          refine jo_iconst 0 d_X12_inWords_106 ?_
          exact jO.sub (t_X12_inWords_L107 hs n r14 (f_X12_inWords_L68 n r14 k) hr14 ih v2 v3 v4 v6 0 M2) (And.intro rfl (And.intro rfl (And.intro rfl (And.intro rfl (And.intro rfl (And.intro rfl True.intro))))))
        · skip
          refine jo_iconst 1 d_X12_inWords_102 ?_
          refine jo_goto 107 d_X12_inWords_103 (by decide) ?_
          exact jO.sub (t_X12_inWords_L107 hs n r14 (f_X12_inWords_L68 n r14 k) hr14 ih v2 v3 v4 v6 1 M2) (And.intro rfl (And.intro rfl (And.intro rfl (And.intro rfl (And.intro rfl (And.intro rfl True.intro))))))
def f_X12_inWords_L63 (n : Nat) (r14 : Int → Int → JMem → Option (Int × JMem)) (v2 v3 v4 w0 : Int) (M : JMem) : Option (Int × JMem) := letv w0 fun y1 => letv v3 fun y2 => f_X12_inWords_L68 n r14 n v2 v3 v4 y1 y2 M
set_option maxRecDepth 4000 in
theorem t_X12_inWords_L63 {g : JG} {ad : Nat → Nat} (hs : jStr g ad) (n : Nat) (r14 : Int → Int → JMem → Option (Int × JMem)) (hr14 : ∀ (v2 v3 : Int) (M : JMem), jB g D_X12_inWords ad 14 [some (.ref 167), some (.ref 1001), some (ji v2), some (ji v3), none, none, none] [] M (r14 v2 v3 M)) (v2 v3 v4 w0 : Int) (M : JMem) : jB g D_X12_inWords ad 63 [some (.ref 167), some (.ref 1001), some (ji v2), some (ji v3), some (ji v4), none, none] [ji w0] M (f_X12_inWords_L63 n r14 v2 v3 v4 w0 M) := by
  unfold f_X12_inWords_L63
  refine jo_istoreW 5 d_X12_inWords_63 (Nat.le_of_ble_eq_true rfl) (fun y1 => ?_)
  refine jo_iload 3 d_X12_inWords_65 rfl rfl ?_
  refine jo_istoreW 6 d_X12_inWords_66 (Nat.le_of_ble_eq_true rfl) (fun y2 => ?_)
  exact jO.sub (t_X12_inWords_L68 hs n r14 hr14 n v2 v3 v4 y1 y2 M) (And.intro rfl (And.intro rfl (And.intro rfl (And.intro rfl (And.intro rfl (And.intro rfl (And.intro rfl True.intro)))))))
def f_X12_inWords_L42 (n : Nat) (r14 : Int → Int → JMem → Option (Int × JMem)) (v2 v3 v4 : Int) (M : JMem) : Option (Int × JMem) := if jw (v4 - v3) = jw ((M 167 14) - (M 167 13)) then (f_X12_inWords_L63 n r14 v2 v3 v4 1 M) else (f_X12_inWords_L63 n r14 v2 v3 v4 0 M)
set_option maxRecDepth 4000 in
theorem t_X12_inWords_L42 {g : JG} {ad : Nat → Nat} (hs : jStr g ad) (n : Nat) (r14 : Int → Int → JMem → Option (Int × JMem)) (hr14 : ∀ (v2 v3 : Int) (M : JMem), jB g D_X12_inWords ad 14 [some (.ref 167), some (.ref 1001), some (ji v2), some (ji v3), none, none, none] [] M (r14 v2 v3 M)) (v2 v3 v4 : Int) (M : JMem) : jB g D_X12_inWords ad 42 [some (.ref 167), some (.ref 1001), some (ji v2), some (ji v3), some (ji v4), none, none] [] M (f_X12_inWords_L42 n r14 v2 v3 v4 M) := by
  unfold f_X12_inWords_L42
  refine jo_iloadW 4 d_X12_inWords_42 rfl ?_
  refine jo_iload 3 d_X12_inWords_44 rfl rfl ?_
  refine jo_isub d_X12_inWords_45 ?_
  refine jo_aload 0 d_X12_inWords_46 rfl rfl ?_
  refine jo_getI (k := 14) cl_12 (Nat.le_of_ble_eq_true rfl) lk_X12_120 (Or.inl rfl) kc_167 d_X12_inWords_47 ?_
  refine jo_aload 0 d_X12_inWords_50 rfl rfl ?_
  refine jo_getI (k := 13) cl_12 (Nat.le_of_ble_eq_true rfl) lk_X12_126 (Or.inl rfl) kc_167 d_X12_inWords_51 ?_
  refine jo_isub d_X12_inWords_54 ?_
  refine jo_icmp_ne 62 d_X12_inWords_55 (by decide) ?_ ?_
  · skip
    refine jo_iconst 0 d_X12_inWords_62 ?_
    exact jO.sub (t_X12_inWords_L63 hs n r14 hr14 v2 v3 v4 0 M) (And.intro rfl (And.intro rfl (And.intro rfl (And.intro rfl (And.intro rfl True.intro)))))
  · skip
    refine jo_iconst 1 d_X12_inWords_58 ?_
    refine jo_goto 63 d_X12_inWords_59 (by decide) ?_
    exact jO.sub (t_X12_inWords_L63 hs n r14 hr14 v2 v3 v4 1 M) (And.intro rfl (And.intro rfl (And.intro rfl (And.intro rfl (And.intro rfl True.intro)))))
def f_X12_inWords_L25 (n : Nat) (r14 : Int → Int → JMem → Option (Int × JMem)) : Nat → Int → Int → Int → JMem → Option (Int × JMem)
  | 0, _, _, _, _ => none
  | k + 1, v2, v3, v4, M => chk (jin v4 138) <| if jw (jSc (jw v4).toNat) = jw 32 then (f_X12_inWords_L42 n r14 v2 v3 v4 M) else (letv (v4 + 1) fun y1 => (f_X12_inWords_L25 n r14 k) v2 v3 y1 M)
set_option maxRecDepth 4000 in
theorem t_X12_inWords_L25 {g : JG} {ad : Nat → Nat} (hs : jStr g ad) (n : Nat) (r14 : Int → Int → JMem → Option (Int × JMem)) (hr14 : ∀ (v2 v3 : Int) (M : JMem), jB g D_X12_inWords ad 14 [some (.ref 167), some (.ref 1001), some (ji v2), some (ji v3), none, none, none] [] M (r14 v2 v3 M)) : ∀ (k : Nat) (v2 v3 v4 : Int) (M : JMem), jB g D_X12_inWords ad 25 [some (.ref 167), some (.ref 1001), some (ji v2), some (ji v3), some (ji v4), none, none] [] M (f_X12_inWords_L25 n r14 k v2 v3 v4 M) := by
  intro k
  induction k with
  | zero => intro v2 v3 v4 M; exact jO.none
  | succ k ih =>
    intro v2 v3 v4 M
    rw [f_X12_inWords_L25]
    refine jo_aload 1 d_X12_inWords_25 rfl rfl ?_
    refine jo_iloadW 4 d_X12_inWords_26 rfl ?_
    refine jo_sat hs lm_X12_153 (And.intro (Nat.le_of_ble_eq_true rfl) (Nat.le_of_ble_eq_true rfl)) (Nat.le_of_ble_eq_true rfl) d_X12_inWords_28 ?_
    refine jo_bipush 32 d_X12_inWords_31 (by decide) ?_
    refine jo_icmp_eq 42 d_X12_inWords_33 (by decide) ?_ ?_
    · skip
      exact jO.sub (t_X12_inWords_L42 hs n r14 hr14 v2 v3 v4 M) (And.intro rfl (And.intro rfl (And.intro rfl (And.intro rfl (And.intro rfl True.intro)))))
    · skip
      refine jo_iinc 4 d_X12_inWords_36 rfl (Nat.le_of_ble_eq_true rfl) (fun y1 => ?_)
      refine jo_goto 25 d_X12_inWords_39 (by decide) ?_
      exact jO.sub (ih v2 v3 y1 M) (And.intro rfl (And.intro rfl (And.intro rfl (And.intro rfl (And.intro rfl True.intro)))))
def f_X12_inWords_L14 (n : Nat) : Nat → Int → Int → JMem → Option (Int × JMem)
  | 0, _, _, _ => none
  | k + 1, v2, v3, M => if jw jSl ≤ jw v3 then (some ((-1), M)) else (letv v3 fun y1 => f_X12_inWords_L25 n (f_X12_inWords_L14 n k) n v2 v3 y1 M)
set_option maxRecDepth 4000 in
theorem t_X12_inWords_L14 {g : JG} {ad : Nat → Nat} (hs : jStr g ad) (n : Nat) : ∀ (k : Nat) (v2 v3 : Int) (M : JMem), jB g D_X12_inWords ad 14 [some (.ref 167), some (.ref 1001), some (ji v2), some (ji v3), none, none, none] [] M (f_X12_inWords_L14 n k v2 v3 M) := by
  intro k
  induction k with
  | zero => intro v2 v3 M; exact jO.none
  | succ k ih =>
    intro v2 v3 M
    rw [f_X12_inWords_L14]
    refine jo_iload 3 d_X12_inWords_14 rfl rfl ?_
    refine jo_aload 1 d_X12_inWords_15 rfl rfl ?_
    refine jo_slen hs lm_X12_147 (And.intro (Nat.le_of_ble_eq_true rfl) (Nat.le_of_ble_eq_true rfl)) (Nat.le_of_ble_eq_true rfl) d_X12_inWords_16 ?_
    refine jo_icmp_ge 133 d_X12_inWords_19 (by decide) ?_ ?_
    · skip
      refine jo_iconst (-1) d_X12_inWords_133 ?_
      exact jo_iret rfl d_X12_inWords_134
    · skip
      refine jo_iload 3 d_X12_inWords_22 rfl rfl ?_
      refine jo_istoreW 4 d_X12_inWords_23 (Nat.le_of_ble_eq_true rfl) (fun y1 => ?_)
      exact jO.sub (t_X12_inWords_L25 hs n (f_X12_inWords_L14 n k) ih n v2 v3 y1 M) (And.intro rfl (And.intro rfl (And.intro rfl (And.intro rfl (And.intro rfl True.intro)))))
def f_X12_inWords (n : Nat) (M : JMem) : Option (Int × JMem) := if jw (M 167 12) = jw 2 then (letv 0 fun y1 => letv 1 fun y2 => f_X12_inWords_L14 n n y1 y2 M) else (some ((-1), M))
set_option maxRecDepth 4000 in
theorem t_X12_inWords {g : JG} {ad : Nat → Nat} (hs : jStr g ad) (n : Nat) (M : JMem) : jB g D_X12_inWords ad 0 [some (.ref 167), some (.ref 1001), none, none, none, none, none] [] M (f_X12_inWords n M) := by
  unfold f_X12_inWords
  refine jo_aload 0 d_X12_inWords_0 rfl rfl ?_
  refine jo_getI (k := 12) cl_12 (Nat.le_of_ble_eq_true rfl) lk_X12_132 (Or.inl rfl) kc_167 d_X12_inWords_1 ?_
  refine jo_iconst 2 d_X12_inWords_4 ?_
  refine jo_icmp_eq 10 d_X12_inWords_5 (by decide) ?_ ?_
  · skip
    refine jo_iconst 0 d_X12_inWords_10 ?_
    refine jo_istore 2 d_X12_inWords_11 rfl (Nat.le_of_ble_eq_true rfl) (fun y1 => ?_)
    refine jo_iconst 1 d_X12_inWords_12 ?_
    refine jo_istore 3 d_X12_inWords_13 rfl (Nat.le_of_ble_eq_true rfl) (fun y2 => ?_)
    exact jO.sub (t_X12_inWords_L14 hs n n y1 y2 M) (And.intro rfl (And.intro rfl (And.intro rfl (And.intro rfl True.intro))))
  · skip
    refine jo_iconst (-1) d_X12_inWords_8 ?_
    exact jo_iret rfl d_X12_inWords_9
theorem m_X12_inWords {g : JG} {ad : Nat → Nat} (hs : jStr g ad) (n : Nat) (M : JMem) : jMet g jNN ad jR D_X12_inWords yX12_inWords [.ref 167, .ref 1001] M (f_X12_inWords n M) :=
  jMet.of (lo0 := [some (.ref 167), some (.ref 1001), none, none, none, none, none]) (by decide) rfl rfl (Nat.le_of_ble_eq_true rfl) (And.intro rfl (And.intro rfl True.intro)) (t_X12_inWords hs n M)
/-! CageLeaveModel.isName(Ljava/lang/String;)Z -/
def D_X12_isName : JD := (RX12, cX12_isName, 2, some .boolean, "isName", { frames := 7, cells := 0, slots := 0, locals := 176 })
theorem ok_X12_isName : jOk D_X12_isName yX12_isName 1 := ⟨jTW_mem (k := 1603) (by decide +kernel) rfl, jTW_mem (k := 151) (by decide +kernel) rfl, ⟨by decide +kernel, by decide +kernel⟩, by decide +kernel, rfl, rfl⟩
theorem in_X12_isName : Cond.instanceMethod yX12_isName ∈ jTW := jTW_mem (k := 1602) (by decide +kernel) rfl
theorem se_X12_isName : Cond.selects yX12_isName.cls yX12_isName yX12_isName ∈ jTW := jTW_mem (k := 61) (by decide +kernel) rfl
theorem lm_X12_172 : Cond.methodLink RX12 172 yX12_inWords ∈ jTW := jTW_mem (k := 1582) (by decide +kernel) rfl
theorem d_X12_isName_0 : decode (D_X12_isName).2.1 0 = .ok (.aload_n 0, 1) := by decide +kernel
theorem d_X12_isName_1 : decode (D_X12_isName).2.1 1 = .ok (.getfield 132, 3) := by decide +kernel
theorem d_X12_isName_4 : decode (D_X12_isName).2.1 4 = .ok (.iconst 2, 1) := by decide +kernel
theorem d_X12_isName_5 : decode (D_X12_isName).2.1 5 = .ok (.if_icmp .ne 30, 3) := by decide +kernel
theorem d_X12_isName_8 : decode (D_X12_isName).2.1 8 = .ok (.aload_n 0, 1) := by decide +kernel
theorem d_X12_isName_9 : decode (D_X12_isName).2.1 9 = .ok (.getfield 120, 3) := by decide +kernel
theorem d_X12_isName_12 : decode (D_X12_isName).2.1 12 = .ok (.aload_n 0, 1) := by decide +kernel
theorem d_X12_isName_13 : decode (D_X12_isName).2.1 13 = .ok (.getfield 126, 3) := by decide +kernel
theorem d_X12_isName_16 : decode (D_X12_isName).2.1 16 = .ok (.isub, 1) := by decide +kernel
theorem d_X12_isName_17 : decode (D_X12_isName).2.1 17 = .ok (.bipush 8, 2) := by decide +kernel
theorem d_X12_isName_19 : decode (D_X12_isName).2.1 19 = .ok (.if_icmp .gt 16, 3) := by decide +kernel
theorem d_X12_isName_22 : decode (D_X12_isName).2.1 22 = .ok (.aload_n 0, 1) := by decide +kernel
theorem d_X12_isName_23 : decode (D_X12_isName).2.1 23 = .ok (.aload_n 1, 1) := by decide +kernel
theorem d_X12_isName_24 : decode (D_X12_isName).2.1 24 = .ok (.invokevirtual 172, 3) := by decide +kernel
theorem d_X12_isName_27 : decode (D_X12_isName).2.1 27 = .ok (.iconst (-1), 1) := by decide +kernel
theorem d_X12_isName_28 : decode (D_X12_isName).2.1 28 = .ok (.if_icmp .ne 7, 3) := by decide +kernel
theorem d_X12_isName_31 : decode (D_X12_isName).2.1 31 = .ok (.iconst 1, 1) := by decide +kernel
theorem d_X12_isName_32 : decode (D_X12_isName).2.1 32 = .ok (.goto 4, 3) := by decide +kernel
theorem d_X12_isName_35 : decode (D_X12_isName).2.1 35 = .ok (.iconst 0, 1) := by decide +kernel
theorem d_X12_isName_36 : decode (D_X12_isName).2.1 36 = .ok (.ireturn, 1) := by decide +kernel
def f_X12_isName (n : Nat) (M : JMem) : Option (Int × JMem) := if jw (M 167 12) = jw 2 then (if jw 8 < jw ((M 167 14) - (M 167 13)) then (some (0, M)) else (bnd (f_X12_inWords n M) fun r1 M2 => if jw r1 = jw (-1) then (some (1, M2)) else (some (0, M2)))) else (some (0, M))
set_option maxRecDepth 4000 in
theorem t_X12_isName {g : JG} {ad : Nat → Nat} (hs : jStr g ad) (n : Nat) (M : JMem) : jB g D_X12_isName ad 0 [some (.ref 167), some (.ref 1001)] [] M (f_X12_isName n M) := by
  unfold f_X12_isName
  refine jo_aload 0 d_X12_isName_0 rfl rfl ?_
  refine jo_getI (k := 12) cl_12 (Nat.le_of_ble_eq_true rfl) lk_X12_132 (Or.inl rfl) kc_167 d_X12_isName_1 ?_
  refine jo_iconst 2 d_X12_isName_4 ?_
  refine jo_icmp_ne 35 d_X12_isName_5 (by decide) ?_ ?_
  · skip
    refine jo_iconst 0 d_X12_isName_35 ?_
    exact jo_zret rfl (by decide) d_X12_isName_36
  · skip
    refine jo_aload 0 d_X12_isName_8 rfl rfl ?_
    refine jo_getI (k := 14) cl_12 (Nat.le_of_ble_eq_true rfl) lk_X12_120 (Or.inl rfl) kc_167 d_X12_isName_9 ?_
    refine jo_aload 0 d_X12_isName_12 rfl rfl ?_
    refine jo_getI (k := 13) cl_12 (Nat.le_of_ble_eq_true rfl) lk_X12_126 (Or.inl rfl) kc_167 d_X12_isName_13 ?_
    refine jo_isub d_X12_isName_16 ?_
    refine jo_bipush 8 d_X12_isName_17 (by decide) ?_
    refine jo_icmp_gt 35 d_X12_isName_19 (by decide) ?_ ?_
    · skip
      refine jo_iconst 0 d_X12_isName_35 ?_
      exact jo_zret rfl (by decide) d_X12_isName_36
    · skip
      refine jo_aload 0 d_X12_isName_22 rfl rfl ?_
      refine jo_aload 1 d_X12_isName_23 rfl rfl ?_
      refine jo_callV (st := []) (m_X12_inWords hs n M) ok_X12_inWords (And.intro (Nat.le_of_ble_eq_true rfl) (Nat.le_of_ble_eq_true rfl)) lm_X12_172 in_X12_inWords se_X12_inWords rfl kc_167 rfl rfl (And.intro (Nat.zero_le _) (Nat.zero_le _)) rfl (Nat.le_of_ble_eq_true rfl) d_X12_isName_24 (fun r1 M2 => ?_)
      refine jo_iconst (-1) d_X12_isName_27 ?_
      refine jo_icmp_ne 35 d_X12_isName_28 (by decide) ?_ ?_
      · skip
        refine jo_iconst 0 d_X12_isName_35 ?_
        exact jo_zret rfl (by decide) d_X12_isName_36
      · skip
        refine jo_iconst 1 d_X12_isName_31 ?_
        refine jo_goto 36 d_X12_isName_32 (by decide) ?_
        exact jo_zret rfl (by decide) d_X12_isName_36
theorem m_X12_isName {g : JG} {ad : Nat → Nat} (hs : jStr g ad) (n : Nat) (M : JMem) : jMet g jNN ad jR D_X12_isName yX12_isName [.ref 167, .ref 1001] M (f_X12_isName n M) :=
  jMet.of (lo0 := [some (.ref 167), some (.ref 1001)]) (by decide) rfl rfl (Nat.le_of_ble_eq_true rfl) (And.intro rfl (And.intro rfl True.intro)) (t_X12_isName hs n M)
/-! CageLeaveModel.nameHere()J -/
def D_X12_nameHere : JD := (RX12, cX12_nameHere, 4, some .long, "nameHere", { frames := 1, cells := 0, slots := 0, locals := 21 })
theorem ok_X12_nameHere : jOk D_X12_nameHere yX12_nameHere 0 := ⟨jTW_mem (k := 1611) (by decide +kernel) rfl, jTW_mem (k := 151) (by decide +kernel) rfl, ⟨by decide +kernel, by decide +kernel⟩, by decide +kernel, rfl, rfl⟩
theorem in_X12_nameHere : Cond.instanceMethod yX12_nameHere ∈ jTW := jTW_mem (k := 1610) (by decide +kernel) rfl
theorem se_X12_nameHere : Cond.selects yX12_nameHere.cls yX12_nameHere yX12_nameHere ∈ jTW := jTW_mem (k := 63) (by decide +kernel) rfl
theorem d_X12_nameHere_0 : decode (D_X12_nameHere).2.1 0 = .ok (.lconst 0, 1) := by decide +kernel
theorem d_X12_nameHere_1 : decode (D_X12_nameHere).2.1 1 = .ok (.lstore_n 1, 1) := by decide +kernel
theorem d_X12_nameHere_2 : decode (D_X12_nameHere).2.1 2 = .ok (.aload_n 0, 1) := by decide +kernel
theorem d_X12_nameHere_3 : decode (D_X12_nameHere).2.1 3 = .ok (.getfield 126, 3) := by decide +kernel
theorem d_X12_nameHere_6 : decode (D_X12_nameHere).2.1 6 = .ok (.istore_n 3, 1) := by decide +kernel
theorem d_X12_nameHere_7 : decode (D_X12_nameHere).2.1 7 = .ok (.iload_n 3, 1) := by decide +kernel
theorem d_X12_nameHere_8 : decode (D_X12_nameHere).2.1 8 = .ok (.aload_n 0, 1) := by decide +kernel
theorem d_X12_nameHere_9 : decode (D_X12_nameHere).2.1 9 = .ok (.getfield 120, 3) := by decide +kernel
theorem d_X12_nameHere_12 : decode (D_X12_nameHere).2.1 12 = .ok (.if_icmp .ge 21, 3) := by decide +kernel
theorem d_X12_nameHere_15 : decode (D_X12_nameHere).2.1 15 = .ok (.lload_n 1, 1) := by decide +kernel
theorem d_X12_nameHere_16 : decode (D_X12_nameHere).2.1 16 = .ok (.bipush 8, 2) := by decide +kernel
theorem d_X12_nameHere_18 : decode (D_X12_nameHere).2.1 18 = .ok (.lshl, 1) := by decide +kernel
theorem d_X12_nameHere_19 : decode (D_X12_nameHere).2.1 19 = .ok (.aload_n 0, 1) := by decide +kernel
theorem d_X12_nameHere_20 : decode (D_X12_nameHere).2.1 20 = .ok (.iload_n 3, 1) := by decide +kernel
theorem d_X12_nameHere_21 : decode (D_X12_nameHere).2.1 21 = .ok (.invokevirtual 123, 3) := by decide +kernel
theorem d_X12_nameHere_24 : decode (D_X12_nameHere).2.1 24 = .ok (.i2l, 1) := by decide +kernel
theorem d_X12_nameHere_25 : decode (D_X12_nameHere).2.1 25 = .ok (.lor, 1) := by decide +kernel
theorem d_X12_nameHere_26 : decode (D_X12_nameHere).2.1 26 = .ok (.lstore_n 1, 1) := by decide +kernel
theorem d_X12_nameHere_27 : decode (D_X12_nameHere).2.1 27 = .ok (.iinc 3 1, 3) := by decide +kernel
theorem d_X12_nameHere_30 : decode (D_X12_nameHere).2.1 30 = .ok (.goto (-23), 3) := by decide +kernel
theorem d_X12_nameHere_33 : decode (D_X12_nameHere).2.1 33 = .ok (.lload_n 1, 1) := by decide +kernel
theorem d_X12_nameHere_34 : decode (D_X12_nameHere).2.1 34 = .ok (.lreturn, 1) := by decide +kernel
def f_X12_nameHere_L7 (n : Nat) : Nat → Int → Int → JMem → Option (Int × JMem)
  | 0, _, _, _ => none
  | k + 1, v1, v3, M => if jw (M 167 14) ≤ jw v3 then (some (v1, M)) else (bnd (f_X12_byteAt n v3 M) fun r1 M2 => letv (jlor (jlshl v1 8) (jw r1)) fun y3 => letv (v3 + 1) fun y4 => (f_X12_nameHere_L7 n k) y3 y4 M2)
set_option maxRecDepth 4000 in
theorem t_X12_nameHere_L7 {g : JG} {ad : Nat → Nat} (hs : jStr g ad) (n : Nat) : ∀ (k : Nat) (v1 v3 : Int) (M : JMem), jB g D_X12_nameHere ad 7 [some (.ref 167), some (jl v1), none, some (ji v3)] [] M (f_X12_nameHere_L7 n k v1 v3 M) := by
  intro k
  induction k with
  | zero => intro v1 v3 M; exact jO.none
  | succ k ih =>
    intro v1 v3 M
    rw [f_X12_nameHere_L7]
    refine jo_iload 3 d_X12_nameHere_7 rfl rfl ?_
    refine jo_aload 0 d_X12_nameHere_8 rfl rfl ?_
    refine jo_getI (k := 14) cl_12 (Nat.le_of_ble_eq_true rfl) lk_X12_120 (Or.inl rfl) kc_167 d_X12_nameHere_9 ?_
    refine jo_icmp_ge 33 d_X12_nameHere_12 (by decide) ?_ ?_
    · skip
      refine jo_lload 1 d_X12_nameHere_33 rfl rfl ?_
      exact jo_lret rfl d_X12_nameHere_34
    · skip
      refine jo_lload 1 d_X12_nameHere_15 rfl rfl ?_
      refine jo_bipush 8 d_X12_nameHere_16 (by decide) ?_
      refine jo_lshl d_X12_nameHere_18 ?_
      refine jo_aload 0 d_X12_nameHere_19 rfl rfl ?_
      refine jo_iload 3 d_X12_nameHere_20 rfl rfl ?_
      refine jo_callV (st := [jl (jlshl v1 8)]) (m_X12_byteAt hs n v3 M) ok_X12_byteAt (And.intro (Nat.le_of_ble_eq_true rfl) (Nat.le_of_ble_eq_true rfl)) lm_X12_123 in_X12_byteAt se_X12_byteAt rfl kc_167 rfl rfl (And.intro (Nat.zero_le _) (Nat.zero_le _)) rfl (Nat.le_of_ble_eq_true rfl) d_X12_nameHere_21 (fun r1 M2 => ?_)
      refine jo_i2l d_X12_nameHere_24 ?_
      refine jo_lor d_X12_nameHere_25 ?_
      refine jo_lstore 1 d_X12_nameHere_26 rfl (Nat.le_of_ble_eq_true rfl) (fun y3 => ?_)
      refine jo_iinc 3 d_X12_nameHere_27 rfl (Nat.le_of_ble_eq_true rfl) (fun y4 => ?_)
      refine jo_goto 7 d_X12_nameHere_30 (by decide) ?_
      exact jO.sub (ih y3 y4 M2) (And.intro rfl (And.intro rfl (And.intro rfl True.intro)))
def f_X12_nameHere (n : Nat) (M : JMem) : Option (Int × JMem) := letv 0 fun y1 => letv (M 167 13) fun y2 => f_X12_nameHere_L7 n n y1 y2 M
set_option maxRecDepth 4000 in
theorem t_X12_nameHere {g : JG} {ad : Nat → Nat} (hs : jStr g ad) (n : Nat) (M : JMem) : jB g D_X12_nameHere ad 0 [some (.ref 167), none, none, none] [] M (f_X12_nameHere n M) := by
  unfold f_X12_nameHere
  refine jo_lconst0 d_X12_nameHere_0 ?_
  refine jo_lstore 1 d_X12_nameHere_1 rfl (Nat.le_of_ble_eq_true rfl) (fun y1 => ?_)
  refine jo_aload 0 d_X12_nameHere_2 rfl rfl ?_
  refine jo_getI (k := 13) cl_12 (Nat.le_of_ble_eq_true rfl) lk_X12_126 (Or.inl rfl) kc_167 d_X12_nameHere_3 ?_
  refine jo_istore 3 d_X12_nameHere_6 rfl (Nat.le_of_ble_eq_true rfl) (fun y2 => ?_)
  exact jO.sub (t_X12_nameHere_L7 hs n n y1 y2 M) (And.intro rfl (And.intro rfl (And.intro rfl True.intro)))
theorem m_X12_nameHere {g : JG} {ad : Nat → Nat} (hs : jStr g ad) (n : Nat) (M : JMem) : jMet g jNN ad jR D_X12_nameHere yX12_nameHere [.ref 167] M (f_X12_nameHere n M) :=
  jMet.of (lo0 := [some (.ref 167), none, none, none]) (by decide) rfl rfl (Nat.le_of_ble_eq_true rfl) (And.intro rfl True.intro) (t_X12_nameHere hs n M)
/-! CageLeaveModel.findHere(II)I -/
def D_X12_findHere : JD := (RX12, cX12_findHere, 4, some .int, "findHere", { frames := 2, cells := 0, slots := 0, locals := 44 })
theorem ok_X12_findHere : jOk D_X12_findHere yX12_findHere 2 := ⟨jTW_mem (k := 1607) (by decide +kernel) rfl, jTW_mem (k := 151) (by decide +kernel) rfl, ⟨by decide +kernel, by decide +kernel⟩, by decide +kernel, rfl, rfl⟩
theorem in_X12_findHere : Cond.instanceMethod yX12_findHere ∈ jTW := jTW_mem (k := 1606) (by decide +kernel) rfl
theorem se_X12_findHere : Cond.selects yX12_findHere.cls yX12_findHere yX12_findHere ∈ jTW := jTW_mem (k := 62) (by decide +kernel) rfl
theorem lk_X12_13 : Cond.fieldLink RX12 13 (TX12 1).1 (TX12 1).2.1 (TX12 1).2.2.1 ∈ jTW := jTW_mem (k := 1377) (by decide +kernel) rfl
theorem lm_X12_176 : Cond.methodLink RX12 176 yX12_nameHere ∈ jTW := jTW_mem (k := 1608) (by decide +kernel) rfl
theorem d_X12_findHere_0 : decode (D_X12_findHere).2.1 0 = .ok (.iconst 0, 1) := by decide +kernel
theorem d_X12_findHere_1 : decode (D_X12_findHere).2.1 1 = .ok (.istore_n 3, 1) := by decide +kernel
theorem d_X12_findHere_2 : decode (D_X12_findHere).2.1 2 = .ok (.iload_n 3, 1) := by decide +kernel
theorem d_X12_findHere_3 : decode (D_X12_findHere).2.1 3 = .ok (.iload_n 2, 1) := by decide +kernel
theorem d_X12_findHere_4 : decode (D_X12_findHere).2.1 4 = .ok (.if_icmp .ge 27, 3) := by decide +kernel
theorem d_X12_findHere_7 : decode (D_X12_findHere).2.1 7 = .ok (.aload_n 0, 1) := by decide +kernel
theorem d_X12_findHere_8 : decode (D_X12_findHere).2.1 8 = .ok (.getfield 13, 3) := by decide +kernel
theorem d_X12_findHere_11 : decode (D_X12_findHere).2.1 11 = .ok (.iload_n 1, 1) := by decide +kernel
theorem d_X12_findHere_12 : decode (D_X12_findHere).2.1 12 = .ok (.iload_n 3, 1) := by decide +kernel
theorem d_X12_findHere_13 : decode (D_X12_findHere).2.1 13 = .ok (.iadd, 1) := by decide +kernel
theorem d_X12_findHere_14 : decode (D_X12_findHere).2.1 14 = .ok (.laload, 1) := by decide +kernel
theorem d_X12_findHere_15 : decode (D_X12_findHere).2.1 15 = .ok (.aload_n 0, 1) := by decide +kernel
theorem d_X12_findHere_16 : decode (D_X12_findHere).2.1 16 = .ok (.invokevirtual 176, 3) := by decide +kernel
theorem d_X12_findHere_19 : decode (D_X12_findHere).2.1 19 = .ok (.lcmp, 1) := by decide +kernel
theorem d_X12_findHere_20 : decode (D_X12_findHere).2.1 20 = .ok (.ifCond .ne 5, 3) := by decide +kernel
theorem d_X12_findHere_23 : decode (D_X12_findHere).2.1 23 = .ok (.iload_n 3, 1) := by decide +kernel
theorem d_X12_findHere_24 : decode (D_X12_findHere).2.1 24 = .ok (.ireturn, 1) := by decide +kernel
theorem d_X12_findHere_25 : decode (D_X12_findHere).2.1 25 = .ok (.iinc 3 1, 3) := by decide +kernel
theorem d_X12_findHere_28 : decode (D_X12_findHere).2.1 28 = .ok (.goto (-26), 3) := by decide +kernel
theorem d_X12_findHere_31 : decode (D_X12_findHere).2.1 31 = .ok (.iconst (-1), 1) := by decide +kernel
theorem d_X12_findHere_32 : decode (D_X12_findHere).2.1 32 = .ok (.ireturn, 1) := by decide +kernel
def f_X12_findHere_L2 (n : Nat) : Nat → Int → Int → Int → JMem → Option (Int × JMem)
  | 0, _, _, _, _ => none
  | k + 1, v1, v2, v3, M => if jw v2 ≤ jw v3 then (some ((-1), M)) else (chk (jin (v1 + v3) 132) <| bnd (f_X12_nameHere n M) fun r1 M2 => if jw (jcmp (M 169 (jw (v1 + v3)).toNat) r1) = 0 then (some (v3, M2)) else (letv (v3 + 1) fun y3 => (f_X12_findHere_L2 n k) v1 v2 y3 M2))
set_option maxRecDepth 4000 in
theorem t_X12_findHere_L2 {g : JG} {ad : Nat → Nat} (hs : jStr g ad) (n : Nat) : ∀ (k : Nat) (v1 v2 v3 : Int) (M : JMem), jB g D_X12_findHere ad 2 [some (.ref 167), some (ji v1), some (ji v2), some (ji v3)] [] M (f_X12_findHere_L2 n k v1 v2 v3 M) := by
  intro k
  induction k with
  | zero => intro v1 v2 v3 M; exact jO.none
  | succ k ih =>
    intro v1 v2 v3 M
    rw [f_X12_findHere_L2]
    refine jo_iload 3 d_X12_findHere_2 rfl rfl ?_
    refine jo_iload 2 d_X12_findHere_3 rfl rfl ?_
    refine jo_icmp_ge 31 d_X12_findHere_4 (by decide) ?_ ?_
    · skip
      refine jo_iconst (-1) d_X12_findHere_31 ?_
      exact jo_iret rfl d_X12_findHere_32
    · skip
      refine jo_aload 0 d_X12_findHere_7 rfl rfl ?_
      refine jo_getR (k := 1) cl_12 (Nat.le_of_ble_eq_true rfl) lk_X12_13 rfl kc_167 kr_167_1 d_X12_findHere_8 ?_
      refine jo_iload 1 d_X12_findHere_11 rfl rfl ?_
      refine jo_iload 3 d_X12_findHere_12 rfl rfl ?_
      refine jo_iadd d_X12_findHere_13 ?_
      refine jo_lald (N := 132) kc_169 d_X12_findHere_14 ?_
      refine jo_aload 0 d_X12_findHere_15 rfl rfl ?_
      refine jo_callV (st := [jl (M 169 (jw (v1 + v3)).toNat)]) (m_X12_nameHere hs n M) ok_X12_nameHere (And.intro (Nat.le_of_ble_eq_true rfl) (Nat.le_of_ble_eq_true rfl)) lm_X12_176 in_X12_nameHere se_X12_nameHere rfl kc_167 rfl rfl (And.intro (Nat.zero_le _) (Nat.zero_le _)) rfl (Nat.le_of_ble_eq_true rfl) d_X12_findHere_16 (fun r1 M2 => ?_)
      refine jo_lcmp d_X12_findHere_19 ?_
      refine jo_if_ne 25 d_X12_findHere_20 (by decide) ?_ ?_
      · skip
        refine jo_iinc 3 d_X12_findHere_25 rfl (Nat.le_of_ble_eq_true rfl) (fun y3 => ?_)
        refine jo_goto 2 d_X12_findHere_28 (by decide) ?_
        exact jO.sub (ih v1 v2 y3 M2) (And.intro rfl (And.intro rfl (And.intro rfl (And.intro rfl True.intro))))
      · skip
        refine jo_iload 3 d_X12_findHere_23 rfl rfl ?_
        exact jo_iret rfl d_X12_findHere_24
def f_X12_findHere (n : Nat) (x1 : Int) (x2 : Int) (M : JMem) : Option (Int × JMem) := letv 0 fun y1 => f_X12_findHere_L2 n n x1 x2 y1 M
set_option maxRecDepth 4000 in
theorem t_X12_findHere {g : JG} {ad : Nat → Nat} (hs : jStr g ad) (n : Nat) (x1 : Int) (x2 : Int) (M : JMem) : jB g D_X12_findHere ad 0 [some (.ref 167), some (ji x1), some (ji x2), none] [] M (f_X12_findHere n x1 x2 M) := by
  unfold f_X12_findHere
  refine jo_iconst 0 d_X12_findHere_0 ?_
  refine jo_istore 3 d_X12_findHere_1 rfl (Nat.le_of_ble_eq_true rfl) (fun y1 => ?_)
  exact jO.sub (t_X12_findHere_L2 hs n n x1 x2 y1 M) (And.intro rfl (And.intro rfl (And.intro rfl (And.intro rfl True.intro))))
theorem m_X12_findHere {g : JG} {ad : Nat → Nat} (hs : jStr g ad) (n : Nat) (x1 : Int) (x2 : Int) (M : JMem) : jMet g jNN ad jR D_X12_findHere yX12_findHere [.ref 167, ji x1, ji x2] M (f_X12_findHere n x1 x2 M) :=
  jMet.of (lo0 := [some (.ref 167), some (ji x1), some (ji x2), none]) (by decide) rfl rfl (Nat.le_of_ble_eq_true rfl) (And.intro rfl (And.intro rfl (And.intro rfl True.intro))) (t_X12_findHere hs n x1 x2 M)
/-! CageLeaveModel.newOne(III)Z -/
def D_X12_newOne : JD := (RX12, cX12_newOne, 4, some .boolean, "newOne", { frames := 8, cells := 0, slots := 0, locals := 197 })
theorem ok_X12_newOne : jOk D_X12_newOne yX12_newOne 3 := ⟨jTW_mem (k := 1599) (by decide +kernel) rfl, jTW_mem (k := 151) (by decide +kernel) rfl, ⟨by decide +kernel, by decide +kernel⟩, by decide +kernel, rfl, rfl⟩
theorem in_X12_newOne : Cond.instanceMethod yX12_newOne ∈ jTW := jTW_mem (k := 1598) (by decide +kernel) rfl
theorem se_X12_newOne : Cond.selects yX12_newOne.cls yX12_newOne yX12_newOne ∈ jTW := jTW_mem (k := 60) (by decide +kernel) rfl
theorem lk_X12_7 : Cond.fieldLink RX12 7 (TX12 0).1 (TX12 0).2.1 (TX12 0).2.2.1 ∈ jTW := jTW_mem (k := 1376) (by decide +kernel) rfl
theorem lm_X12_163 : Cond.methodLink RX12 163 yX12_ahead ∈ jTW := jTW_mem (k := 1557) (by decide +kernel) rfl
theorem lm_X12_169 : Cond.methodLink RX12 169 yX12_fails ∈ jTW := jTW_mem (k := 1588) (by decide +kernel) rfl
theorem lm_X12_182 : Cond.methodLink RX12 182 yX12_isName ∈ jTW := jTW_mem (k := 1600) (by decide +kernel) rfl
theorem lm_X12_186 : Cond.methodLink RX12 186 yX12_findHere ∈ jTW := jTW_mem (k := 1604) (by decide +kernel) rfl
theorem d_X12_newOne_0 : decode (D_X12_newOne).2.1 0 = .ok (.aload_n 0, 1) := by decide +kernel
theorem d_X12_newOne_1 : decode (D_X12_newOne).2.1 1 = .ok (.getfield 7, 3) := by decide +kernel
theorem d_X12_newOne_4 : decode (D_X12_newOne).2.1 4 = .ok (.sipush 2016, 3) := by decide +kernel
theorem d_X12_newOne_7 : decode (D_X12_newOne).2.1 7 = .ok (.iload_n 1, 1) := by decide +kernel
theorem d_X12_newOne_8 : decode (D_X12_newOne).2.1 8 = .ok (.iadd, 1) := by decide +kernel
theorem d_X12_newOne_9 : decode (D_X12_newOne).2.1 9 = .ok (.iaload, 1) := by decide +kernel
theorem d_X12_newOne_10 : decode (D_X12_newOne).2.1 10 = .ok (.iload_n 2, 1) := by decide +kernel
theorem d_X12_newOne_11 : decode (D_X12_newOne).2.1 11 = .ok (.if_icmp .ne 10, 3) := by decide +kernel
theorem d_X12_newOne_14 : decode (D_X12_newOne).2.1 14 = .ok (.aload_n 0, 1) := by decide +kernel
theorem d_X12_newOne_15 : decode (D_X12_newOne).2.1 15 = .ok (.bipush 6, 2) := by decide +kernel
theorem d_X12_newOne_17 : decode (D_X12_newOne).2.1 17 = .ok (.invokevirtual 169, 3) := by decide +kernel
theorem d_X12_newOne_20 : decode (D_X12_newOne).2.1 20 = .ok (.ireturn, 1) := by decide +kernel
theorem d_X12_newOne_21 : decode (D_X12_newOne).2.1 21 = .ok (.aload_n 0, 1) := by decide +kernel
theorem d_X12_newOne_22 : decode (D_X12_newOne).2.1 22 = .ok (.invokevirtual 163, 3) := by decide +kernel
theorem d_X12_newOne_25 : decode (D_X12_newOne).2.1 25 = .ok (.aload_n 0, 1) := by decide +kernel
theorem d_X12_newOne_26 : decode (D_X12_newOne).2.1 26 = .ok (.ldc 180, 2) := by decide +kernel
theorem d_X12_newOne_28 : decode (D_X12_newOne).2.1 28 = .ok (.invokevirtual 182, 3) := by decide +kernel
theorem d_X12_newOne_31 : decode (D_X12_newOne).2.1 31 = .ok (.ifCond .ne 9, 3) := by decide +kernel
theorem d_X12_newOne_34 : decode (D_X12_newOne).2.1 34 = .ok (.aload_n 0, 1) := by decide +kernel
theorem d_X12_newOne_35 : decode (D_X12_newOne).2.1 35 = .ok (.iconst 2, 1) := by decide +kernel
theorem d_X12_newOne_36 : decode (D_X12_newOne).2.1 36 = .ok (.invokevirtual 169, 3) := by decide +kernel
theorem d_X12_newOne_39 : decode (D_X12_newOne).2.1 39 = .ok (.ireturn, 1) := by decide +kernel
theorem d_X12_newOne_40 : decode (D_X12_newOne).2.1 40 = .ok (.aload_n 0, 1) := by decide +kernel
theorem d_X12_newOne_41 : decode (D_X12_newOne).2.1 41 = .ok (.bipush 88, 2) := by decide +kernel
theorem d_X12_newOne_43 : decode (D_X12_newOne).2.1 43 = .ok (.aload_n 0, 1) := by decide +kernel
theorem d_X12_newOne_44 : decode (D_X12_newOne).2.1 44 = .ok (.getfield 7, 3) := by decide +kernel
theorem d_X12_newOne_47 : decode (D_X12_newOne).2.1 47 = .ok (.sipush 2016, 3) := by decide +kernel
theorem d_X12_newOne_50 : decode (D_X12_newOne).2.1 50 = .ok (.iaload, 1) := by decide +kernel
theorem d_X12_newOne_51 : decode (D_X12_newOne).2.1 51 = .ok (.invokevirtual 186, 3) := by decide +kernel
theorem d_X12_newOne_54 : decode (D_X12_newOne).2.1 54 = .ok (.iconst (-1), 1) := by decide +kernel
theorem d_X12_newOne_55 : decode (D_X12_newOne).2.1 55 = .ok (.if_icmp .ne 39, 3) := by decide +kernel
theorem d_X12_newOne_58 : decode (D_X12_newOne).2.1 58 = .ok (.aload_n 0, 1) := by decide +kernel
theorem d_X12_newOne_59 : decode (D_X12_newOne).2.1 59 = .ok (.bipush 94, 2) := by decide +kernel
theorem d_X12_newOne_61 : decode (D_X12_newOne).2.1 61 = .ok (.aload_n 0, 1) := by decide +kernel
theorem d_X12_newOne_62 : decode (D_X12_newOne).2.1 62 = .ok (.getfield 7, 3) := by decide +kernel
theorem d_X12_newOne_65 : decode (D_X12_newOne).2.1 65 = .ok (.sipush 2017, 3) := by decide +kernel
theorem d_X12_newOne_68 : decode (D_X12_newOne).2.1 68 = .ok (.iaload, 1) := by decide +kernel
theorem d_X12_newOne_69 : decode (D_X12_newOne).2.1 69 = .ok (.invokevirtual 186, 3) := by decide +kernel
theorem d_X12_newOne_72 : decode (D_X12_newOne).2.1 72 = .ok (.iconst (-1), 1) := by decide +kernel
theorem d_X12_newOne_73 : decode (D_X12_newOne).2.1 73 = .ok (.if_icmp .ne 21, 3) := by decide +kernel
theorem d_X12_newOne_76 : decode (D_X12_newOne).2.1 76 = .ok (.aload_n 0, 1) := by decide +kernel
theorem d_X12_newOne_77 : decode (D_X12_newOne).2.1 77 = .ok (.bipush 102, 2) := by decide +kernel
theorem d_X12_newOne_79 : decode (D_X12_newOne).2.1 79 = .ok (.aload_n 0, 1) := by decide +kernel
theorem d_X12_newOne_80 : decode (D_X12_newOne).2.1 80 = .ok (.getfield 7, 3) := by decide +kernel
theorem d_X12_newOne_83 : decode (D_X12_newOne).2.1 83 = .ok (.sipush 2018, 3) := by decide +kernel
theorem d_X12_newOne_86 : decode (D_X12_newOne).2.1 86 = .ok (.iaload, 1) := by decide +kernel
theorem d_X12_newOne_87 : decode (D_X12_newOne).2.1 87 = .ok (.invokevirtual 186, 3) := by decide +kernel
theorem d_X12_newOne_90 : decode (D_X12_newOne).2.1 90 = .ok (.iconst (-1), 1) := by decide +kernel
theorem d_X12_newOne_91 : decode (D_X12_newOne).2.1 91 = .ok (.if_icmp .eq 9, 3) := by decide +kernel
theorem d_X12_newOne_94 : decode (D_X12_newOne).2.1 94 = .ok (.aload_n 0, 1) := by decide +kernel
theorem d_X12_newOne_95 : decode (D_X12_newOne).2.1 95 = .ok (.iconst 3, 1) := by decide +kernel
theorem d_X12_newOne_96 : decode (D_X12_newOne).2.1 96 = .ok (.invokevirtual 169, 3) := by decide +kernel
theorem d_X12_newOne_99 : decode (D_X12_newOne).2.1 99 = .ok (.ireturn, 1) := by decide +kernel
theorem d_X12_newOne_100 : decode (D_X12_newOne).2.1 100 = .ok (.iload_n 3, 1) := by decide +kernel
theorem d_X12_newOne_101 : decode (D_X12_newOne).2.1 101 = .ok (.bipush 14, 2) := by decide +kernel
theorem d_X12_newOne_103 : decode (D_X12_newOne).2.1 103 = .ok (.if_icmp .ne 20, 3) := by decide +kernel
theorem d_X12_newOne_106 : decode (D_X12_newOne).2.1 106 = .ok (.aload_n 0, 1) := by decide +kernel
theorem d_X12_newOne_107 : decode (D_X12_newOne).2.1 107 = .ok (.getfield 7, 3) := by decide +kernel
theorem d_X12_newOne_110 : decode (D_X12_newOne).2.1 110 = .ok (.sipush 2016, 3) := by decide +kernel
theorem d_X12_newOne_113 : decode (D_X12_newOne).2.1 113 = .ok (.iaload, 1) := by decide +kernel
theorem d_X12_newOne_114 : decode (D_X12_newOne).2.1 114 = .ok (.ifCond .ne 9, 3) := by decide +kernel
theorem d_X12_newOne_117 : decode (D_X12_newOne).2.1 117 = .ok (.aload_n 0, 1) := by decide +kernel
theorem d_X12_newOne_118 : decode (D_X12_newOne).2.1 118 = .ok (.iconst 3, 1) := by decide +kernel
theorem d_X12_newOne_119 : decode (D_X12_newOne).2.1 119 = .ok (.invokevirtual 169, 3) := by decide +kernel
theorem d_X12_newOne_122 : decode (D_X12_newOne).2.1 122 = .ok (.ireturn, 1) := by decide +kernel
theorem d_X12_newOne_123 : decode (D_X12_newOne).2.1 123 = .ok (.aload_n 0, 1) := by decide +kernel
theorem d_X12_newOne_124 : decode (D_X12_newOne).2.1 124 = .ok (.getfield 13, 3) := by decide +kernel
theorem d_X12_newOne_127 : decode (D_X12_newOne).2.1 127 = .ok (.bipush 88, 2) := by decide +kernel
theorem d_X12_newOne_129 : decode (D_X12_newOne).2.1 129 = .ok (.iload_n 3, 1) := by decide +kernel
theorem d_X12_newOne_130 : decode (D_X12_newOne).2.1 130 = .ok (.iadd, 1) := by decide +kernel
theorem d_X12_newOne_131 : decode (D_X12_newOne).2.1 131 = .ok (.aload_n 0, 1) := by decide +kernel
theorem d_X12_newOne_132 : decode (D_X12_newOne).2.1 132 = .ok (.getfield 7, 3) := by decide +kernel
theorem d_X12_newOne_135 : decode (D_X12_newOne).2.1 135 = .ok (.sipush 2016, 3) := by decide +kernel
theorem d_X12_newOne_138 : decode (D_X12_newOne).2.1 138 = .ok (.iload_n 1, 1) := by decide +kernel
theorem d_X12_newOne_139 : decode (D_X12_newOne).2.1 139 = .ok (.iadd, 1) := by decide +kernel
theorem d_X12_newOne_140 : decode (D_X12_newOne).2.1 140 = .ok (.iaload, 1) := by decide +kernel
theorem d_X12_newOne_141 : decode (D_X12_newOne).2.1 141 = .ok (.iadd, 1) := by decide +kernel
theorem d_X12_newOne_142 : decode (D_X12_newOne).2.1 142 = .ok (.aload_n 0, 1) := by decide +kernel
theorem d_X12_newOne_143 : decode (D_X12_newOne).2.1 143 = .ok (.invokevirtual 176, 3) := by decide +kernel
theorem d_X12_newOne_146 : decode (D_X12_newOne).2.1 146 = .ok (.lastore, 1) := by decide +kernel
theorem d_X12_newOne_147 : decode (D_X12_newOne).2.1 147 = .ok (.aload_n 0, 1) := by decide +kernel
theorem d_X12_newOne_148 : decode (D_X12_newOne).2.1 148 = .ok (.invokevirtual 163, 3) := by decide +kernel
theorem d_X12_newOne_151 : decode (D_X12_newOne).2.1 151 = .ok (.iconst 1, 1) := by decide +kernel
theorem d_X12_newOne_152 : decode (D_X12_newOne).2.1 152 = .ok (.ireturn, 1) := by decide +kernel
def f_X12_newOne_L94 (n : Nat) (M : JMem) : Option (Int × JMem) := bnd (f_X12_fails n 3 M) fun r1 M2 => chk (jw r1 = 0 ∨ jw r1 = 1) (some (r1, M2))
set_option maxRecDepth 4000 in
theorem t_X12_newOne_L94 {g : JG} {ad : Nat → Nat} (hs : jStr g ad) (n : Nat) (M : JMem) : jB g D_X12_newOne ad 94 [some (.ref 167), none, none, none] [] M (f_X12_newOne_L94 n M) := by
  unfold f_X12_newOne_L94
  refine jo_aload 0 d_X12_newOne_94 rfl rfl ?_
  refine jo_iconst 3 d_X12_newOne_95 ?_
  refine jo_callV (st := []) (m_X12_fails hs n 3 M) ok_X12_fails (And.intro (Nat.le_of_ble_eq_true rfl) (Nat.le_of_ble_eq_true rfl)) lm_X12_169 in_X12_fails se_X12_fails rfl kc_167 rfl rfl (And.intro (Nat.zero_le _) (Nat.zero_le _)) rfl (Nat.le_of_ble_eq_true rfl) d_X12_newOne_96 (fun r1 M2 => ?_)
  exact jo_zretq rfl d_X12_newOne_99
def f_X12_newOne_L123 (n : Nat) (v1 v3 : Int) (M : JMem) : Option (Int × JMem) := chk (jin (2016 + v1) 3160) <| bnd (f_X12_nameHere n M) fun r1 M2 => chk (jin ((88 + v3) + (M 168 (jw (2016 + v1)).toNat)) 132) <| letm (jup M2 169 (jw ((88 + v3) + (M 168 (jw (2016 + v1)).toNat))).toNat r1) fun M3 => bnd (f_X12_ahead n M3) fun _ M5 => some (1, M5)
set_option maxRecDepth 4000 in
theorem t_X12_newOne_L123 {g : JG} {ad : Nat → Nat} (hs : jStr g ad) (n : Nat) (v1 v3 : Int) (M : JMem) : jB g D_X12_newOne ad 123 [some (.ref 167), some (ji v1), none, some (ji v3)] [] M (f_X12_newOne_L123 n v1 v3 M) := by
  unfold f_X12_newOne_L123
  refine jo_aload 0 d_X12_newOne_123 rfl rfl ?_
  refine jo_getR (k := 1) cl_12 (Nat.le_of_ble_eq_true rfl) lk_X12_13 rfl kc_167 kr_167_1 d_X12_newOne_124 ?_
  refine jo_bipush 88 d_X12_newOne_127 (by decide) ?_
  refine jo_iload 3 d_X12_newOne_129 rfl rfl ?_
  refine jo_iadd d_X12_newOne_130 ?_
  refine jo_aload 0 d_X12_newOne_131 rfl rfl ?_
  refine jo_getR (k := 0) cl_12 (Nat.le_of_ble_eq_true rfl) lk_X12_7 rfl kc_167 kr_167_0 d_X12_newOne_132 ?_
  refine jo_sipush 2016 d_X12_newOne_135 (by decide) ?_
  refine jo_iload 1 d_X12_newOne_138 rfl rfl ?_
  refine jo_iadd d_X12_newOne_139 ?_
  refine jo_iald (N := 3160) kc_168 d_X12_newOne_140 ?_
  refine jo_iadd d_X12_newOne_141 ?_
  refine jo_aload 0 d_X12_newOne_142 rfl rfl ?_
  refine jo_callV (st := [ji ((88 + v3) + (M 168 (jw (2016 + v1)).toNat)), .ref 169]) (m_X12_nameHere hs n M) ok_X12_nameHere (And.intro (Nat.le_of_ble_eq_true rfl) (Nat.le_of_ble_eq_true rfl)) lm_X12_176 in_X12_nameHere se_X12_nameHere rfl kc_167 rfl rfl (And.intro (Nat.zero_le _) (Nat.zero_le _)) rfl (Nat.le_of_ble_eq_true rfl) d_X12_newOne_143 (fun r1 M2 => ?_)
  refine jo_last (N := 132) kc_169 d_X12_newOne_146 (fun M3 => ?_)
  refine jo_aload 0 d_X12_newOne_147 rfl rfl ?_
  refine jo_callV (st := []) (m_X12_ahead hs n M3) ok_X12_ahead (And.intro (Nat.le_of_ble_eq_true rfl) (Nat.le_of_ble_eq_true rfl)) lm_X12_163 in_X12_ahead se_X12_ahead rfl kc_167 rfl rfl (And.intro (Nat.zero_le _) (Nat.zero_le _)) rfl (Nat.le_of_ble_eq_true rfl) d_X12_newOne_148 (fun _ M5 => ?_)
  refine jo_iconst 1 d_X12_newOne_151 ?_
  exact jo_zret rfl (by decide) d_X12_newOne_152
def f_X12_newOne (n : Nat) (x1 : Int) (x2 : Int) (x3 : Int) (M : JMem) : Option (Int × JMem) := chk (jin (2016 + x1) 3160) <| if jw (M 168 (jw (2016 + x1)).toNat) = jw x2 then (bnd (f_X12_fails n 6 M) fun r15 M16 => chk (jw r15 = 0 ∨ jw r15 = 1) (some (r15, M16))) else (bnd (f_X12_ahead n M) fun _ M2 => bnd (f_X12_isName n M2) fun r3 M4 => if jw r3 = 0 then (bnd (f_X12_fails n 2 M4) fun r13 M14 => chk (jw r13 = 0 ∨ jw r13 = 1) (some (r13, M14))) else (chk (jin 2016 3160) <| bnd (f_X12_findHere n 88 (M4 168 (jw 2016).toNat) M4) fun r5 M6 => if jw r5 = jw (-1) then (chk (jin 2017 3160) <| bnd (f_X12_findHere n 94 (M6 168 (jw 2017).toNat) M6) fun r7 M8 => if jw r7 = jw (-1) then (chk (jin 2018 3160) <| bnd (f_X12_findHere n 102 (M8 168 (jw 2018).toNat) M8) fun r9 M10 => if jw r9 = jw (-1) then (if jw x3 = jw 14 then (chk (jin 2016 3160) <| if jw (M10 168 (jw 2016).toNat) = 0 then (bnd (f_X12_fails n 3 M10) fun r11 M12 => chk (jw r11 = 0 ∨ jw r11 = 1) (some (r11, M12))) else (f_X12_newOne_L123 n x1 x3 M10)) else (f_X12_newOne_L123 n x1 x3 M10)) else (f_X12_newOne_L94 n M10)) else (f_X12_newOne_L94 n M8)) else (f_X12_newOne_L94 n M6)))
set_option maxRecDepth 4000 in
theorem t_X12_newOne {g : JG} {ad : Nat → Nat} (hs : jStr g ad) (n : Nat) (x1 : Int) (x2 : Int) (x3 : Int) (M : JMem) : jB g D_X12_newOne ad 0 [some (.ref 167), some (ji x1), some (ji x2), some (ji x3)] [] M (f_X12_newOne n x1 x2 x3 M) := by
  unfold f_X12_newOne
  refine jo_aload 0 d_X12_newOne_0 rfl rfl ?_
  refine jo_getR (k := 0) cl_12 (Nat.le_of_ble_eq_true rfl) lk_X12_7 rfl kc_167 kr_167_0 d_X12_newOne_1 ?_
  refine jo_sipush 2016 d_X12_newOne_4 (by decide) ?_
  refine jo_iload 1 d_X12_newOne_7 rfl rfl ?_
  refine jo_iadd d_X12_newOne_8 ?_
  refine jo_iald (N := 3160) kc_168 d_X12_newOne_9 ?_
  refine jo_iload 2 d_X12_newOne_10 rfl rfl ?_
  refine jo_icmp_ne 21 d_X12_newOne_11 (by decide) ?_ ?_
  · skip
    refine jo_aload 0 d_X12_newOne_21 rfl rfl ?_
    refine jo_callV (st := []) (m_X12_ahead hs n M) ok_X12_ahead (And.intro (Nat.le_of_ble_eq_true rfl) (Nat.le_of_ble_eq_true rfl)) lm_X12_163 in_X12_ahead se_X12_ahead rfl kc_167 rfl rfl (And.intro (Nat.zero_le _) (Nat.zero_le _)) rfl (Nat.le_of_ble_eq_true rfl) d_X12_newOne_22 (fun _ M2 => ?_)
    refine jo_aload 0 d_X12_newOne_25 rfl rfl ?_
    refine jo_ldcS hs d_X12_newOne_26 ?_
    refine jo_callV (st := []) (m_X12_isName hs n M2) ok_X12_isName (And.intro (Nat.le_of_ble_eq_true rfl) (Nat.le_of_ble_eq_true rfl)) lm_X12_182 in_X12_isName se_X12_isName rfl kc_167 rfl rfl (And.intro (Nat.zero_le _) (Nat.zero_le _)) rfl (Nat.le_of_ble_eq_true rfl) d_X12_newOne_28 (fun r3 M4 => ?_)
    refine jo_if_ne 40 d_X12_newOne_31 (by decide) ?_ ?_
    · skip
      refine jo_aload 0 d_X12_newOne_40 rfl rfl ?_
      refine jo_bipush 88 d_X12_newOne_41 (by decide) ?_
      refine jo_aload 0 d_X12_newOne_43 rfl rfl ?_
      refine jo_getR (k := 0) cl_12 (Nat.le_of_ble_eq_true rfl) lk_X12_7 rfl kc_167 kr_167_0 d_X12_newOne_44 ?_
      refine jo_sipush 2016 d_X12_newOne_47 (by decide) ?_
      refine jo_iald (N := 3160) kc_168 d_X12_newOne_50 ?_
      refine jo_callV (st := []) (m_X12_findHere hs n 88 (M4 168 (jw 2016).toNat) M4) ok_X12_findHere (And.intro (Nat.le_of_ble_eq_true rfl) (Nat.le_of_ble_eq_true rfl)) lm_X12_186 in_X12_findHere se_X12_findHere rfl kc_167 rfl rfl (And.intro (Nat.zero_le _) (Nat.zero_le _)) rfl (Nat.le_of_ble_eq_true rfl) d_X12_newOne_51 (fun r5 M6 => ?_)
      refine jo_iconst (-1) d_X12_newOne_54 ?_
      refine jo_icmp_ne 94 d_X12_newOne_55 (by decide) ?_ ?_
      · skip
        exact jO.sub (t_X12_newOne_L94 hs n M6) (And.intro rfl True.intro)
      · skip
        refine jo_aload 0 d_X12_newOne_58 rfl rfl ?_
        refine jo_bipush 94 d_X12_newOne_59 (by decide) ?_
        refine jo_aload 0 d_X12_newOne_61 rfl rfl ?_
        refine jo_getR (k := 0) cl_12 (Nat.le_of_ble_eq_true rfl) lk_X12_7 rfl kc_167 kr_167_0 d_X12_newOne_62 ?_
        refine jo_sipush 2017 d_X12_newOne_65 (by decide) ?_
        refine jo_iald (N := 3160) kc_168 d_X12_newOne_68 ?_
        refine jo_callV (st := []) (m_X12_findHere hs n 94 (M6 168 (jw 2017).toNat) M6) ok_X12_findHere (And.intro (Nat.le_of_ble_eq_true rfl) (Nat.le_of_ble_eq_true rfl)) lm_X12_186 in_X12_findHere se_X12_findHere rfl kc_167 rfl rfl (And.intro (Nat.zero_le _) (Nat.zero_le _)) rfl (Nat.le_of_ble_eq_true rfl) d_X12_newOne_69 (fun r7 M8 => ?_)
        refine jo_iconst (-1) d_X12_newOne_72 ?_
        refine jo_icmp_ne 94 d_X12_newOne_73 (by decide) ?_ ?_
        · skip
          exact jO.sub (t_X12_newOne_L94 hs n M8) (And.intro rfl True.intro)
        · skip
          refine jo_aload 0 d_X12_newOne_76 rfl rfl ?_
          refine jo_bipush 102 d_X12_newOne_77 (by decide) ?_
          refine jo_aload 0 d_X12_newOne_79 rfl rfl ?_
          refine jo_getR (k := 0) cl_12 (Nat.le_of_ble_eq_true rfl) lk_X12_7 rfl kc_167 kr_167_0 d_X12_newOne_80 ?_
          refine jo_sipush 2018 d_X12_newOne_83 (by decide) ?_
          refine jo_iald (N := 3160) kc_168 d_X12_newOne_86 ?_
          refine jo_callV (st := []) (m_X12_findHere hs n 102 (M8 168 (jw 2018).toNat) M8) ok_X12_findHere (And.intro (Nat.le_of_ble_eq_true rfl) (Nat.le_of_ble_eq_true rfl)) lm_X12_186 in_X12_findHere se_X12_findHere rfl kc_167 rfl rfl (And.intro (Nat.zero_le _) (Nat.zero_le _)) rfl (Nat.le_of_ble_eq_true rfl) d_X12_newOne_87 (fun r9 M10 => ?_)
          refine jo_iconst (-1) d_X12_newOne_90 ?_
          refine jo_icmp_eq 100 d_X12_newOne_91 (by decide) ?_ ?_
          · skip
            refine jo_iload 3 d_X12_newOne_100 rfl rfl ?_
            refine jo_bipush 14 d_X12_newOne_101 (by decide) ?_
            refine jo_icmp_ne 123 d_X12_newOne_103 (by decide) ?_ ?_
            · skip
              exact jO.sub (t_X12_newOne_L123 hs n x1 x3 M10) (And.intro rfl (And.intro rfl (And.intro rfl True.intro)))
            · skip
              refine jo_aload 0 d_X12_newOne_106 rfl rfl ?_
              refine jo_getR (k := 0) cl_12 (Nat.le_of_ble_eq_true rfl) lk_X12_7 rfl kc_167 kr_167_0 d_X12_newOne_107 ?_
              refine jo_sipush 2016 d_X12_newOne_110 (by decide) ?_
              refine jo_iald (N := 3160) kc_168 d_X12_newOne_113 ?_
              refine jo_if_ne 123 d_X12_newOne_114 (by decide) ?_ ?_
              · skip
                exact jO.sub (t_X12_newOne_L123 hs n x1 x3 M10) (And.intro rfl (And.intro rfl (And.intro rfl True.intro)))
              · skip
                refine jo_aload 0 d_X12_newOne_117 rfl rfl ?_
                refine jo_iconst 3 d_X12_newOne_118 ?_
                refine jo_callV (st := []) (m_X12_fails hs n 3 M10) ok_X12_fails (And.intro (Nat.le_of_ble_eq_true rfl) (Nat.le_of_ble_eq_true rfl)) lm_X12_169 in_X12_fails se_X12_fails rfl kc_167 rfl rfl (And.intro (Nat.zero_le _) (Nat.zero_le _)) rfl (Nat.le_of_ble_eq_true rfl) d_X12_newOne_119 (fun r11 M12 => ?_)
                exact jo_zretq rfl d_X12_newOne_122
          · skip
            exact jO.sub (t_X12_newOne_L94 hs n M10) (And.intro rfl True.intro)
    · skip
      refine jo_aload 0 d_X12_newOne_34 rfl rfl ?_
      refine jo_iconst 2 d_X12_newOne_35 ?_
      refine jo_callV (st := []) (m_X12_fails hs n 2 M4) ok_X12_fails (And.intro (Nat.le_of_ble_eq_true rfl) (Nat.le_of_ble_eq_true rfl)) lm_X12_169 in_X12_fails se_X12_fails rfl kc_167 rfl rfl (And.intro (Nat.zero_le _) (Nat.zero_le _)) rfl (Nat.le_of_ble_eq_true rfl) d_X12_newOne_36 (fun r13 M14 => ?_)
      exact jo_zretq rfl d_X12_newOne_39
  · skip
    refine jo_aload 0 d_X12_newOne_14 rfl rfl ?_
    refine jo_bipush 6 d_X12_newOne_15 (by decide) ?_
    refine jo_callV (st := []) (m_X12_fails hs n 6 M) ok_X12_fails (And.intro (Nat.le_of_ble_eq_true rfl) (Nat.le_of_ble_eq_true rfl)) lm_X12_169 in_X12_fails se_X12_fails rfl kc_167 rfl rfl (And.intro (Nat.zero_le _) (Nat.zero_le _)) rfl (Nat.le_of_ble_eq_true rfl) d_X12_newOne_17 (fun r15 M16 => ?_)
    exact jo_zretq rfl d_X12_newOne_20
theorem m_X12_newOne {g : JG} {ad : Nat → Nat} (hs : jStr g ad) (n : Nat) (x1 : Int) (x2 : Int) (x3 : Int) (M : JMem) : jMet g jNN ad jR D_X12_newOne yX12_newOne [.ref 167, ji x1, ji x2, ji x3] M (f_X12_newOne n x1 x2 x3 M) :=
  jMet.of (lo0 := [some (.ref 167), some (ji x1), some (ji x2), some (ji x3)]) (by decide) rfl rfl (Nat.le_of_ble_eq_true rfl) (And.intro rfl (And.intro rfl (And.intro rfl (And.intro rfl True.intro)))) (t_X12_newOne hs n x1 x2 x3 M)
/-! CageLeaveModel.isThere(I)Z -/
def D_X12_isThere : JD := (RX12, cX12_isThere, 2, some .boolean, "isThere", { frames := 7, cells := 0, slots := 0, locals := 176 })
theorem ok_X12_isThere : jOk D_X12_isThere yX12_isThere 1 := ⟨jTW_mem (k := 1631) (by decide +kernel) rfl, jTW_mem (k := 151) (by decide +kernel) rfl, ⟨by decide +kernel, by decide +kernel⟩, by decide +kernel, rfl, rfl⟩
theorem in_X12_isThere : Cond.instanceMethod yX12_isThere ∈ jTW := jTW_mem (k := 1630) (by decide +kernel) rfl
theorem se_X12_isThere : Cond.selects yX12_isThere.cls yX12_isThere yX12_isThere ∈ jTW := jTW_mem (k := 68) (by decide +kernel) rfl
theorem d_X12_isThere_0 : decode (D_X12_isThere).2.1 0 = .ok (.aload_n 0, 1) := by decide +kernel
theorem d_X12_isThere_1 : decode (D_X12_isThere).2.1 1 = .ok (.ldc 180, 2) := by decide +kernel
theorem d_X12_isThere_3 : decode (D_X12_isThere).2.1 3 = .ok (.invokevirtual 172, 3) := by decide +kernel
theorem d_X12_isThere_6 : decode (D_X12_isThere).2.1 6 = .ok (.iload_n 1, 1) := by decide +kernel
theorem d_X12_isThere_7 : decode (D_X12_isThere).2.1 7 = .ok (.if_icmp .eq 5, 3) := by decide +kernel
theorem d_X12_isThere_10 : decode (D_X12_isThere).2.1 10 = .ok (.iconst 0, 1) := by decide +kernel
theorem d_X12_isThere_11 : decode (D_X12_isThere).2.1 11 = .ok (.ireturn, 1) := by decide +kernel
theorem d_X12_isThere_12 : decode (D_X12_isThere).2.1 12 = .ok (.aload_n 0, 1) := by decide +kernel
theorem d_X12_isThere_13 : decode (D_X12_isThere).2.1 13 = .ok (.invokevirtual 163, 3) := by decide +kernel
theorem d_X12_isThere_16 : decode (D_X12_isThere).2.1 16 = .ok (.iconst 1, 1) := by decide +kernel
theorem d_X12_isThere_17 : decode (D_X12_isThere).2.1 17 = .ok (.ireturn, 1) := by decide +kernel
def f_X12_isThere (n : Nat) (x1 : Int) (M : JMem) : Option (Int × JMem) := bnd (f_X12_inWords n M) fun r1 M2 => if jw r1 = jw x1 then (bnd (f_X12_ahead n M2) fun _ M4 => some (1, M4)) else (some (0, M2))
set_option maxRecDepth 4000 in
theorem t_X12_isThere {g : JG} {ad : Nat → Nat} (hs : jStr g ad) (n : Nat) (x1 : Int) (M : JMem) : jB g D_X12_isThere ad 0 [some (.ref 167), some (ji x1)] [] M (f_X12_isThere n x1 M) := by
  unfold f_X12_isThere
  refine jo_aload 0 d_X12_isThere_0 rfl rfl ?_
  refine jo_ldcS hs d_X12_isThere_1 ?_
  refine jo_callV (st := []) (m_X12_inWords hs n M) ok_X12_inWords (And.intro (Nat.le_of_ble_eq_true rfl) (Nat.le_of_ble_eq_true rfl)) lm_X12_172 in_X12_inWords se_X12_inWords rfl kc_167 rfl rfl (And.intro (Nat.zero_le _) (Nat.zero_le _)) rfl (Nat.le_of_ble_eq_true rfl) d_X12_isThere_3 (fun r1 M2 => ?_)
  refine jo_iload 1 d_X12_isThere_6 rfl rfl ?_
  refine jo_icmp_eq 12 d_X12_isThere_7 (by decide) ?_ ?_
  · skip
    refine jo_aload 0 d_X12_isThere_12 rfl rfl ?_
    refine jo_callV (st := []) (m_X12_ahead hs n M2) ok_X12_ahead (And.intro (Nat.le_of_ble_eq_true rfl) (Nat.le_of_ble_eq_true rfl)) lm_X12_163 in_X12_ahead se_X12_ahead rfl kc_167 rfl rfl (And.intro (Nat.zero_le _) (Nat.zero_le _)) rfl (Nat.le_of_ble_eq_true rfl) d_X12_isThere_13 (fun _ M4 => ?_)
    refine jo_iconst 1 d_X12_isThere_16 ?_
    exact jo_zret rfl (by decide) d_X12_isThere_17
  · skip
    refine jo_iconst 0 d_X12_isThere_10 ?_
    exact jo_zret rfl (by decide) d_X12_isThere_11
theorem m_X12_isThere {g : JG} {ad : Nat → Nat} (hs : jStr g ad) (n : Nat) (x1 : Int) (M : JMem) : jMet g jNN ad jR D_X12_isThere yX12_isThere [.ref 167, ji x1] M (f_X12_isThere n x1 M) :=
  jMet.of (lo0 := [some (.ref 167), some (ji x1)]) (by decide) rfl rfl (Nat.le_of_ble_eq_true rfl) (And.intro rfl (And.intro rfl True.intro)) (t_X12_isThere hs n x1 M)
/-! CageLeaveModel.number(III)Z -/
def D_X12_number : JD := (RX12, cX12_number, 4, some .boolean, "number", { frames := 2, cells := 0, slots := 0, locals := 61 })
theorem ok_X12_number : jOk D_X12_number yX12_number 3 := ⟨jTW_mem (k := 1595) (by decide +kernel) rfl, jTW_mem (k := 151) (by decide +kernel) rfl, ⟨by decide +kernel, by decide +kernel⟩, by decide +kernel, rfl, rfl⟩
theorem in_X12_number : Cond.instanceMethod yX12_number ∈ jTW := jTW_mem (k := 1594) (by decide +kernel) rfl
theorem se_X12_number : Cond.selects yX12_number.cls yX12_number yX12_number ∈ jTW := jTW_mem (k := 59) (by decide +kernel) rfl
theorem d_X12_number_0 : decode (D_X12_number).2.1 0 = .ok (.aload_n 0, 1) := by decide +kernel
theorem d_X12_number_1 : decode (D_X12_number).2.1 1 = .ok (.getfield 132, 3) := by decide +kernel
theorem d_X12_number_4 : decode (D_X12_number).2.1 4 = .ok (.iconst 3, 1) := by decide +kernel
theorem d_X12_number_5 : decode (D_X12_number).2.1 5 = .ok (.if_icmp .eq 9, 3) := by decide +kernel
theorem d_X12_number_8 : decode (D_X12_number).2.1 8 = .ok (.aload_n 0, 1) := by decide +kernel
theorem d_X12_number_9 : decode (D_X12_number).2.1 9 = .ok (.iconst 2, 1) := by decide +kernel
theorem d_X12_number_10 : decode (D_X12_number).2.1 10 = .ok (.invokevirtual 169, 3) := by decide +kernel
theorem d_X12_number_13 : decode (D_X12_number).2.1 13 = .ok (.ireturn, 1) := by decide +kernel
theorem d_X12_number_14 : decode (D_X12_number).2.1 14 = .ok (.aload_n 0, 1) := by decide +kernel
theorem d_X12_number_15 : decode (D_X12_number).2.1 15 = .ok (.getfield 129, 3) := by decide +kernel
theorem d_X12_number_18 : decode (D_X12_number).2.1 18 = .ok (.iload_n 2, 1) := by decide +kernel
theorem d_X12_number_19 : decode (D_X12_number).2.1 19 = .ok (.if_icmp .lt 11, 3) := by decide +kernel
theorem d_X12_number_22 : decode (D_X12_number).2.1 22 = .ok (.aload_n 0, 1) := by decide +kernel
theorem d_X12_number_23 : decode (D_X12_number).2.1 23 = .ok (.getfield 129, 3) := by decide +kernel
theorem d_X12_number_26 : decode (D_X12_number).2.1 26 = .ok (.iload_n 3, 1) := by decide +kernel
theorem d_X12_number_27 : decode (D_X12_number).2.1 27 = .ok (.if_icmp .le 9, 3) := by decide +kernel
theorem d_X12_number_30 : decode (D_X12_number).2.1 30 = .ok (.aload_n 0, 1) := by decide +kernel
theorem d_X12_number_31 : decode (D_X12_number).2.1 31 = .ok (.iconst 4, 1) := by decide +kernel
theorem d_X12_number_32 : decode (D_X12_number).2.1 32 = .ok (.invokevirtual 169, 3) := by decide +kernel
theorem d_X12_number_35 : decode (D_X12_number).2.1 35 = .ok (.ireturn, 1) := by decide +kernel
theorem d_X12_number_36 : decode (D_X12_number).2.1 36 = .ok (.aload_n 0, 1) := by decide +kernel
theorem d_X12_number_37 : decode (D_X12_number).2.1 37 = .ok (.getfield 7, 3) := by decide +kernel
theorem d_X12_number_40 : decode (D_X12_number).2.1 40 = .ok (.iload_n 1, 1) := by decide +kernel
theorem d_X12_number_41 : decode (D_X12_number).2.1 41 = .ok (.aload_n 0, 1) := by decide +kernel
theorem d_X12_number_42 : decode (D_X12_number).2.1 42 = .ok (.getfield 129, 3) := by decide +kernel
theorem d_X12_number_45 : decode (D_X12_number).2.1 45 = .ok (.iastore, 1) := by decide +kernel
theorem d_X12_number_46 : decode (D_X12_number).2.1 46 = .ok (.aload_n 0, 1) := by decide +kernel
theorem d_X12_number_47 : decode (D_X12_number).2.1 47 = .ok (.invokevirtual 163, 3) := by decide +kernel
theorem d_X12_number_50 : decode (D_X12_number).2.1 50 = .ok (.iconst 1, 1) := by decide +kernel
theorem d_X12_number_51 : decode (D_X12_number).2.1 51 = .ok (.ireturn, 1) := by decide +kernel
def f_X12_number_L30 (n : Nat) (M : JMem) : Option (Int × JMem) := bnd (f_X12_fails n 4 M) fun r1 M2 => chk (jw r1 = 0 ∨ jw r1 = 1) (some (r1, M2))
set_option maxRecDepth 4000 in
theorem t_X12_number_L30 {g : JG} {ad : Nat → Nat} (hs : jStr g ad) (n : Nat) (M : JMem) : jB g D_X12_number ad 30 [some (.ref 167), none, none, none] [] M (f_X12_number_L30 n M) := by
  unfold f_X12_number_L30
  refine jo_aload 0 d_X12_number_30 rfl rfl ?_
  refine jo_iconst 4 d_X12_number_31 ?_
  refine jo_callV (st := []) (m_X12_fails hs n 4 M) ok_X12_fails (And.intro (Nat.le_of_ble_eq_true rfl) (Nat.le_of_ble_eq_true rfl)) lm_X12_169 in_X12_fails se_X12_fails rfl kc_167 rfl rfl (And.intro (Nat.zero_le _) (Nat.zero_le _)) rfl (Nat.le_of_ble_eq_true rfl) d_X12_number_32 (fun r1 M2 => ?_)
  exact jo_zretq rfl d_X12_number_35
def f_X12_number (n : Nat) (x1 : Int) (x2 : Int) (x3 : Int) (M : JMem) : Option (Int × JMem) := if jw (M 167 12) = jw 3 then (if jw (M 167 15) < jw x2 then (f_X12_number_L30 n M) else (if jw (M 167 15) ≤ jw x3 then (chk (jin x1 3160) <| letm (jup M 168 (jw x1).toNat (M 167 15)) fun M1 => bnd (f_X12_ahead n M1) fun _ M3 => some (1, M3)) else (f_X12_number_L30 n M))) else (bnd (f_X12_fails n 2 M) fun r4 M5 => chk (jw r4 = 0 ∨ jw r4 = 1) (some (r4, M5)))
set_option maxRecDepth 4000 in
theorem t_X12_number {g : JG} {ad : Nat → Nat} (hs : jStr g ad) (n : Nat) (x1 : Int) (x2 : Int) (x3 : Int) (M : JMem) : jB g D_X12_number ad 0 [some (.ref 167), some (ji x1), some (ji x2), some (ji x3)] [] M (f_X12_number n x1 x2 x3 M) := by
  unfold f_X12_number
  refine jo_aload 0 d_X12_number_0 rfl rfl ?_
  refine jo_getI (k := 12) cl_12 (Nat.le_of_ble_eq_true rfl) lk_X12_132 (Or.inl rfl) kc_167 d_X12_number_1 ?_
  refine jo_iconst 3 d_X12_number_4 ?_
  refine jo_icmp_eq 14 d_X12_number_5 (by decide) ?_ ?_
  · skip
    refine jo_aload 0 d_X12_number_14 rfl rfl ?_
    refine jo_getI (k := 15) cl_12 (Nat.le_of_ble_eq_true rfl) lk_X12_129 (Or.inl rfl) kc_167 d_X12_number_15 ?_
    refine jo_iload 2 d_X12_number_18 rfl rfl ?_
    refine jo_icmp_lt 30 d_X12_number_19 (by decide) ?_ ?_
    · skip
      exact jO.sub (t_X12_number_L30 hs n M) (And.intro rfl True.intro)
    · skip
      refine jo_aload 0 d_X12_number_22 rfl rfl ?_
      refine jo_getI (k := 15) cl_12 (Nat.le_of_ble_eq_true rfl) lk_X12_129 (Or.inl rfl) kc_167 d_X12_number_23 ?_
      refine jo_iload 3 d_X12_number_26 rfl rfl ?_
      refine jo_icmp_le 36 d_X12_number_27 (by decide) ?_ ?_
      · skip
        refine jo_aload 0 d_X12_number_36 rfl rfl ?_
        refine jo_getR (k := 0) cl_12 (Nat.le_of_ble_eq_true rfl) lk_X12_7 rfl kc_167 kr_167_0 d_X12_number_37 ?_
        refine jo_iload 1 d_X12_number_40 rfl rfl ?_
        refine jo_aload 0 d_X12_number_41 rfl rfl ?_
        refine jo_getI (k := 15) cl_12 (Nat.le_of_ble_eq_true rfl) lk_X12_129 (Or.inl rfl) kc_167 d_X12_number_42 ?_
        refine jo_iast (N := 3160) kc_168 d_X12_number_45 (fun M1 => ?_)
        refine jo_aload 0 d_X12_number_46 rfl rfl ?_
        refine jo_callV (st := []) (m_X12_ahead hs n M1) ok_X12_ahead (And.intro (Nat.le_of_ble_eq_true rfl) (Nat.le_of_ble_eq_true rfl)) lm_X12_163 in_X12_ahead se_X12_ahead rfl kc_167 rfl rfl (And.intro (Nat.zero_le _) (Nat.zero_le _)) rfl (Nat.le_of_ble_eq_true rfl) d_X12_number_47 (fun _ M3 => ?_)
        refine jo_iconst 1 d_X12_number_50 ?_
        exact jo_zret rfl (by decide) d_X12_number_51
      · skip
        exact jO.sub (t_X12_number_L30 hs n M) (And.intro rfl True.intro)
  · skip
    refine jo_aload 0 d_X12_number_8 rfl rfl ?_
    refine jo_iconst 2 d_X12_number_9 ?_
    refine jo_callV (st := []) (m_X12_fails hs n 2 M) ok_X12_fails (And.intro (Nat.le_of_ble_eq_true rfl) (Nat.le_of_ble_eq_true rfl)) lm_X12_169 in_X12_fails se_X12_fails rfl kc_167 rfl rfl (And.intro (Nat.zero_le _) (Nat.zero_le _)) rfl (Nat.le_of_ble_eq_true rfl) d_X12_number_10 (fun r4 M5 => ?_)
    exact jo_zretq rfl d_X12_number_13
theorem m_X12_number {g : JG} {ad : Nat → Nat} (hs : jStr g ad) (n : Nat) (x1 : Int) (x2 : Int) (x3 : Int) (M : JMem) : jMet g jNN ad jR D_X12_number yX12_number [.ref 167, ji x1, ji x2, ji x3] M (f_X12_number n x1 x2 x3 M) :=
  jMet.of (lo0 := [some (.ref 167), some (ji x1), some (ji x2), some (ji x3)]) (by decide) rfl rfl (Nat.le_of_ble_eq_true rfl) (And.intro rfl (And.intro rfl (And.intro rfl (And.intro rfl True.intro)))) (t_X12_number hs n x1 x2 x3 M)
/-! CageLeaveModel.aBeast()Z -/
def D_X12_aBeast : JD := (RX12, cX12_aBeast, 2, some .boolean, "aBeast", { frames := 9, cells := 0, slots := 0, locals := 220 })
theorem ok_X12_aBeast : jOk D_X12_aBeast yX12_aBeast 0 := ⟨jTW_mem (k := 1635) (by decide +kernel) rfl, jTW_mem (k := 151) (by decide +kernel) rfl, ⟨by decide +kernel, by decide +kernel⟩, by decide +kernel, rfl, rfl⟩
theorem in_X12_aBeast : Cond.instanceMethod yX12_aBeast ∈ jTW := jTW_mem (k := 1634) (by decide +kernel) rfl
theorem se_X12_aBeast : Cond.selects yX12_aBeast.cls yX12_aBeast yX12_aBeast ∈ jTW := jTW_mem (k := 69) (by decide +kernel) rfl
theorem lm_X12_206 : Cond.methodLink RX12 206 yX12_isThere ∈ jTW := jTW_mem (k := 1628) (by decide +kernel) rfl
theorem lm_X12_203 : Cond.methodLink RX12 203 yX12_number ∈ jTW := jTW_mem (k := 1592) (by decide +kernel) rfl
theorem lm_X12_193 : Cond.methodLink RX12 193 yX12_newOne ∈ jTW := jTW_mem (k := 1596) (by decide +kernel) rfl
theorem d_X12_aBeast_0 : decode (D_X12_aBeast).2.1 0 = .ok (.sipush 2072, 3) := by decide +kernel
theorem d_X12_aBeast_3 : decode (D_X12_aBeast).2.1 3 = .ok (.bipush 10, 2) := by decide +kernel
theorem d_X12_aBeast_5 : decode (D_X12_aBeast).2.1 5 = .ok (.aload_n 0, 1) := by decide +kernel
theorem d_X12_aBeast_6 : decode (D_X12_aBeast).2.1 6 = .ok (.getfield 7, 3) := by decide +kernel
theorem d_X12_aBeast_9 : decode (D_X12_aBeast).2.1 9 = .ok (.sipush 2018, 3) := by decide +kernel
theorem d_X12_aBeast_12 : decode (D_X12_aBeast).2.1 12 = .ok (.iaload, 1) := by decide +kernel
theorem d_X12_aBeast_13 : decode (D_X12_aBeast).2.1 13 = .ok (.imul, 1) := by decide +kernel
theorem d_X12_aBeast_14 : decode (D_X12_aBeast).2.1 14 = .ok (.iadd, 1) := by decide +kernel
theorem d_X12_aBeast_15 : decode (D_X12_aBeast).2.1 15 = .ok (.istore_n 1, 1) := by decide +kernel
theorem d_X12_aBeast_16 : decode (D_X12_aBeast).2.1 16 = .ok (.aload_n 0, 1) := by decide +kernel
theorem d_X12_aBeast_17 : decode (D_X12_aBeast).2.1 17 = .ok (.iconst 2, 1) := by decide +kernel
theorem d_X12_aBeast_18 : decode (D_X12_aBeast).2.1 18 = .ok (.bipush 8, 2) := by decide +kernel
theorem d_X12_aBeast_20 : decode (D_X12_aBeast).2.1 20 = .ok (.bipush 14, 2) := by decide +kernel
theorem d_X12_aBeast_22 : decode (D_X12_aBeast).2.1 22 = .ok (.invokevirtual 193, 3) := by decide +kernel
theorem d_X12_aBeast_25 : decode (D_X12_aBeast).2.1 25 = .ok (.ifCond .ne 5, 3) := by decide +kernel
theorem d_X12_aBeast_28 : decode (D_X12_aBeast).2.1 28 = .ok (.iconst 0, 1) := by decide +kernel
theorem d_X12_aBeast_29 : decode (D_X12_aBeast).2.1 29 = .ok (.ireturn, 1) := by decide +kernel
theorem d_X12_aBeast_30 : decode (D_X12_aBeast).2.1 30 = .ok (.aload_n 0, 1) := by decide +kernel
theorem d_X12_aBeast_31 : decode (D_X12_aBeast).2.1 31 = .ok (.getfield 7, 3) := by decide +kernel
theorem d_X12_aBeast_34 : decode (D_X12_aBeast).2.1 34 = .ok (.iload_n 1, 1) := by decide +kernel
theorem d_X12_aBeast_35 : decode (D_X12_aBeast).2.1 35 = .ok (.iconst 1, 1) := by decide +kernel
theorem d_X12_aBeast_36 : decode (D_X12_aBeast).2.1 36 = .ok (.iastore, 1) := by decide +kernel
theorem d_X12_aBeast_37 : decode (D_X12_aBeast).2.1 37 = .ok (.aload_n 0, 1) := by decide +kernel
theorem d_X12_aBeast_38 : decode (D_X12_aBeast).2.1 38 = .ok (.getfield 7, 3) := by decide +kernel
theorem d_X12_aBeast_41 : decode (D_X12_aBeast).2.1 41 = .ok (.iload_n 1, 1) := by decide +kernel
theorem d_X12_aBeast_42 : decode (D_X12_aBeast).2.1 42 = .ok (.iconst 1, 1) := by decide +kernel
theorem d_X12_aBeast_43 : decode (D_X12_aBeast).2.1 43 = .ok (.iadd, 1) := by decide +kernel
theorem d_X12_aBeast_44 : decode (D_X12_aBeast).2.1 44 = .ok (.bipush 8, 2) := by decide +kernel
theorem d_X12_aBeast_46 : decode (D_X12_aBeast).2.1 46 = .ok (.iastore, 1) := by decide +kernel
theorem d_X12_aBeast_47 : decode (D_X12_aBeast).2.1 47 = .ok (.aload_n 0, 1) := by decide +kernel
theorem d_X12_aBeast_48 : decode (D_X12_aBeast).2.1 48 = .ok (.getfield 7, 3) := by decide +kernel
theorem d_X12_aBeast_51 : decode (D_X12_aBeast).2.1 51 = .ok (.iload_n 1, 1) := by decide +kernel
theorem d_X12_aBeast_52 : decode (D_X12_aBeast).2.1 52 = .ok (.bipush 9, 2) := by decide +kernel
theorem d_X12_aBeast_54 : decode (D_X12_aBeast).2.1 54 = .ok (.iadd, 1) := by decide +kernel
theorem d_X12_aBeast_55 : decode (D_X12_aBeast).2.1 55 = .ok (.iconst (-1), 1) := by decide +kernel
theorem d_X12_aBeast_56 : decode (D_X12_aBeast).2.1 56 = .ok (.iastore, 1) := by decide +kernel
theorem d_X12_aBeast_57 : decode (D_X12_aBeast).2.1 57 = .ok (.aload_n 0, 1) := by decide +kernel
theorem d_X12_aBeast_58 : decode (D_X12_aBeast).2.1 58 = .ok (.bipush 11, 2) := by decide +kernel
theorem d_X12_aBeast_60 : decode (D_X12_aBeast).2.1 60 = .ok (.invokevirtual 206, 3) := by decide +kernel
theorem d_X12_aBeast_63 : decode (D_X12_aBeast).2.1 63 = .ok (.ifCond .eq 14, 3) := by decide +kernel
theorem d_X12_aBeast_66 : decode (D_X12_aBeast).2.1 66 = .ok (.aload_n 0, 1) := by decide +kernel
theorem d_X12_aBeast_67 : decode (D_X12_aBeast).2.1 67 = .ok (.iload_n 1, 1) := by decide +kernel
theorem d_X12_aBeast_68 : decode (D_X12_aBeast).2.1 68 = .ok (.iconst 1, 1) := by decide +kernel
theorem d_X12_aBeast_69 : decode (D_X12_aBeast).2.1 69 = .ok (.bipush 9, 2) := by decide +kernel
theorem d_X12_aBeast_71 : decode (D_X12_aBeast).2.1 71 = .ok (.invokevirtual 203, 3) := by decide +kernel
theorem d_X12_aBeast_74 : decode (D_X12_aBeast).2.1 74 = .ok (.ifCond .eq 25, 3) := by decide +kernel
theorem d_X12_aBeast_77 : decode (D_X12_aBeast).2.1 77 = .ok (.aload_n 0, 1) := by decide +kernel
theorem d_X12_aBeast_78 : decode (D_X12_aBeast).2.1 78 = .ok (.bipush 12, 2) := by decide +kernel
theorem d_X12_aBeast_80 : decode (D_X12_aBeast).2.1 80 = .ok (.invokevirtual 206, 3) := by decide +kernel
theorem d_X12_aBeast_83 : decode (D_X12_aBeast).2.1 83 = .ok (.ifCond .eq 18, 3) := by decide +kernel
theorem d_X12_aBeast_86 : decode (D_X12_aBeast).2.1 86 = .ok (.aload_n 0, 1) := by decide +kernel
theorem d_X12_aBeast_87 : decode (D_X12_aBeast).2.1 87 = .ok (.iload_n 1, 1) := by decide +kernel
theorem d_X12_aBeast_88 : decode (D_X12_aBeast).2.1 88 = .ok (.iconst 1, 1) := by decide +kernel
theorem d_X12_aBeast_89 : decode (D_X12_aBeast).2.1 89 = .ok (.iadd, 1) := by decide +kernel
theorem d_X12_aBeast_90 : decode (D_X12_aBeast).2.1 90 = .ok (.iconst 0, 1) := by decide +kernel
theorem d_X12_aBeast_91 : decode (D_X12_aBeast).2.1 91 = .ok (.bipush 16, 2) := by decide +kernel
theorem d_X12_aBeast_93 : decode (D_X12_aBeast).2.1 93 = .ok (.invokevirtual 203, 3) := by decide +kernel
theorem d_X12_aBeast_96 : decode (D_X12_aBeast).2.1 96 = .ok (.ifCond .ne 5, 3) := by decide +kernel
theorem d_X12_aBeast_99 : decode (D_X12_aBeast).2.1 99 = .ok (.iconst 0, 1) := by decide +kernel
theorem d_X12_aBeast_100 : decode (D_X12_aBeast).2.1 100 = .ok (.ireturn, 1) := by decide +kernel
theorem d_X12_aBeast_101 : decode (D_X12_aBeast).2.1 101 = .ok (.aload_n 0, 1) := by decide +kernel
theorem d_X12_aBeast_102 : decode (D_X12_aBeast).2.1 102 = .ok (.getfield 7, 3) := by decide +kernel
theorem d_X12_aBeast_105 : decode (D_X12_aBeast).2.1 105 = .ok (.iload_n 1, 1) := by decide +kernel
theorem d_X12_aBeast_106 : decode (D_X12_aBeast).2.1 106 = .ok (.iconst 2, 1) := by decide +kernel
theorem d_X12_aBeast_107 : decode (D_X12_aBeast).2.1 107 = .ok (.iadd, 1) := by decide +kernel
theorem d_X12_aBeast_108 : decode (D_X12_aBeast).2.1 108 = .ok (.aload_n 0, 1) := by decide +kernel
theorem d_X12_aBeast_109 : decode (D_X12_aBeast).2.1 109 = .ok (.bipush 13, 2) := by decide +kernel
theorem d_X12_aBeast_111 : decode (D_X12_aBeast).2.1 111 = .ok (.invokevirtual 206, 3) := by decide +kernel
theorem d_X12_aBeast_114 : decode (D_X12_aBeast).2.1 114 = .ok (.ifCond .eq 7, 3) := by decide +kernel
theorem d_X12_aBeast_117 : decode (D_X12_aBeast).2.1 117 = .ok (.iconst 1, 1) := by decide +kernel
theorem d_X12_aBeast_118 : decode (D_X12_aBeast).2.1 118 = .ok (.goto 4, 3) := by decide +kernel
theorem d_X12_aBeast_121 : decode (D_X12_aBeast).2.1 121 = .ok (.iconst 0, 1) := by decide +kernel
theorem d_X12_aBeast_122 : decode (D_X12_aBeast).2.1 122 = .ok (.iastore, 1) := by decide +kernel
theorem d_X12_aBeast_123 : decode (D_X12_aBeast).2.1 123 = .ok (.aload_n 0, 1) := by decide +kernel
theorem d_X12_aBeast_124 : decode (D_X12_aBeast).2.1 124 = .ok (.getfield 7, 3) := by decide +kernel
theorem d_X12_aBeast_127 : decode (D_X12_aBeast).2.1 127 = .ok (.sipush 2018, 3) := by decide +kernel
theorem d_X12_aBeast_130 : decode (D_X12_aBeast).2.1 130 = .ok (.dup2, 1) := by decide +kernel
theorem d_X12_aBeast_131 : decode (D_X12_aBeast).2.1 131 = .ok (.iaload, 1) := by decide +kernel
theorem d_X12_aBeast_132 : decode (D_X12_aBeast).2.1 132 = .ok (.iconst 1, 1) := by decide +kernel
theorem d_X12_aBeast_133 : decode (D_X12_aBeast).2.1 133 = .ok (.iadd, 1) := by decide +kernel
theorem d_X12_aBeast_134 : decode (D_X12_aBeast).2.1 134 = .ok (.iastore, 1) := by decide +kernel
theorem d_X12_aBeast_135 : decode (D_X12_aBeast).2.1 135 = .ok (.iconst 1, 1) := by decide +kernel
theorem d_X12_aBeast_136 : decode (D_X12_aBeast).2.1 136 = .ok (.ireturn, 1) := by decide +kernel
def f_X12_aBeast_L122 (n : Nat) (w1 w2 : Int) (M : JMem) : Option (Int × JMem) := chk (jin w1 3160) <| letm (jup M 168 (jw w1).toNat w2) fun M1 => chk (jin 2018 3160) <| chk (jin 2018 3160) <| letm (jup M1 168 (jw 2018).toNat ((M1 168 (jw 2018).toNat) + 1)) fun M2 => some (1, M2)
set_option maxRecDepth 4000 in
theorem t_X12_aBeast_L122 {g : JG} {ad : Nat → Nat} (hs : jStr g ad) (n : Nat) (w1 w2 : Int) (M : JMem) : jB g D_X12_aBeast ad 122 [some (.ref 167), none] [ji w2, ji w1, .ref 168] M (f_X12_aBeast_L122 n w1 w2 M) := by
  unfold f_X12_aBeast_L122
  refine jo_iast (N := 3160) kc_168 d_X12_aBeast_122 (fun M1 => ?_)
  refine jo_aload 0 d_X12_aBeast_123 rfl rfl ?_
  refine jo_getR (k := 0) cl_12 (Nat.le_of_ble_eq_true rfl) lk_X12_7 rfl kc_167 kr_167_0 d_X12_aBeast_124 ?_
  refine jo_sipush 2018 d_X12_aBeast_127 (by decide) ?_
  refine jo_dup2 d_X12_aBeast_130 rfl rfl ?_
  refine jo_iald (N := 3160) kc_168 d_X12_aBeast_131 ?_
  refine jo_iconst 1 d_X12_aBeast_132 ?_
  refine jo_iadd d_X12_aBeast_133 ?_
  refine jo_iast (N := 3160) kc_168 d_X12_aBeast_134 (fun M2 => ?_)
  refine jo_iconst 1 d_X12_aBeast_135 ?_
  exact jo_zret rfl (by decide) d_X12_aBeast_136
def f_X12_aBeast_L101 (n : Nat) (v1 : Int) (M : JMem) : Option (Int × JMem) := bnd (f_X12_isThere n 13 M) fun r1 M2 => if jw r1 = 0 then (f_X12_aBeast_L122 n (v1 + 2) 0 M2) else (f_X12_aBeast_L122 n (v1 + 2) 1 M2)
set_option maxRecDepth 4000 in
theorem t_X12_aBeast_L101 {g : JG} {ad : Nat → Nat} (hs : jStr g ad) (n : Nat) (v1 : Int) (M : JMem) : jB g D_X12_aBeast ad 101 [some (.ref 167), some (ji v1)] [] M (f_X12_aBeast_L101 n v1 M) := by
  unfold f_X12_aBeast_L101
  refine jo_aload 0 d_X12_aBeast_101 rfl rfl ?_
  refine jo_getR (k := 0) cl_12 (Nat.le_of_ble_eq_true rfl) lk_X12_7 rfl kc_167 kr_167_0 d_X12_aBeast_102 ?_
  refine jo_iload 1 d_X12_aBeast_105 rfl rfl ?_
  refine jo_iconst 2 d_X12_aBeast_106 ?_
  refine jo_iadd d_X12_aBeast_107 ?_
  refine jo_aload 0 d_X12_aBeast_108 rfl rfl ?_
  refine jo_bipush 13 d_X12_aBeast_109 (by decide) ?_
  refine jo_callV (st := [ji (v1 + 2), .ref 168]) (m_X12_isThere hs n 13 M) ok_X12_isThere (And.intro (Nat.le_of_ble_eq_true rfl) (Nat.le_of_ble_eq_true rfl)) lm_X12_206 in_X12_isThere se_X12_isThere rfl kc_167 rfl rfl (And.intro (Nat.zero_le _) (Nat.zero_le _)) rfl (Nat.le_of_ble_eq_true rfl) d_X12_aBeast_111 (fun r1 M2 => ?_)
  refine jo_if_eq 121 d_X12_aBeast_114 (by decide) ?_ ?_
  · skip
    refine jo_iconst 0 d_X12_aBeast_121 ?_
    exact jO.sub (t_X12_aBeast_L122 hs n (v1 + 2) 0 M2) (And.intro rfl True.intro)
  · skip
    refine jo_iconst 1 d_X12_aBeast_117 ?_
    refine jo_goto 122 d_X12_aBeast_118 (by decide) ?_
    exact jO.sub (t_X12_aBeast_L122 hs n (v1 + 2) 1 M2) (And.intro rfl True.intro)
def f_X12_aBeast_L77 (n : Nat) (v1 : Int) (M : JMem) : Option (Int × JMem) := bnd (f_X12_isThere n 12 M) fun r1 M2 => if jw r1 = 0 then (f_X12_aBeast_L101 n v1 M2) else (bnd (f_X12_number n (v1 + 1) 0 16 M2) fun r3 M4 => if jw r3 = 0 then (some (0, M4)) else (f_X12_aBeast_L101 n v1 M4))
set_option maxRecDepth 4000 in
theorem t_X12_aBeast_L77 {g : JG} {ad : Nat → Nat} (hs : jStr g ad) (n : Nat) (v1 : Int) (M : JMem) : jB g D_X12_aBeast ad 77 [some (.ref 167), some (ji v1)] [] M (f_X12_aBeast_L77 n v1 M) := by
  unfold f_X12_aBeast_L77
  refine jo_aload 0 d_X12_aBeast_77 rfl rfl ?_
  refine jo_bipush 12 d_X12_aBeast_78 (by decide) ?_
  refine jo_callV (st := []) (m_X12_isThere hs n 12 M) ok_X12_isThere (And.intro (Nat.le_of_ble_eq_true rfl) (Nat.le_of_ble_eq_true rfl)) lm_X12_206 in_X12_isThere se_X12_isThere rfl kc_167 rfl rfl (And.intro (Nat.zero_le _) (Nat.zero_le _)) rfl (Nat.le_of_ble_eq_true rfl) d_X12_aBeast_80 (fun r1 M2 => ?_)
  refine jo_if_eq 101 d_X12_aBeast_83 (by decide) ?_ ?_
  · skip
    exact jO.sub (t_X12_aBeast_L101 hs n v1 M2) (And.intro rfl (And.intro rfl True.intro))
  · skip
    refine jo_aload 0 d_X12_aBeast_86 rfl rfl ?_
    refine jo_iload 1 d_X12_aBeast_87 rfl rfl ?_
    refine jo_iconst 1 d_X12_aBeast_88 ?_
    refine jo_iadd d_X12_aBeast_89 ?_
    refine jo_iconst 0 d_X12_aBeast_90 ?_
    refine jo_bipush 16 d_X12_aBeast_91 (by decide) ?_
    refine jo_callV (st := []) (m_X12_number hs n (v1 + 1) 0 16 M2) ok_X12_number (And.intro (Nat.le_of_ble_eq_true rfl) (Nat.le_of_ble_eq_true rfl)) lm_X12_203 in_X12_number se_X12_number rfl kc_167 rfl rfl (And.intro (Nat.zero_le _) (Nat.zero_le _)) rfl (Nat.le_of_ble_eq_true rfl) d_X12_aBeast_93 (fun r3 M4 => ?_)
    refine jo_if_ne 101 d_X12_aBeast_96 (by decide) ?_ ?_
    · skip
      exact jO.sub (t_X12_aBeast_L101 hs n v1 M4) (And.intro rfl (And.intro rfl True.intro))
    · skip
      refine jo_iconst 0 d_X12_aBeast_99 ?_
      exact jo_zret rfl (by decide) d_X12_aBeast_100
def f_X12_aBeast (n : Nat) (M : JMem) : Option (Int × JMem) := chk (jin 2018 3160) <| letv (2072 + (10 * (M 168 (jw 2018).toNat))) fun y1 => bnd (f_X12_newOne n 2 8 14 M) fun r2 M3 => if jw r2 = 0 then (some (0, M3)) else (chk (jin y1 3160) <| letm (jup M3 168 (jw y1).toNat 1) fun M4 => chk (jin (y1 + 1) 3160) <| letm (jup M4 168 (jw (y1 + 1)).toNat 8) fun M5 => chk (jin (y1 + 9) 3160) <| letm (jup M5 168 (jw (y1 + 9)).toNat (-1)) fun M6 => bnd (f_X12_isThere n 11 M6) fun r7 M8 => if jw r7 = 0 then (f_X12_aBeast_L77 n y1 M8) else (bnd (f_X12_number n y1 1 9 M8) fun r9 M10 => if jw r9 = 0 then (some (0, M10)) else (f_X12_aBeast_L77 n y1 M10)))
set_option maxRecDepth 4000 in
theorem t_X12_aBeast {g : JG} {ad : Nat → Nat} (hs : jStr g ad) (n : Nat) (M : JMem) : jB g D_X12_aBeast ad 0 [some (.ref 167), none] [] M (f_X12_aBeast n M) := by
  unfold f_X12_aBeast
  refine jo_sipush 2072 d_X12_aBeast_0 (by decide) ?_
  refine jo_bipush 10 d_X12_aBeast_3 (by decide) ?_
  refine jo_aload 0 d_X12_aBeast_5 rfl rfl ?_
  refine jo_getR (k := 0) cl_12 (Nat.le_of_ble_eq_true rfl) lk_X12_7 rfl kc_167 kr_167_0 d_X12_aBeast_6 ?_
  refine jo_sipush 2018 d_X12_aBeast_9 (by decide) ?_
  refine jo_iald (N := 3160) kc_168 d_X12_aBeast_12 ?_
  refine jo_imul d_X12_aBeast_13 ?_
  refine jo_iadd d_X12_aBeast_14 ?_
  refine jo_istore 1 d_X12_aBeast_15 rfl (Nat.le_of_ble_eq_true rfl) (fun y1 => ?_)
  refine jo_aload 0 d_X12_aBeast_16 rfl rfl ?_
  refine jo_iconst 2 d_X12_aBeast_17 ?_
  refine jo_bipush 8 d_X12_aBeast_18 (by decide) ?_
  refine jo_bipush 14 d_X12_aBeast_20 (by decide) ?_
  refine jo_callV (st := []) (m_X12_newOne hs n 2 8 14 M) ok_X12_newOne (And.intro (Nat.le_of_ble_eq_true rfl) (Nat.le_of_ble_eq_true rfl)) lm_X12_193 in_X12_newOne se_X12_newOne rfl kc_167 rfl rfl (And.intro (Nat.zero_le _) (Nat.zero_le _)) rfl (Nat.le_of_ble_eq_true rfl) d_X12_aBeast_22 (fun r2 M3 => ?_)
  refine jo_if_ne 30 d_X12_aBeast_25 (by decide) ?_ ?_
  · skip
    refine jo_aload 0 d_X12_aBeast_30 rfl rfl ?_
    refine jo_getR (k := 0) cl_12 (Nat.le_of_ble_eq_true rfl) lk_X12_7 rfl kc_167 kr_167_0 d_X12_aBeast_31 ?_
    refine jo_iload 1 d_X12_aBeast_34 rfl rfl ?_
    refine jo_iconst 1 d_X12_aBeast_35 ?_
    refine jo_iast (N := 3160) kc_168 d_X12_aBeast_36 (fun M4 => ?_)
    refine jo_aload 0 d_X12_aBeast_37 rfl rfl ?_
    refine jo_getR (k := 0) cl_12 (Nat.le_of_ble_eq_true rfl) lk_X12_7 rfl kc_167 kr_167_0 d_X12_aBeast_38 ?_
    refine jo_iload 1 d_X12_aBeast_41 rfl rfl ?_
    refine jo_iconst 1 d_X12_aBeast_42 ?_
    refine jo_iadd d_X12_aBeast_43 ?_
    refine jo_bipush 8 d_X12_aBeast_44 (by decide) ?_
    refine jo_iast (N := 3160) kc_168 d_X12_aBeast_46 (fun M5 => ?_)
    refine jo_aload 0 d_X12_aBeast_47 rfl rfl ?_
    refine jo_getR (k := 0) cl_12 (Nat.le_of_ble_eq_true rfl) lk_X12_7 rfl kc_167 kr_167_0 d_X12_aBeast_48 ?_
    refine jo_iload 1 d_X12_aBeast_51 rfl rfl ?_
    refine jo_bipush 9 d_X12_aBeast_52 (by decide) ?_
    refine jo_iadd d_X12_aBeast_54 ?_
    refine jo_iconst (-1) d_X12_aBeast_55 ?_
    refine jo_iast (N := 3160) kc_168 d_X12_aBeast_56 (fun M6 => ?_)
    refine jo_aload 0 d_X12_aBeast_57 rfl rfl ?_
    refine jo_bipush 11 d_X12_aBeast_58 (by decide) ?_
    refine jo_callV (st := []) (m_X12_isThere hs n 11 M6) ok_X12_isThere (And.intro (Nat.le_of_ble_eq_true rfl) (Nat.le_of_ble_eq_true rfl)) lm_X12_206 in_X12_isThere se_X12_isThere rfl kc_167 rfl rfl (And.intro (Nat.zero_le _) (Nat.zero_le _)) rfl (Nat.le_of_ble_eq_true rfl) d_X12_aBeast_60 (fun r7 M8 => ?_)
    refine jo_if_eq 77 d_X12_aBeast_63 (by decide) ?_ ?_
    · skip
      exact jO.sub (t_X12_aBeast_L77 hs n y1 M8) (And.intro rfl (And.intro rfl True.intro))
    · skip
      refine jo_aload 0 d_X12_aBeast_66 rfl rfl ?_
      refine jo_iload 1 d_X12_aBeast_67 rfl rfl ?_
      refine jo_iconst 1 d_X12_aBeast_68 ?_
      refine jo_bipush 9 d_X12_aBeast_69 (by decide) ?_
      refine jo_callV (st := []) (m_X12_number hs n y1 1 9 M8) ok_X12_number (And.intro (Nat.le_of_ble_eq_true rfl) (Nat.le_of_ble_eq_true rfl)) lm_X12_203 in_X12_number se_X12_number rfl kc_167 rfl rfl (And.intro (Nat.zero_le _) (Nat.zero_le _)) rfl (Nat.le_of_ble_eq_true rfl) d_X12_aBeast_71 (fun r9 M10 => ?_)
      refine jo_if_eq 99 d_X12_aBeast_74 (by decide) ?_ ?_
      · skip
        refine jo_iconst 0 d_X12_aBeast_99 ?_
        exact jo_zret rfl (by decide) d_X12_aBeast_100
      · skip
        exact jO.sub (t_X12_aBeast_L77 hs n y1 M10) (And.intro rfl (And.intro rfl True.intro))
  · skip
    refine jo_iconst 0 d_X12_aBeast_28 ?_
    exact jo_zret rfl (by decide) d_X12_aBeast_29
theorem m_X12_aBeast {g : JG} {ad : Nat → Nat} (hs : jStr g ad) (n : Nat) (M : JMem) : jMet g jNN ad jR D_X12_aBeast yX12_aBeast [.ref 167] M (f_X12_aBeast n M) :=
  jMet.of (lo0 := [some (.ref 167), none]) (by decide) rfl rfl (Nat.le_of_ble_eq_true rfl) (And.intro rfl True.intro) (t_X12_aBeast hs n M)
/-! CageLeaveModel.oldOne(III)Z -/
def D_X12_oldOne : JD := (RX12, cX12_oldOne, 4, some .boolean, "oldOne", { frames := 8, cells := 0, slots := 0, locals := 197 })
theorem ok_X12_oldOne : jOk D_X12_oldOne yX12_oldOne 3 := ⟨jTW_mem (k := 1627) (by decide +kernel) rfl, jTW_mem (k := 151) (by decide +kernel) rfl, ⟨by decide +kernel, by decide +kernel⟩, by decide +kernel, rfl, rfl⟩
theorem in_X12_oldOne : Cond.instanceMethod yX12_oldOne ∈ jTW := jTW_mem (k := 1626) (by decide +kernel) rfl
theorem se_X12_oldOne : Cond.selects yX12_oldOne.cls yX12_oldOne yX12_oldOne ∈ jTW := jTW_mem (k := 67) (by decide +kernel) rfl
theorem d_X12_oldOne_0 : decode (D_X12_oldOne).2.1 0 = .ok (.aload_n 0, 1) := by decide +kernel
theorem d_X12_oldOne_1 : decode (D_X12_oldOne).2.1 1 = .ok (.ldc 180, 2) := by decide +kernel
theorem d_X12_oldOne_3 : decode (D_X12_oldOne).2.1 3 = .ok (.invokevirtual 182, 3) := by decide +kernel
theorem d_X12_oldOne_6 : decode (D_X12_oldOne).2.1 6 = .ok (.ifCond .ne 9, 3) := by decide +kernel
theorem d_X12_oldOne_9 : decode (D_X12_oldOne).2.1 9 = .ok (.aload_n 0, 1) := by decide +kernel
theorem d_X12_oldOne_10 : decode (D_X12_oldOne).2.1 10 = .ok (.iconst 2, 1) := by decide +kernel
theorem d_X12_oldOne_11 : decode (D_X12_oldOne).2.1 11 = .ok (.invokevirtual 169, 3) := by decide +kernel
theorem d_X12_oldOne_14 : decode (D_X12_oldOne).2.1 14 = .ok (.ireturn, 1) := by decide +kernel
theorem d_X12_oldOne_15 : decode (D_X12_oldOne).2.1 15 = .ok (.aload_n 0, 1) := by decide +kernel
theorem d_X12_oldOne_16 : decode (D_X12_oldOne).2.1 16 = .ok (.getfield 7, 3) := by decide +kernel
theorem d_X12_oldOne_19 : decode (D_X12_oldOne).2.1 19 = .ok (.iload_n 3, 1) := by decide +kernel
theorem d_X12_oldOne_20 : decode (D_X12_oldOne).2.1 20 = .ok (.aload_n 0, 1) := by decide +kernel
theorem d_X12_oldOne_21 : decode (D_X12_oldOne).2.1 21 = .ok (.iload_n 1, 1) := by decide +kernel
theorem d_X12_oldOne_22 : decode (D_X12_oldOne).2.1 22 = .ok (.iload_n 2, 1) := by decide +kernel
theorem d_X12_oldOne_23 : decode (D_X12_oldOne).2.1 23 = .ok (.invokevirtual 186, 3) := by decide +kernel
theorem d_X12_oldOne_26 : decode (D_X12_oldOne).2.1 26 = .ok (.iastore, 1) := by decide +kernel
theorem d_X12_oldOne_27 : decode (D_X12_oldOne).2.1 27 = .ok (.aload_n 0, 1) := by decide +kernel
theorem d_X12_oldOne_28 : decode (D_X12_oldOne).2.1 28 = .ok (.getfield 7, 3) := by decide +kernel
theorem d_X12_oldOne_31 : decode (D_X12_oldOne).2.1 31 = .ok (.iload_n 3, 1) := by decide +kernel
theorem d_X12_oldOne_32 : decode (D_X12_oldOne).2.1 32 = .ok (.iaload, 1) := by decide +kernel
theorem d_X12_oldOne_33 : decode (D_X12_oldOne).2.1 33 = .ok (.iconst (-1), 1) := by decide +kernel
theorem d_X12_oldOne_34 : decode (D_X12_oldOne).2.1 34 = .ok (.if_icmp .ne 9, 3) := by decide +kernel
theorem d_X12_oldOne_37 : decode (D_X12_oldOne).2.1 37 = .ok (.aload_n 0, 1) := by decide +kernel
theorem d_X12_oldOne_38 : decode (D_X12_oldOne).2.1 38 = .ok (.iconst 3, 1) := by decide +kernel
theorem d_X12_oldOne_39 : decode (D_X12_oldOne).2.1 39 = .ok (.invokevirtual 169, 3) := by decide +kernel
theorem d_X12_oldOne_42 : decode (D_X12_oldOne).2.1 42 = .ok (.ireturn, 1) := by decide +kernel
theorem d_X12_oldOne_43 : decode (D_X12_oldOne).2.1 43 = .ok (.aload_n 0, 1) := by decide +kernel
theorem d_X12_oldOne_44 : decode (D_X12_oldOne).2.1 44 = .ok (.invokevirtual 163, 3) := by decide +kernel
theorem d_X12_oldOne_47 : decode (D_X12_oldOne).2.1 47 = .ok (.iconst 1, 1) := by decide +kernel
theorem d_X12_oldOne_48 : decode (D_X12_oldOne).2.1 48 = .ok (.ireturn, 1) := by decide +kernel
def f_X12_oldOne (n : Nat) (x1 : Int) (x2 : Int) (x3 : Int) (M : JMem) : Option (Int × JMem) := bnd (f_X12_isName n M) fun r1 M2 => if jw r1 = 0 then (bnd (f_X12_fails n 2 M2) fun r10 M11 => chk (jw r10 = 0 ∨ jw r10 = 1) (some (r10, M11))) else (bnd (f_X12_findHere n x1 x2 M2) fun r3 M4 => chk (jin x3 3160) <| letm (jup M4 168 (jw x3).toNat r3) fun M5 => chk (jin x3 3160) <| if jw (M5 168 (jw x3).toNat) = jw (-1) then (bnd (f_X12_fails n 3 M5) fun r8 M9 => chk (jw r8 = 0 ∨ jw r8 = 1) (some (r8, M9))) else (bnd (f_X12_ahead n M5) fun _ M7 => some (1, M7)))
set_option maxRecDepth 4000 in
theorem t_X12_oldOne {g : JG} {ad : Nat → Nat} (hs : jStr g ad) (n : Nat) (x1 : Int) (x2 : Int) (x3 : Int) (M : JMem) : jB g D_X12_oldOne ad 0 [some (.ref 167), some (ji x1), some (ji x2), some (ji x3)] [] M (f_X12_oldOne n x1 x2 x3 M) := by
  unfold f_X12_oldOne
  refine jo_aload 0 d_X12_oldOne_0 rfl rfl ?_
  refine jo_ldcS hs d_X12_oldOne_1 ?_
  refine jo_callV (st := []) (m_X12_isName hs n M) ok_X12_isName (And.intro (Nat.le_of_ble_eq_true rfl) (Nat.le_of_ble_eq_true rfl)) lm_X12_182 in_X12_isName se_X12_isName rfl kc_167 rfl rfl (And.intro (Nat.zero_le _) (Nat.zero_le _)) rfl (Nat.le_of_ble_eq_true rfl) d_X12_oldOne_3 (fun r1 M2 => ?_)
  refine jo_if_ne 15 d_X12_oldOne_6 (by decide) ?_ ?_
  · skip
    refine jo_aload 0 d_X12_oldOne_15 rfl rfl ?_
    refine jo_getR (k := 0) cl_12 (Nat.le_of_ble_eq_true rfl) lk_X12_7 rfl kc_167 kr_167_0 d_X12_oldOne_16 ?_
    refine jo_iload 3 d_X12_oldOne_19 rfl rfl ?_
    refine jo_aload 0 d_X12_oldOne_20 rfl rfl ?_
    refine jo_iload 1 d_X12_oldOne_21 rfl rfl ?_
    refine jo_iload 2 d_X12_oldOne_22 rfl rfl ?_
    refine jo_callV (st := [ji x3, .ref 168]) (m_X12_findHere hs n x1 x2 M2) ok_X12_findHere (And.intro (Nat.le_of_ble_eq_true rfl) (Nat.le_of_ble_eq_true rfl)) lm_X12_186 in_X12_findHere se_X12_findHere rfl kc_167 rfl rfl (And.intro (Nat.zero_le _) (Nat.zero_le _)) rfl (Nat.le_of_ble_eq_true rfl) d_X12_oldOne_23 (fun r3 M4 => ?_)
    refine jo_iast (N := 3160) kc_168 d_X12_oldOne_26 (fun M5 => ?_)
    refine jo_aload 0 d_X12_oldOne_27 rfl rfl ?_
    refine jo_getR (k := 0) cl_12 (Nat.le_of_ble_eq_true rfl) lk_X12_7 rfl kc_167 kr_167_0 d_X12_oldOne_28 ?_
    refine jo_iload 3 d_X12_oldOne_31 rfl rfl ?_
    refine jo_iald (N := 3160) kc_168 d_X12_oldOne_32 ?_
    refine jo_iconst (-1) d_X12_oldOne_33 ?_
    refine jo_icmp_ne 43 d_X12_oldOne_34 (by decide) ?_ ?_
    · skip
      refine jo_aload 0 d_X12_oldOne_43 rfl rfl ?_
      refine jo_callV (st := []) (m_X12_ahead hs n M5) ok_X12_ahead (And.intro (Nat.le_of_ble_eq_true rfl) (Nat.le_of_ble_eq_true rfl)) lm_X12_163 in_X12_ahead se_X12_ahead rfl kc_167 rfl rfl (And.intro (Nat.zero_le _) (Nat.zero_le _)) rfl (Nat.le_of_ble_eq_true rfl) d_X12_oldOne_44 (fun _ M7 => ?_)
      refine jo_iconst 1 d_X12_oldOne_47 ?_
      exact jo_zret rfl (by decide) d_X12_oldOne_48
    · skip
      refine jo_aload 0 d_X12_oldOne_37 rfl rfl ?_
      refine jo_iconst 3 d_X12_oldOne_38 ?_
      refine jo_callV (st := []) (m_X12_fails hs n 3 M5) ok_X12_fails (And.intro (Nat.le_of_ble_eq_true rfl) (Nat.le_of_ble_eq_true rfl)) lm_X12_169 in_X12_fails se_X12_fails rfl kc_167 rfl rfl (And.intro (Nat.zero_le _) (Nat.zero_le _)) rfl (Nat.le_of_ble_eq_true rfl) d_X12_oldOne_39 (fun r8 M9 => ?_)
      exact jo_zretq rfl d_X12_oldOne_42
  · skip
    refine jo_aload 0 d_X12_oldOne_9 rfl rfl ?_
    refine jo_iconst 2 d_X12_oldOne_10 ?_
    refine jo_callV (st := []) (m_X12_fails hs n 2 M2) ok_X12_fails (And.intro (Nat.le_of_ble_eq_true rfl) (Nat.le_of_ble_eq_true rfl)) lm_X12_169 in_X12_fails se_X12_fails rfl kc_167 rfl rfl (And.intro (Nat.zero_le _) (Nat.zero_le _)) rfl (Nat.le_of_ble_eq_true rfl) d_X12_oldOne_11 (fun r10 M11 => ?_)
    exact jo_zretq rfl d_X12_oldOne_14
theorem m_X12_oldOne {g : JG} {ad : Nat → Nat} (hs : jStr g ad) (n : Nat) (x1 : Int) (x2 : Int) (x3 : Int) (M : JMem) : jMet g jNN ad jR D_X12_oldOne yX12_oldOne [.ref 167, ji x1, ji x2, ji x3] M (f_X12_oldOne n x1 x2 x3 M) :=
  jMet.of (lo0 := [some (.ref 167), some (ji x1), some (ji x2), some (ji x3)]) (by decide) rfl rfl (Nat.le_of_ble_eq_true rfl) (And.intro rfl (And.intro rfl (And.intro rfl (And.intro rfl True.intro)))) (t_X12_oldOne hs n x1 x2 x3 M)
/-! CageLeaveModel.newBeastTo(I)Z -/
def D_X12_newBeastTo : JD := (RX12, cX12_newBeastTo, 2, some .boolean, "newBeastTo", { frames := 9, cells := 0, slots := 0, locals := 220 })
theorem ok_X12_newBeastTo : jOk D_X12_newBeastTo yX12_newBeastTo 1 := ⟨jTW_mem (k := 1643) (by decide +kernel) rfl, jTW_mem (k := 151) (by decide +kernel) rfl, ⟨by decide +kernel, by decide +kernel⟩, by decide +kernel, rfl, rfl⟩
theorem in_X12_newBeastTo : Cond.instanceMethod yX12_newBeastTo ∈ jTW := jTW_mem (k := 1642) (by decide +kernel) rfl
theorem se_X12_newBeastTo : Cond.selects yX12_newBeastTo.cls yX12_newBeastTo yX12_newBeastTo ∈ jTW := jTW_mem (k := 71) (by decide +kernel) rfl
theorem lm_X12_189 : Cond.methodLink RX12 189 yX12_oldOne ∈ jTW := jTW_mem (k := 1624) (by decide +kernel) rfl
theorem d_X12_newBeastTo_0 : decode (D_X12_newBeastTo).2.1 0 = .ok (.aload_n 0, 1) := by decide +kernel
theorem d_X12_newBeastTo_1 : decode (D_X12_newBeastTo).2.1 1 = .ok (.bipush 102, 2) := by decide +kernel
theorem d_X12_newBeastTo_3 : decode (D_X12_newBeastTo).2.1 3 = .ok (.aload_n 0, 1) := by decide +kernel
theorem d_X12_newBeastTo_4 : decode (D_X12_newBeastTo).2.1 4 = .ok (.getfield 7, 3) := by decide +kernel
theorem d_X12_newBeastTo_7 : decode (D_X12_newBeastTo).2.1 7 = .ok (.sipush 2018, 3) := by decide +kernel
theorem d_X12_newBeastTo_10 : decode (D_X12_newBeastTo).2.1 10 = .ok (.iaload, 1) := by decide +kernel
theorem d_X12_newBeastTo_11 : decode (D_X12_newBeastTo).2.1 11 = .ok (.iload_n 1, 1) := by decide +kernel
theorem d_X12_newBeastTo_12 : decode (D_X12_newBeastTo).2.1 12 = .ok (.invokevirtual 189, 3) := by decide +kernel
theorem d_X12_newBeastTo_15 : decode (D_X12_newBeastTo).2.1 15 = .ok (.ireturn, 1) := by decide +kernel
def f_X12_newBeastTo (n : Nat) (x1 : Int) (M : JMem) : Option (Int × JMem) := chk (jin 2018 3160) <| bnd (f_X12_oldOne n 102 (M 168 (jw 2018).toNat) x1 M) fun r1 M2 => chk (jw r1 = 0 ∨ jw r1 = 1) (some (r1, M2))
set_option maxRecDepth 4000 in
theorem t_X12_newBeastTo {g : JG} {ad : Nat → Nat} (hs : jStr g ad) (n : Nat) (x1 : Int) (M : JMem) : jB g D_X12_newBeastTo ad 0 [some (.ref 167), some (ji x1)] [] M (f_X12_newBeastTo n x1 M) := by
  unfold f_X12_newBeastTo
  refine jo_aload 0 d_X12_newBeastTo_0 rfl rfl ?_
  refine jo_bipush 102 d_X12_newBeastTo_1 (by decide) ?_
  refine jo_aload 0 d_X12_newBeastTo_3 rfl rfl ?_
  refine jo_getR (k := 0) cl_12 (Nat.le_of_ble_eq_true rfl) lk_X12_7 rfl kc_167 kr_167_0 d_X12_newBeastTo_4 ?_
  refine jo_sipush 2018 d_X12_newBeastTo_7 (by decide) ?_
  refine jo_iald (N := 3160) kc_168 d_X12_newBeastTo_10 ?_
  refine jo_iload 1 d_X12_newBeastTo_11 rfl rfl ?_
  refine jo_callV (st := []) (m_X12_oldOne hs n 102 (M 168 (jw 2018).toNat) x1 M) ok_X12_oldOne (And.intro (Nat.le_of_ble_eq_true rfl) (Nat.le_of_ble_eq_true rfl)) lm_X12_189 in_X12_oldOne se_X12_oldOne rfl kc_167 rfl rfl (And.intro (Nat.zero_le _) (Nat.zero_le _)) rfl (Nat.le_of_ble_eq_true rfl) d_X12_newBeastTo_12 (fun r1 M2 => ?_)
  exact jo_zretq rfl d_X12_newBeastTo_15
theorem m_X12_newBeastTo {g : JG} {ad : Nat → Nat} (hs : jStr g ad) (n : Nat) (x1 : Int) (M : JMem) : jMet g jNN ad jR D_X12_newBeastTo yX12_newBeastTo [.ref 167, ji x1] M (f_X12_newBeastTo n x1 M) :=
  jMet.of (lo0 := [some (.ref 167), some (ji x1)]) (by decide) rfl rfl (Nat.le_of_ble_eq_true rfl) (And.intro rfl (And.intro rfl True.intro)) (t_X12_newBeastTo hs n x1 M)
/-! CageLeaveModel.aHunt()Z -/
def D_X12_aHunt : JD := (RX12, cX12_aHunt, 4, some .boolean, "aHunt", { frames := 10, cells := 0, slots := 0, locals := 241 })
theorem ok_X12_aHunt : jOk D_X12_aHunt yX12_aHunt 0 := ⟨jTW_mem (k := 1639) (by decide +kernel) rfl, jTW_mem (k := 151) (by decide +kernel) rfl, ⟨by decide +kernel, by decide +kernel⟩, by decide +kernel, rfl, rfl⟩
theorem in_X12_aHunt : Cond.instanceMethod yX12_aHunt ∈ jTW := jTW_mem (k := 1638) (by decide +kernel) rfl
theorem se_X12_aHunt : Cond.selects yX12_aHunt.cls yX12_aHunt yX12_aHunt ∈ jTW := jTW_mem (k := 70) (by decide +kernel) rfl
theorem lm_X12_209 : Cond.methodLink RX12 209 yX12_newBeastTo ∈ jTW := jTW_mem (k := 1640) (by decide +kernel) rfl
theorem d_X12_aHunt_0 : decode (D_X12_aHunt).2.1 0 = .ok (.sipush 2512, 3) := by decide +kernel
theorem d_X12_aHunt_3 : decode (D_X12_aHunt).2.1 3 = .ok (.istore_n 1, 1) := by decide +kernel
theorem d_X12_aHunt_4 : decode (D_X12_aHunt).2.1 4 = .ok (.aload_n 0, 1) := by decide +kernel
theorem d_X12_aHunt_5 : decode (D_X12_aHunt).2.1 5 = .ok (.invokevirtual 163, 3) := by decide +kernel
theorem d_X12_aHunt_8 : decode (D_X12_aHunt).2.1 8 = .ok (.aload_n 0, 1) := by decide +kernel
theorem d_X12_aHunt_9 : decode (D_X12_aHunt).2.1 9 = .ok (.iload_n 1, 1) := by decide +kernel
theorem d_X12_aHunt_10 : decode (D_X12_aHunt).2.1 10 = .ok (.invokevirtual 209, 3) := by decide +kernel
theorem d_X12_aHunt_13 : decode (D_X12_aHunt).2.1 13 = .ok (.ifCond .ne 5, 3) := by decide +kernel
theorem d_X12_aHunt_16 : decode (D_X12_aHunt).2.1 16 = .ok (.iconst 0, 1) := by decide +kernel
theorem d_X12_aHunt_17 : decode (D_X12_aHunt).2.1 17 = .ok (.ireturn, 1) := by decide +kernel
theorem d_X12_aHunt_18 : decode (D_X12_aHunt).2.1 18 = .ok (.sipush 2072, 3) := by decide +kernel
theorem d_X12_aHunt_21 : decode (D_X12_aHunt).2.1 21 = .ok (.bipush 10, 2) := by decide +kernel
theorem d_X12_aHunt_23 : decode (D_X12_aHunt).2.1 23 = .ok (.aload_n 0, 1) := by decide +kernel
theorem d_X12_aHunt_24 : decode (D_X12_aHunt).2.1 24 = .ok (.getfield 7, 3) := by decide +kernel
theorem d_X12_aHunt_27 : decode (D_X12_aHunt).2.1 27 = .ok (.iload_n 1, 1) := by decide +kernel
theorem d_X12_aHunt_28 : decode (D_X12_aHunt).2.1 28 = .ok (.iaload, 1) := by decide +kernel
theorem d_X12_aHunt_29 : decode (D_X12_aHunt).2.1 29 = .ok (.imul, 1) := by decide +kernel
theorem d_X12_aHunt_30 : decode (D_X12_aHunt).2.1 30 = .ok (.iadd, 1) := by decide +kernel
theorem d_X12_aHunt_31 : decode (D_X12_aHunt).2.1 31 = .ok (.bipush 6, 2) := by decide +kernel
theorem d_X12_aHunt_33 : decode (D_X12_aHunt).2.1 33 = .ok (.iadd, 1) := by decide +kernel
theorem d_X12_aHunt_34 : decode (D_X12_aHunt).2.1 34 = .ok (.istore_n 2, 1) := by decide +kernel
theorem d_X12_aHunt_35 : decode (D_X12_aHunt).2.1 35 = .ok (.aload_n 0, 1) := by decide +kernel
theorem d_X12_aHunt_36 : decode (D_X12_aHunt).2.1 36 = .ok (.ldc 180, 2) := by decide +kernel
theorem d_X12_aHunt_38 : decode (D_X12_aHunt).2.1 38 = .ok (.invokevirtual 182, 3) := by decide +kernel
theorem d_X12_aHunt_41 : decode (D_X12_aHunt).2.1 41 = .ok (.ifCond .eq 53, 3) := by decide +kernel
theorem d_X12_aHunt_44 : decode (D_X12_aHunt).2.1 44 = .ok (.aload_n 0, 1) := by decide +kernel
theorem d_X12_aHunt_45 : decode (D_X12_aHunt).2.1 45 = .ok (.bipush 102, 2) := by decide +kernel
theorem d_X12_aHunt_47 : decode (D_X12_aHunt).2.1 47 = .ok (.aload_n 0, 1) := by decide +kernel
theorem d_X12_aHunt_48 : decode (D_X12_aHunt).2.1 48 = .ok (.getfield 7, 3) := by decide +kernel
theorem d_X12_aHunt_51 : decode (D_X12_aHunt).2.1 51 = .ok (.sipush 2018, 3) := by decide +kernel
theorem d_X12_aHunt_54 : decode (D_X12_aHunt).2.1 54 = .ok (.iaload, 1) := by decide +kernel
theorem d_X12_aHunt_55 : decode (D_X12_aHunt).2.1 55 = .ok (.invokevirtual 186, 3) := by decide +kernel
theorem d_X12_aHunt_58 : decode (D_X12_aHunt).2.1 58 = .ok (.istore_n 3, 1) := by decide +kernel
theorem d_X12_aHunt_59 : decode (D_X12_aHunt).2.1 59 = .ok (.iload_n 3, 1) := by decide +kernel
theorem d_X12_aHunt_60 : decode (D_X12_aHunt).2.1 60 = .ok (.iconst (-1), 1) := by decide +kernel
theorem d_X12_aHunt_61 : decode (D_X12_aHunt).2.1 61 = .ok (.if_icmp .eq 33, 3) := by decide +kernel
theorem d_X12_aHunt_64 : decode (D_X12_aHunt).2.1 64 = .ok (.iload_n 3, 1) := by decide +kernel
theorem d_X12_aHunt_65 : decode (D_X12_aHunt).2.1 65 = .ok (.aload_n 0, 1) := by decide +kernel
theorem d_X12_aHunt_66 : decode (D_X12_aHunt).2.1 66 = .ok (.getfield 7, 3) := by decide +kernel
theorem d_X12_aHunt_69 : decode (D_X12_aHunt).2.1 69 = .ok (.iload_n 1, 1) := by decide +kernel
theorem d_X12_aHunt_70 : decode (D_X12_aHunt).2.1 70 = .ok (.iaload, 1) := by decide +kernel
theorem d_X12_aHunt_71 : decode (D_X12_aHunt).2.1 71 = .ok (.if_icmp .eq 17, 3) := by decide +kernel
theorem d_X12_aHunt_74 : decode (D_X12_aHunt).2.1 74 = .ok (.aload_n 0, 1) := by decide +kernel
theorem d_X12_aHunt_75 : decode (D_X12_aHunt).2.1 75 = .ok (.getfield 7, 3) := by decide +kernel
theorem d_X12_aHunt_78 : decode (D_X12_aHunt).2.1 78 = .ok (.iload_n 2, 1) := by decide +kernel
theorem d_X12_aHunt_79 : decode (D_X12_aHunt).2.1 79 = .ok (.iaload, 1) := by decide +kernel
theorem d_X12_aHunt_80 : decode (D_X12_aHunt).2.1 80 = .ok (.iload_n 3, 1) := by decide +kernel
theorem d_X12_aHunt_81 : decode (D_X12_aHunt).2.1 81 = .ok (.ishr, 1) := by decide +kernel
theorem d_X12_aHunt_82 : decode (D_X12_aHunt).2.1 82 = .ok (.iconst 1, 1) := by decide +kernel
theorem d_X12_aHunt_83 : decode (D_X12_aHunt).2.1 83 = .ok (.iand, 1) := by decide +kernel
theorem d_X12_aHunt_84 : decode (D_X12_aHunt).2.1 84 = .ok (.iconst 1, 1) := by decide +kernel
theorem d_X12_aHunt_85 : decode (D_X12_aHunt).2.1 85 = .ok (.if_icmp .ne 9, 3) := by decide +kernel
theorem d_X12_aHunt_88 : decode (D_X12_aHunt).2.1 88 = .ok (.aload_n 0, 1) := by decide +kernel
theorem d_X12_aHunt_89 : decode (D_X12_aHunt).2.1 89 = .ok (.iconst 5, 1) := by decide +kernel
theorem d_X12_aHunt_90 : decode (D_X12_aHunt).2.1 90 = .ok (.invokevirtual 169, 3) := by decide +kernel
theorem d_X12_aHunt_93 : decode (D_X12_aHunt).2.1 93 = .ok (.ireturn, 1) := by decide +kernel
theorem d_X12_aHunt_94 : decode (D_X12_aHunt).2.1 94 = .ok (.aload_n 0, 1) := by decide +kernel
theorem d_X12_aHunt_95 : decode (D_X12_aHunt).2.1 95 = .ok (.iload_n 1, 1) := by decide +kernel
theorem d_X12_aHunt_96 : decode (D_X12_aHunt).2.1 96 = .ok (.iconst 1, 1) := by decide +kernel
theorem d_X12_aHunt_97 : decode (D_X12_aHunt).2.1 97 = .ok (.iadd, 1) := by decide +kernel
theorem d_X12_aHunt_98 : decode (D_X12_aHunt).2.1 98 = .ok (.invokevirtual 209, 3) := by decide +kernel
theorem d_X12_aHunt_101 : decode (D_X12_aHunt).2.1 101 = .ok (.ifCond .ne 5, 3) := by decide +kernel
theorem d_X12_aHunt_104 : decode (D_X12_aHunt).2.1 104 = .ok (.iconst 0, 1) := by decide +kernel
theorem d_X12_aHunt_105 : decode (D_X12_aHunt).2.1 105 = .ok (.ireturn, 1) := by decide +kernel
theorem d_X12_aHunt_106 : decode (D_X12_aHunt).2.1 106 = .ok (.aload_n 0, 1) := by decide +kernel
theorem d_X12_aHunt_107 : decode (D_X12_aHunt).2.1 107 = .ok (.getfield 7, 3) := by decide +kernel
theorem d_X12_aHunt_110 : decode (D_X12_aHunt).2.1 110 = .ok (.iload_n 2, 1) := by decide +kernel
theorem d_X12_aHunt_111 : decode (D_X12_aHunt).2.1 111 = .ok (.dup2, 1) := by decide +kernel
theorem d_X12_aHunt_112 : decode (D_X12_aHunt).2.1 112 = .ok (.iaload, 1) := by decide +kernel
theorem d_X12_aHunt_113 : decode (D_X12_aHunt).2.1 113 = .ok (.iconst 1, 1) := by decide +kernel
theorem d_X12_aHunt_114 : decode (D_X12_aHunt).2.1 114 = .ok (.aload_n 0, 1) := by decide +kernel
theorem d_X12_aHunt_115 : decode (D_X12_aHunt).2.1 115 = .ok (.getfield 7, 3) := by decide +kernel
theorem d_X12_aHunt_118 : decode (D_X12_aHunt).2.1 118 = .ok (.iload_n 1, 1) := by decide +kernel
theorem d_X12_aHunt_119 : decode (D_X12_aHunt).2.1 119 = .ok (.iconst 1, 1) := by decide +kernel
theorem d_X12_aHunt_120 : decode (D_X12_aHunt).2.1 120 = .ok (.iadd, 1) := by decide +kernel
theorem d_X12_aHunt_121 : decode (D_X12_aHunt).2.1 121 = .ok (.iaload, 1) := by decide +kernel
theorem d_X12_aHunt_122 : decode (D_X12_aHunt).2.1 122 = .ok (.ishl, 1) := by decide +kernel
theorem d_X12_aHunt_123 : decode (D_X12_aHunt).2.1 123 = .ok (.ior, 1) := by decide +kernel
theorem d_X12_aHunt_124 : decode (D_X12_aHunt).2.1 124 = .ok (.iastore, 1) := by decide +kernel
theorem d_X12_aHunt_125 : decode (D_X12_aHunt).2.1 125 = .ok (.iconst 1, 1) := by decide +kernel
theorem d_X12_aHunt_126 : decode (D_X12_aHunt).2.1 126 = .ok (.ireturn, 1) := by decide +kernel
def f_X12_aHunt_L88 (n : Nat) (M : JMem) : Option (Int × JMem) := bnd (f_X12_fails n 5 M) fun r1 M2 => chk (jw r1 = 0 ∨ jw r1 = 1) (some (r1, M2))
set_option maxRecDepth 4000 in
theorem t_X12_aHunt_L88 {g : JG} {ad : Nat → Nat} (hs : jStr g ad) (n : Nat) (M : JMem) : jB g D_X12_aHunt ad 88 [some (.ref 167), none, none, none] [] M (f_X12_aHunt_L88 n M) := by
  unfold f_X12_aHunt_L88
  refine jo_aload 0 d_X12_aHunt_88 rfl rfl ?_
  refine jo_iconst 5 d_X12_aHunt_89 ?_
  refine jo_callV (st := []) (m_X12_fails hs n 5 M) ok_X12_fails (And.intro (Nat.le_of_ble_eq_true rfl) (Nat.le_of_ble_eq_true rfl)) lm_X12_169 in_X12_fails se_X12_fails rfl kc_167 rfl rfl (And.intro (Nat.zero_le _) (Nat.zero_le _)) rfl (Nat.le_of_ble_eq_true rfl) d_X12_aHunt_90 (fun r1 M2 => ?_)
  exact jo_zretq rfl d_X12_aHunt_93
def f_X12_aHunt_L94 (n : Nat) (v1 v2 : Int) (M : JMem) : Option (Int × JMem) := bnd (f_X12_newBeastTo n (v1 + 1) M) fun r1 M2 => if jw r1 = 0 then (some (0, M2)) else (chk (jin v2 3160) <| chk (jin (v1 + 1) 3160) <| chk (jin v2 3160) <| letm (jup M2 168 (jw v2).toNat (jor (M2 168 (jw v2).toNat) (jshl 1 (M2 168 (jw (v1 + 1)).toNat)))) fun M3 => some (1, M3))
set_option maxRecDepth 4000 in
theorem t_X12_aHunt_L94 {g : JG} {ad : Nat → Nat} (hs : jStr g ad) (n : Nat) (v1 v2 : Int) (M : JMem) : jB g D_X12_aHunt ad 94 [some (.ref 167), some (ji v1), some (ji v2), none] [] M (f_X12_aHunt_L94 n v1 v2 M) := by
  unfold f_X12_aHunt_L94
  refine jo_aload 0 d_X12_aHunt_94 rfl rfl ?_
  refine jo_iload 1 d_X12_aHunt_95 rfl rfl ?_
  refine jo_iconst 1 d_X12_aHunt_96 ?_
  refine jo_iadd d_X12_aHunt_97 ?_
  refine jo_callV (st := []) (m_X12_newBeastTo hs n (v1 + 1) M) ok_X12_newBeastTo (And.intro (Nat.le_of_ble_eq_true rfl) (Nat.le_of_ble_eq_true rfl)) lm_X12_209 in_X12_newBeastTo se_X12_newBeastTo rfl kc_167 rfl rfl (And.intro (Nat.zero_le _) (Nat.zero_le _)) rfl (Nat.le_of_ble_eq_true rfl) d_X12_aHunt_98 (fun r1 M2 => ?_)
  refine jo_if_ne 106 d_X12_aHunt_101 (by decide) ?_ ?_
  · skip
    refine jo_aload 0 d_X12_aHunt_106 rfl rfl ?_
    refine jo_getR (k := 0) cl_12 (Nat.le_of_ble_eq_true rfl) lk_X12_7 rfl kc_167 kr_167_0 d_X12_aHunt_107 ?_
    refine jo_iload 2 d_X12_aHunt_110 rfl rfl ?_
    refine jo_dup2 d_X12_aHunt_111 rfl rfl ?_
    refine jo_iald (N := 3160) kc_168 d_X12_aHunt_112 ?_
    refine jo_iconst 1 d_X12_aHunt_113 ?_
    refine jo_aload 0 d_X12_aHunt_114 rfl rfl ?_
    refine jo_getR (k := 0) cl_12 (Nat.le_of_ble_eq_true rfl) lk_X12_7 rfl kc_167 kr_167_0 d_X12_aHunt_115 ?_
    refine jo_iload 1 d_X12_aHunt_118 rfl rfl ?_
    refine jo_iconst 1 d_X12_aHunt_119 ?_
    refine jo_iadd d_X12_aHunt_120 ?_
    refine jo_iald (N := 3160) kc_168 d_X12_aHunt_121 ?_
    refine jo_ishl d_X12_aHunt_122 ?_
    refine jo_ior d_X12_aHunt_123 ?_
    refine jo_iast (N := 3160) kc_168 d_X12_aHunt_124 (fun M3 => ?_)
    refine jo_iconst 1 d_X12_aHunt_125 ?_
    exact jo_zret rfl (by decide) d_X12_aHunt_126
  · skip
    refine jo_iconst 0 d_X12_aHunt_104 ?_
    exact jo_zret rfl (by decide) d_X12_aHunt_105
def f_X12_aHunt (n : Nat) (M : JMem) : Option (Int × JMem) := letv 2512 fun y1 => bnd (f_X12_ahead n M) fun _ M3 => bnd (f_X12_newBeastTo n y1 M3) fun r4 M5 => if jw r4 = 0 then (some (0, M5)) else (chk (jin y1 3160) <| letv ((2072 + (10 * (M5 168 (jw y1).toNat))) + 6) fun y6 => bnd (f_X12_isName n M5) fun r7 M8 => if jw r7 = 0 then (f_X12_aHunt_L94 n y1 y6 M8) else (chk (jin 2018 3160) <| bnd (f_X12_findHere n 102 (M8 168 (jw 2018).toNat) M8) fun r9 M10 => letv r9 fun y11 => if jw y11 = jw (-1) then (f_X12_aHunt_L94 n y1 y6 M10) else (chk (jin y1 3160) <| if jw y11 = jw (M10 168 (jw y1).toNat) then (f_X12_aHunt_L88 n M10) else (chk (jin y6 3160) <| if jw (jand (jshr (M10 168 (jw y6).toNat) y11) 1) = jw 1 then (f_X12_aHunt_L88 n M10) else (f_X12_aHunt_L94 n y1 y6 M10)))))
set_option maxRecDepth 4000 in
theorem t_X12_aHunt {g : JG} {ad : Nat → Nat} (hs : jStr g ad) (n : Nat) (M : JMem) : jB g D_X12_aHunt ad 0 [some (.ref 167), none, none, none] [] M (f_X12_aHunt n M) := by
  unfold f_X12_aHunt
  refine jo_sipush 2512 d_X12_aHunt_0 (by decide) ?_
  refine jo_istore 1 d_X12_aHunt_3 rfl (Nat.le_of_ble_eq_true rfl) (fun y1 => ?_)
  refine jo_aload 0 d_X12_aHunt_4 rfl rfl ?_
  refine jo_callV (st := []) (m_X12_ahead hs n M) ok_X12_ahead (And.intro (Nat.le_of_ble_eq_true rfl) (Nat.le_of_ble_eq_true rfl)) lm_X12_163 in_X12_ahead se_X12_ahead rfl kc_167 rfl rfl (And.intro (Nat.zero_le _) (Nat.zero_le _)) rfl (Nat.le_of_ble_eq_true rfl) d_X12_aHunt_5 (fun _ M3 => ?_)
  refine jo_aload 0 d_X12_aHunt_8 rfl rfl ?_
  refine jo_iload 1 d_X12_aHunt_9 rfl rfl ?_
  refine jo_callV (st := []) (m_X12_newBeastTo hs n y1 M3) ok_X12_newBeastTo (And.intro (Nat.le_of_ble_eq_true rfl) (Nat.le_of_ble_eq_true rfl)) lm_X12_209 in_X12_newBeastTo se_X12_newBeastTo rfl kc_167 rfl rfl (And.intro (Nat.zero_le _) (Nat.zero_le _)) rfl (Nat.le_of_ble_eq_true rfl) d_X12_aHunt_10 (fun r4 M5 => ?_)
  refine jo_if_ne 18 d_X12_aHunt_13 (by decide) ?_ ?_
  · skip
    refine jo_sipush 2072 d_X12_aHunt_18 (by decide) ?_
    refine jo_bipush 10 d_X12_aHunt_21 (by decide) ?_
    refine jo_aload 0 d_X12_aHunt_23 rfl rfl ?_
    refine jo_getR (k := 0) cl_12 (Nat.le_of_ble_eq_true rfl) lk_X12_7 rfl kc_167 kr_167_0 d_X12_aHunt_24 ?_
    refine jo_iload 1 d_X12_aHunt_27 rfl rfl ?_
    refine jo_iald (N := 3160) kc_168 d_X12_aHunt_28 ?_
    refine jo_imul d_X12_aHunt_29 ?_
    refine jo_iadd d_X12_aHunt_30 ?_
    refine jo_bipush 6 d_X12_aHunt_31 (by decide) ?_
    refine jo_iadd d_X12_aHunt_33 ?_
    refine jo_istore 2 d_X12_aHunt_34 rfl (Nat.le_of_ble_eq_true rfl) (fun y6 => ?_)
    refine jo_aload 0 d_X12_aHunt_35 rfl rfl ?_
    refine jo_ldcS hs d_X12_aHunt_36 ?_
    refine jo_callV (st := []) (m_X12_isName hs n M5) ok_X12_isName (And.intro (Nat.le_of_ble_eq_true rfl) (Nat.le_of_ble_eq_true rfl)) lm_X12_182 in_X12_isName se_X12_isName rfl kc_167 rfl rfl (And.intro (Nat.zero_le _) (Nat.zero_le _)) rfl (Nat.le_of_ble_eq_true rfl) d_X12_aHunt_38 (fun r7 M8 => ?_)
    refine jo_if_eq 94 d_X12_aHunt_41 (by decide) ?_ ?_
    · skip
      exact jO.sub (t_X12_aHunt_L94 hs n y1 y6 M8) (And.intro rfl (And.intro rfl (And.intro rfl True.intro)))
    · skip
      refine jo_aload 0 d_X12_aHunt_44 rfl rfl ?_
      refine jo_bipush 102 d_X12_aHunt_45 (by decide) ?_
      refine jo_aload 0 d_X12_aHunt_47 rfl rfl ?_
      refine jo_getR (k := 0) cl_12 (Nat.le_of_ble_eq_true rfl) lk_X12_7 rfl kc_167 kr_167_0 d_X12_aHunt_48 ?_
      refine jo_sipush 2018 d_X12_aHunt_51 (by decide) ?_
      refine jo_iald (N := 3160) kc_168 d_X12_aHunt_54 ?_
      refine jo_callV (st := []) (m_X12_findHere hs n 102 (M8 168 (jw 2018).toNat) M8) ok_X12_findHere (And.intro (Nat.le_of_ble_eq_true rfl) (Nat.le_of_ble_eq_true rfl)) lm_X12_186 in_X12_findHere se_X12_findHere rfl kc_167 rfl rfl (And.intro (Nat.zero_le _) (Nat.zero_le _)) rfl (Nat.le_of_ble_eq_true rfl) d_X12_aHunt_55 (fun r9 M10 => ?_)
      refine jo_istore 3 d_X12_aHunt_58 rfl (Nat.le_of_ble_eq_true rfl) (fun y11 => ?_)
      refine jo_iload 3 d_X12_aHunt_59 rfl rfl ?_
      refine jo_iconst (-1) d_X12_aHunt_60 ?_
      refine jo_icmp_eq 94 d_X12_aHunt_61 (by decide) ?_ ?_
      · skip
        exact jO.sub (t_X12_aHunt_L94 hs n y1 y6 M10) (And.intro rfl (And.intro rfl (And.intro rfl True.intro)))
      · skip
        refine jo_iload 3 d_X12_aHunt_64 rfl rfl ?_
        refine jo_aload 0 d_X12_aHunt_65 rfl rfl ?_
        refine jo_getR (k := 0) cl_12 (Nat.le_of_ble_eq_true rfl) lk_X12_7 rfl kc_167 kr_167_0 d_X12_aHunt_66 ?_
        refine jo_iload 1 d_X12_aHunt_69 rfl rfl ?_
        refine jo_iald (N := 3160) kc_168 d_X12_aHunt_70 ?_
        refine jo_icmp_eq 88 d_X12_aHunt_71 (by decide) ?_ ?_
        · skip
          exact jO.sub (t_X12_aHunt_L88 hs n M10) (And.intro rfl True.intro)
        · skip
          refine jo_aload 0 d_X12_aHunt_74 rfl rfl ?_
          refine jo_getR (k := 0) cl_12 (Nat.le_of_ble_eq_true rfl) lk_X12_7 rfl kc_167 kr_167_0 d_X12_aHunt_75 ?_
          refine jo_iload 2 d_X12_aHunt_78 rfl rfl ?_
          refine jo_iald (N := 3160) kc_168 d_X12_aHunt_79 ?_
          refine jo_iload 3 d_X12_aHunt_80 rfl rfl ?_
          refine jo_ishr d_X12_aHunt_81 ?_
          refine jo_iconst 1 d_X12_aHunt_82 ?_
          refine jo_iand d_X12_aHunt_83 ?_
          refine jo_iconst 1 d_X12_aHunt_84 ?_
          refine jo_icmp_ne 94 d_X12_aHunt_85 (by decide) ?_ ?_
          · skip
            exact jO.sub (t_X12_aHunt_L94 hs n y1 y6 M10) (And.intro rfl (And.intro rfl (And.intro rfl True.intro)))
          · skip
            exact jO.sub (t_X12_aHunt_L88 hs n M10) (And.intro rfl True.intro)
  · skip
    refine jo_iconst 0 d_X12_aHunt_16 ?_
    exact jo_zret rfl (by decide) d_X12_aHunt_17
theorem m_X12_aHunt {g : JG} {ad : Nat → Nat} (hs : jStr g ad) (n : Nat) (M : JMem) : jMet g jNN ad jR D_X12_aHunt yX12_aHunt [.ref 167] M (f_X12_aHunt n M) :=
  jMet.of (lo0 := [some (.ref 167), none, none, none]) (by decide) rfl rfl (Nat.le_of_ble_eq_true rfl) (And.intro rfl True.intro) (t_X12_aHunt hs n M)
/-! CageLeaveModel.aTicket()Z -/
def D_X12_aTicket : JD := (RX12, cX12_aTicket, 4, some .boolean, "aTicket", { frames := 10, cells := 0, slots := 0, locals := 241 })
theorem ok_X12_aTicket : jOk D_X12_aTicket yX12_aTicket 0 := ⟨jTW_mem (k := 1647) (by decide +kernel) rfl, jTW_mem (k := 151) (by decide +kernel) rfl, ⟨by decide +kernel, by decide +kernel⟩, by decide +kernel, rfl, rfl⟩
theorem in_X12_aTicket : Cond.instanceMethod yX12_aTicket ∈ jTW := jTW_mem (k := 1646) (by decide +kernel) rfl
theorem se_X12_aTicket : Cond.selects yX12_aTicket.cls yX12_aTicket yX12_aTicket ∈ jTW := jTW_mem (k := 72) (by decide +kernel) rfl
theorem d_X12_aTicket_0 : decode (D_X12_aTicket).2.1 0 = .ok (.sipush 2512, 3) := by decide +kernel
theorem d_X12_aTicket_3 : decode (D_X12_aTicket).2.1 3 = .ok (.istore_n 1, 1) := by decide +kernel
theorem d_X12_aTicket_4 : decode (D_X12_aTicket).2.1 4 = .ok (.aload_n 0, 1) := by decide +kernel
theorem d_X12_aTicket_5 : decode (D_X12_aTicket).2.1 5 = .ok (.invokevirtual 163, 3) := by decide +kernel
theorem d_X12_aTicket_8 : decode (D_X12_aTicket).2.1 8 = .ok (.aload_n 0, 1) := by decide +kernel
theorem d_X12_aTicket_9 : decode (D_X12_aTicket).2.1 9 = .ok (.iload_n 1, 1) := by decide +kernel
theorem d_X12_aTicket_10 : decode (D_X12_aTicket).2.1 10 = .ok (.invokevirtual 209, 3) := by decide +kernel
theorem d_X12_aTicket_13 : decode (D_X12_aTicket).2.1 13 = .ok (.ifCond .ne 5, 3) := by decide +kernel
theorem d_X12_aTicket_16 : decode (D_X12_aTicket).2.1 16 = .ok (.iconst 0, 1) := by decide +kernel
theorem d_X12_aTicket_17 : decode (D_X12_aTicket).2.1 17 = .ok (.ireturn, 1) := by decide +kernel
theorem d_X12_aTicket_18 : decode (D_X12_aTicket).2.1 18 = .ok (.iconst 0, 1) := by decide +kernel
theorem d_X12_aTicket_19 : decode (D_X12_aTicket).2.1 19 = .ok (.istore_n 2, 1) := by decide +kernel
theorem d_X12_aTicket_20 : decode (D_X12_aTicket).2.1 20 = .ok (.aload_n 0, 1) := by decide +kernel
theorem d_X12_aTicket_21 : decode (D_X12_aTicket).2.1 21 = .ok (.ldc 180, 2) := by decide +kernel
theorem d_X12_aTicket_23 : decode (D_X12_aTicket).2.1 23 = .ok (.invokevirtual 182, 3) := by decide +kernel
theorem d_X12_aTicket_26 : decode (D_X12_aTicket).2.1 26 = .ok (.ifCond .eq 57, 3) := by decide +kernel
theorem d_X12_aTicket_29 : decode (D_X12_aTicket).2.1 29 = .ok (.aload_n 0, 1) := by decide +kernel
theorem d_X12_aTicket_30 : decode (D_X12_aTicket).2.1 30 = .ok (.bipush 94, 2) := by decide +kernel
theorem d_X12_aTicket_32 : decode (D_X12_aTicket).2.1 32 = .ok (.aload_n 0, 1) := by decide +kernel
theorem d_X12_aTicket_33 : decode (D_X12_aTicket).2.1 33 = .ok (.getfield 7, 3) := by decide +kernel
theorem d_X12_aTicket_36 : decode (D_X12_aTicket).2.1 36 = .ok (.sipush 2017, 3) := by decide +kernel
theorem d_X12_aTicket_39 : decode (D_X12_aTicket).2.1 39 = .ok (.iaload, 1) := by decide +kernel
theorem d_X12_aTicket_40 : decode (D_X12_aTicket).2.1 40 = .ok (.invokevirtual 186, 3) := by decide +kernel
theorem d_X12_aTicket_43 : decode (D_X12_aTicket).2.1 43 = .ok (.istore_n 3, 1) := by decide +kernel
theorem d_X12_aTicket_44 : decode (D_X12_aTicket).2.1 44 = .ok (.iload_n 3, 1) := by decide +kernel
theorem d_X12_aTicket_45 : decode (D_X12_aTicket).2.1 45 = .ok (.iconst (-1), 1) := by decide +kernel
theorem d_X12_aTicket_46 : decode (D_X12_aTicket).2.1 46 = .ok (.if_icmp .ne 9, 3) := by decide +kernel
theorem d_X12_aTicket_49 : decode (D_X12_aTicket).2.1 49 = .ok (.aload_n 0, 1) := by decide +kernel
theorem d_X12_aTicket_50 : decode (D_X12_aTicket).2.1 50 = .ok (.iconst 3, 1) := by decide +kernel
theorem d_X12_aTicket_51 : decode (D_X12_aTicket).2.1 51 = .ok (.invokevirtual 169, 3) := by decide +kernel
theorem d_X12_aTicket_54 : decode (D_X12_aTicket).2.1 54 = .ok (.ireturn, 1) := by decide +kernel
theorem d_X12_aTicket_55 : decode (D_X12_aTicket).2.1 55 = .ok (.iload_n 2, 1) := by decide +kernel
theorem d_X12_aTicket_56 : decode (D_X12_aTicket).2.1 56 = .ok (.iload_n 3, 1) := by decide +kernel
theorem d_X12_aTicket_57 : decode (D_X12_aTicket).2.1 57 = .ok (.ishr, 1) := by decide +kernel
theorem d_X12_aTicket_58 : decode (D_X12_aTicket).2.1 58 = .ok (.iconst 1, 1) := by decide +kernel
theorem d_X12_aTicket_59 : decode (D_X12_aTicket).2.1 59 = .ok (.iand, 1) := by decide +kernel
theorem d_X12_aTicket_60 : decode (D_X12_aTicket).2.1 60 = .ok (.iconst 1, 1) := by decide +kernel
theorem d_X12_aTicket_61 : decode (D_X12_aTicket).2.1 61 = .ok (.if_icmp .ne 9, 3) := by decide +kernel
theorem d_X12_aTicket_64 : decode (D_X12_aTicket).2.1 64 = .ok (.aload_n 0, 1) := by decide +kernel
theorem d_X12_aTicket_65 : decode (D_X12_aTicket).2.1 65 = .ok (.iconst 5, 1) := by decide +kernel
theorem d_X12_aTicket_66 : decode (D_X12_aTicket).2.1 66 = .ok (.invokevirtual 169, 3) := by decide +kernel
theorem d_X12_aTicket_69 : decode (D_X12_aTicket).2.1 69 = .ok (.ireturn, 1) := by decide +kernel
theorem d_X12_aTicket_70 : decode (D_X12_aTicket).2.1 70 = .ok (.iload_n 2, 1) := by decide +kernel
theorem d_X12_aTicket_71 : decode (D_X12_aTicket).2.1 71 = .ok (.iconst 1, 1) := by decide +kernel
theorem d_X12_aTicket_72 : decode (D_X12_aTicket).2.1 72 = .ok (.iload_n 3, 1) := by decide +kernel
theorem d_X12_aTicket_73 : decode (D_X12_aTicket).2.1 73 = .ok (.ishl, 1) := by decide +kernel
theorem d_X12_aTicket_74 : decode (D_X12_aTicket).2.1 74 = .ok (.ior, 1) := by decide +kernel
theorem d_X12_aTicket_75 : decode (D_X12_aTicket).2.1 75 = .ok (.istore_n 2, 1) := by decide +kernel
theorem d_X12_aTicket_76 : decode (D_X12_aTicket).2.1 76 = .ok (.aload_n 0, 1) := by decide +kernel
theorem d_X12_aTicket_77 : decode (D_X12_aTicket).2.1 77 = .ok (.invokevirtual 163, 3) := by decide +kernel
theorem d_X12_aTicket_80 : decode (D_X12_aTicket).2.1 80 = .ok (.goto (-60), 3) := by decide +kernel
theorem d_X12_aTicket_83 : decode (D_X12_aTicket).2.1 83 = .ok (.aload_n 0, 1) := by decide +kernel
theorem d_X12_aTicket_84 : decode (D_X12_aTicket).2.1 84 = .ok (.getfield 7, 3) := by decide +kernel
theorem d_X12_aTicket_87 : decode (D_X12_aTicket).2.1 87 = .ok (.sipush 2072, 3) := by decide +kernel
theorem d_X12_aTicket_90 : decode (D_X12_aTicket).2.1 90 = .ok (.bipush 10, 2) := by decide +kernel
theorem d_X12_aTicket_92 : decode (D_X12_aTicket).2.1 92 = .ok (.aload_n 0, 1) := by decide +kernel
theorem d_X12_aTicket_93 : decode (D_X12_aTicket).2.1 93 = .ok (.getfield 7, 3) := by decide +kernel
theorem d_X12_aTicket_96 : decode (D_X12_aTicket).2.1 96 = .ok (.iload_n 1, 1) := by decide +kernel
theorem d_X12_aTicket_97 : decode (D_X12_aTicket).2.1 97 = .ok (.iaload, 1) := by decide +kernel
theorem d_X12_aTicket_98 : decode (D_X12_aTicket).2.1 98 = .ok (.imul, 1) := by decide +kernel
theorem d_X12_aTicket_99 : decode (D_X12_aTicket).2.1 99 = .ok (.iadd, 1) := by decide +kernel
theorem d_X12_aTicket_100 : decode (D_X12_aTicket).2.1 100 = .ok (.iconst 5, 1) := by decide +kernel
theorem d_X12_aTicket_101 : decode (D_X12_aTicket).2.1 101 = .ok (.iadd, 1) := by decide +kernel
theorem d_X12_aTicket_102 : decode (D_X12_aTicket).2.1 102 = .ok (.iload_n 2, 1) := by decide +kernel
theorem d_X12_aTicket_103 : decode (D_X12_aTicket).2.1 103 = .ok (.iastore, 1) := by decide +kernel
theorem d_X12_aTicket_104 : decode (D_X12_aTicket).2.1 104 = .ok (.iconst 1, 1) := by decide +kernel
theorem d_X12_aTicket_105 : decode (D_X12_aTicket).2.1 105 = .ok (.ireturn, 1) := by decide +kernel
def f_X12_aTicket_L49 (n : Nat) (M : JMem) : Option (Int × JMem) := bnd (f_X12_fails n 3 M) fun r1 M2 => chk (jw r1 = 0 ∨ jw r1 = 1) (some (r1, M2))
set_option maxRecDepth 4000 in
theorem t_X12_aTicket_L49 {g : JG} {ad : Nat → Nat} (hs : jStr g ad) (n : Nat) (M : JMem) : jB g D_X12_aTicket ad 49 [some (.ref 167), none, none, none] [] M (f_X12_aTicket_L49 n M) := by
  unfold f_X12_aTicket_L49
  refine jo_aload 0 d_X12_aTicket_49 rfl rfl ?_
  refine jo_iconst 3 d_X12_aTicket_50 ?_
  refine jo_callV (st := []) (m_X12_fails hs n 3 M) ok_X12_fails (And.intro (Nat.le_of_ble_eq_true rfl) (Nat.le_of_ble_eq_true rfl)) lm_X12_169 in_X12_fails se_X12_fails rfl kc_167 rfl rfl (And.intro (Nat.zero_le _) (Nat.zero_le _)) rfl (Nat.le_of_ble_eq_true rfl) d_X12_aTicket_51 (fun r1 M2 => ?_)
  exact jo_zretq rfl d_X12_aTicket_54
def f_X12_aTicket_L64 (n : Nat) (M : JMem) : Option (Int × JMem) := bnd (f_X12_fails n 5 M) fun r1 M2 => chk (jw r1 = 0 ∨ jw r1 = 1) (some (r1, M2))
set_option maxRecDepth 4000 in
theorem t_X12_aTicket_L64 {g : JG} {ad : Nat → Nat} (hs : jStr g ad) (n : Nat) (M : JMem) : jB g D_X12_aTicket ad 64 [some (.ref 167), none, none, none] [] M (f_X12_aTicket_L64 n M) := by
  unfold f_X12_aTicket_L64
  refine jo_aload 0 d_X12_aTicket_64 rfl rfl ?_
  refine jo_iconst 5 d_X12_aTicket_65 ?_
  refine jo_callV (st := []) (m_X12_fails hs n 5 M) ok_X12_fails (And.intro (Nat.le_of_ble_eq_true rfl) (Nat.le_of_ble_eq_true rfl)) lm_X12_169 in_X12_fails se_X12_fails rfl kc_167 rfl rfl (And.intro (Nat.zero_le _) (Nat.zero_le _)) rfl (Nat.le_of_ble_eq_true rfl) d_X12_aTicket_66 (fun r1 M2 => ?_)
  exact jo_zretq rfl d_X12_aTicket_69
def f_X12_aTicket_L83 (n : Nat) (v1 v2 : Int) (M : JMem) : Option (Int × JMem) := chk (jin v1 3160) <| chk (jin ((2072 + (10 * (M 168 (jw v1).toNat))) + 5) 3160) <| letm (jup M 168 (jw ((2072 + (10 * (M 168 (jw v1).toNat))) + 5)).toNat v2) fun M1 => some (1, M1)
set_option maxRecDepth 4000 in
theorem t_X12_aTicket_L83 {g : JG} {ad : Nat → Nat} (hs : jStr g ad) (n : Nat) (v1 v2 : Int) (M : JMem) : jB g D_X12_aTicket ad 83 [some (.ref 167), some (ji v1), some (ji v2), none] [] M (f_X12_aTicket_L83 n v1 v2 M) := by
  unfold f_X12_aTicket_L83
  refine jo_aload 0 d_X12_aTicket_83 rfl rfl ?_
  refine jo_getR (k := 0) cl_12 (Nat.le_of_ble_eq_true rfl) lk_X12_7 rfl kc_167 kr_167_0 d_X12_aTicket_84 ?_
  refine jo_sipush 2072 d_X12_aTicket_87 (by decide) ?_
  refine jo_bipush 10 d_X12_aTicket_90 (by decide) ?_
  refine jo_aload 0 d_X12_aTicket_92 rfl rfl ?_
  refine jo_getR (k := 0) cl_12 (Nat.le_of_ble_eq_true rfl) lk_X12_7 rfl kc_167 kr_167_0 d_X12_aTicket_93 ?_
  refine jo_iload 1 d_X12_aTicket_96 rfl rfl ?_
  refine jo_iald (N := 3160) kc_168 d_X12_aTicket_97 ?_
  refine jo_imul d_X12_aTicket_98 ?_
  refine jo_iadd d_X12_aTicket_99 ?_
  refine jo_iconst 5 d_X12_aTicket_100 ?_
  refine jo_iadd d_X12_aTicket_101 ?_
  refine jo_iload 2 d_X12_aTicket_102 rfl rfl ?_
  refine jo_iast (N := 3160) kc_168 d_X12_aTicket_103 (fun M1 => ?_)
  refine jo_iconst 1 d_X12_aTicket_104 ?_
  exact jo_zret rfl (by decide) d_X12_aTicket_105
def f_X12_aTicket_L20 (n : Nat) : Nat → Int → Int → JMem → Option (Int × JMem)
  | 0, _, _, _ => none
  | k + 1, v1, v2, M => bnd (f_X12_isName n M) fun r1 M2 => if jw r1 = 0 then (f_X12_aTicket_L83 n v1 v2 M2) else (chk (jin 2017 3160) <| bnd (f_X12_findHere n 94 (M2 168 (jw 2017).toNat) M2) fun r3 M4 => letv r3 fun y5 => if jw y5 = jw (-1) then (f_X12_aTicket_L49 n M4) else (if jw (jand (jshr v2 y5) 1) = jw 1 then (f_X12_aTicket_L64 n M4) else (letv (jor v2 (jshl 1 y5)) fun y6 => bnd (f_X12_ahead n M4) fun _ M8 => (f_X12_aTicket_L20 n k) v1 y6 M8)))
set_option maxRecDepth 4000 in
theorem t_X12_aTicket_L20 {g : JG} {ad : Nat → Nat} (hs : jStr g ad) (n : Nat) : ∀ (k : Nat) (v1 v2 : Int) (M : JMem), jB g D_X12_aTicket ad 20 [some (.ref 167), some (ji v1), some (ji v2), none] [] M (f_X12_aTicket_L20 n k v1 v2 M) := by
  intro k
  induction k with
  | zero => intro v1 v2 M; exact jO.none
  | succ k ih =>
    intro v1 v2 M
    rw [f_X12_aTicket_L20]
    refine jo_aload 0 d_X12_aTicket_20 rfl rfl ?_
    refine jo_ldcS hs d_X12_aTicket_21 ?_
    refine jo_callV (st := []) (m_X12_isName hs n M) ok_X12_isName (And.intro (Nat.le_of_ble_eq_true rfl) (Nat.le_of_ble_eq_true rfl)) lm_X12_182 in_X12_isName se_X12_isName rfl kc_167 rfl rfl (And.intro (Nat.zero_le _) (Nat.zero_le _)) rfl (Nat.le_of_ble_eq_true rfl) d_X12_aTicket_23 (fun r1 M2 => ?_)
    refine jo_if_eq 83 d_X12_aTicket_26 (by decide) ?_ ?_
    · skip
      exact jO.sub (t_X12_aTicket_L83 hs n v1 v2 M2) (And.intro rfl (And.intro rfl (And.intro rfl True.intro)))
    · skip
      refine jo_aload 0 d_X12_aTicket_29 rfl rfl ?_
      refine jo_bipush 94 d_X12_aTicket_30 (by decide) ?_
      refine jo_aload 0 d_X12_aTicket_32 rfl rfl ?_
      refine jo_getR (k := 0) cl_12 (Nat.le_of_ble_eq_true rfl) lk_X12_7 rfl kc_167 kr_167_0 d_X12_aTicket_33 ?_
      refine jo_sipush 2017 d_X12_aTicket_36 (by decide) ?_
      refine jo_iald (N := 3160) kc_168 d_X12_aTicket_39 ?_
      refine jo_callV (st := []) (m_X12_findHere hs n 94 (M2 168 (jw 2017).toNat) M2) ok_X12_findHere (And.intro (Nat.le_of_ble_eq_true rfl) (Nat.le_of_ble_eq_true rfl)) lm_X12_186 in_X12_findHere se_X12_findHere rfl kc_167 rfl rfl (And.intro (Nat.zero_le _) (Nat.zero_le _)) rfl (Nat.le_of_ble_eq_true rfl) d_X12_aTicket_40 (fun r3 M4 => ?_)
      refine jo_istore 3 d_X12_aTicket_43 rfl (Nat.le_of_ble_eq_true rfl) (fun y5 => ?_)
      refine jo_iload 3 d_X12_aTicket_44 rfl rfl ?_
      refine jo_iconst (-1) d_X12_aTicket_45 ?_
      refine jo_icmp_ne 55 d_X12_aTicket_46 (by decide) ?_ ?_
      · skip
        refine jo_iload 2 d_X12_aTicket_55 rfl rfl ?_
        refine jo_iload 3 d_X12_aTicket_56 rfl rfl ?_
        refine jo_ishr d_X12_aTicket_57 ?_
        refine jo_iconst 1 d_X12_aTicket_58 ?_
        refine jo_iand d_X12_aTicket_59 ?_
        refine jo_iconst 1 d_X12_aTicket_60 ?_
        refine jo_icmp_ne 70 d_X12_aTicket_61 (by decide) ?_ ?_
        · skip
          refine jo_iload 2 d_X12_aTicket_70 rfl rfl ?_
          refine jo_iconst 1 d_X12_aTicket_71 ?_
          refine jo_iload 3 d_X12_aTicket_72 rfl rfl ?_
          refine jo_ishl d_X12_aTicket_73 ?_
          refine jo_ior d_X12_aTicket_74 ?_
          refine jo_istore 2 d_X12_aTicket_75 rfl (Nat.le_of_ble_eq_true rfl) (fun y6 => ?_)
          refine jo_aload 0 d_X12_aTicket_76 rfl rfl ?_
          refine jo_callV (st := []) (m_X12_ahead hs n M4) ok_X12_ahead (And.intro (Nat.le_of_ble_eq_true rfl) (Nat.le_of_ble_eq_true rfl)) lm_X12_163 in_X12_ahead se_X12_ahead rfl kc_167 rfl rfl (And.intro (Nat.zero_le _) (Nat.zero_le _)) rfl (Nat.le_of_ble_eq_true rfl) d_X12_aTicket_77 (fun _ M8 => ?_)
          refine jo_goto 20 d_X12_aTicket_80 (by decide) ?_
          exact jO.sub (ih v1 y6 M8) (And.intro rfl (And.intro rfl (And.intro rfl True.intro)))
        · skip
          exact jO.sub (t_X12_aTicket_L64 hs n M4) (And.intro rfl True.intro)
      · skip
        exact jO.sub (t_X12_aTicket_L49 hs n M4) (And.intro rfl True.intro)
def f_X12_aTicket (n : Nat) (M : JMem) : Option (Int × JMem) := letv 2512 fun y1 => bnd (f_X12_ahead n M) fun _ M3 => bnd (f_X12_newBeastTo n y1 M3) fun r4 M5 => if jw r4 = 0 then (some (0, M5)) else (letv 0 fun y6 => f_X12_aTicket_L20 n n y1 y6 M5)
set_option maxRecDepth 4000 in
theorem t_X12_aTicket {g : JG} {ad : Nat → Nat} (hs : jStr g ad) (n : Nat) (M : JMem) : jB g D_X12_aTicket ad 0 [some (.ref 167), none, none, none] [] M (f_X12_aTicket n M) := by
  unfold f_X12_aTicket
  refine jo_sipush 2512 d_X12_aTicket_0 (by decide) ?_
  refine jo_istore 1 d_X12_aTicket_3 rfl (Nat.le_of_ble_eq_true rfl) (fun y1 => ?_)
  refine jo_aload 0 d_X12_aTicket_4 rfl rfl ?_
  refine jo_callV (st := []) (m_X12_ahead hs n M) ok_X12_ahead (And.intro (Nat.le_of_ble_eq_true rfl) (Nat.le_of_ble_eq_true rfl)) lm_X12_163 in_X12_ahead se_X12_ahead rfl kc_167 rfl rfl (And.intro (Nat.zero_le _) (Nat.zero_le _)) rfl (Nat.le_of_ble_eq_true rfl) d_X12_aTicket_5 (fun _ M3 => ?_)
  refine jo_aload 0 d_X12_aTicket_8 rfl rfl ?_
  refine jo_iload 1 d_X12_aTicket_9 rfl rfl ?_
  refine jo_callV (st := []) (m_X12_newBeastTo hs n y1 M3) ok_X12_newBeastTo (And.intro (Nat.le_of_ble_eq_true rfl) (Nat.le_of_ble_eq_true rfl)) lm_X12_209 in_X12_newBeastTo se_X12_newBeastTo rfl kc_167 rfl rfl (And.intro (Nat.zero_le _) (Nat.zero_le _)) rfl (Nat.le_of_ble_eq_true rfl) d_X12_aTicket_10 (fun r4 M5 => ?_)
  refine jo_if_ne 18 d_X12_aTicket_13 (by decide) ?_ ?_
  · skip
    refine jo_iconst 0 d_X12_aTicket_18 ?_
    refine jo_istore 2 d_X12_aTicket_19 rfl (Nat.le_of_ble_eq_true rfl) (fun y6 => ?_)
    exact jO.sub (t_X12_aTicket_L20 hs n n y1 y6 M5) (And.intro rfl (And.intro rfl (And.intro rfl True.intro)))
  · skip
    refine jo_iconst 0 d_X12_aTicket_16 ?_
    exact jo_zret rfl (by decide) d_X12_aTicket_17
theorem m_X12_aTicket {g : JG} {ad : Nat → Nat} (hs : jStr g ad) (n : Nat) (M : JMem) : jMet g jNN ad jR D_X12_aTicket yX12_aTicket [.ref 167] M (f_X12_aTicket n M) :=
  jMet.of (lo0 := [some (.ref 167), none, none, none]) (by decide) rfl rfl (Nat.le_of_ble_eq_true rfl) (And.intro rfl True.intro) (t_X12_aTicket hs n M)
/-! CageLeaveModel.wantWord(Ljava/lang/String;I)Z -/
def D_X12_wantWord : JD := (RX12, cX12_wantWord, 3, some .boolean, "wantWord", { frames := 7, cells := 0, slots := 0, locals := 176 })
theorem ok_X12_wantWord : jOk D_X12_wantWord yX12_wantWord 2 := ⟨jTW_mem (k := 1619) (by decide +kernel) rfl, jTW_mem (k := 151) (by decide +kernel) rfl, ⟨by decide +kernel, by decide +kernel⟩, by decide +kernel, rfl, rfl⟩
theorem in_X12_wantWord : Cond.instanceMethod yX12_wantWord ∈ jTW := jTW_mem (k := 1618) (by decide +kernel) rfl
theorem se_X12_wantWord : Cond.selects yX12_wantWord.cls yX12_wantWord yX12_wantWord ∈ jTW := jTW_mem (k := 65) (by decide +kernel) rfl
theorem d_X12_wantWord_0 : decode (D_X12_wantWord).2.1 0 = .ok (.aload_n 0, 1) := by decide +kernel
theorem d_X12_wantWord_1 : decode (D_X12_wantWord).2.1 1 = .ok (.aload_n 1, 1) := by decide +kernel
theorem d_X12_wantWord_2 : decode (D_X12_wantWord).2.1 2 = .ok (.invokevirtual 172, 3) := by decide +kernel
theorem d_X12_wantWord_5 : decode (D_X12_wantWord).2.1 5 = .ok (.iload_n 2, 1) := by decide +kernel
theorem d_X12_wantWord_6 : decode (D_X12_wantWord).2.1 6 = .ok (.if_icmp .eq 9, 3) := by decide +kernel
theorem d_X12_wantWord_9 : decode (D_X12_wantWord).2.1 9 = .ok (.aload_n 0, 1) := by decide +kernel
theorem d_X12_wantWord_10 : decode (D_X12_wantWord).2.1 10 = .ok (.iconst 2, 1) := by decide +kernel
theorem d_X12_wantWord_11 : decode (D_X12_wantWord).2.1 11 = .ok (.invokevirtual 169, 3) := by decide +kernel
theorem d_X12_wantWord_14 : decode (D_X12_wantWord).2.1 14 = .ok (.ireturn, 1) := by decide +kernel
theorem d_X12_wantWord_15 : decode (D_X12_wantWord).2.1 15 = .ok (.aload_n 0, 1) := by decide +kernel
theorem d_X12_wantWord_16 : decode (D_X12_wantWord).2.1 16 = .ok (.invokevirtual 163, 3) := by decide +kernel
theorem d_X12_wantWord_19 : decode (D_X12_wantWord).2.1 19 = .ok (.iconst 1, 1) := by decide +kernel
theorem d_X12_wantWord_20 : decode (D_X12_wantWord).2.1 20 = .ok (.ireturn, 1) := by decide +kernel
def f_X12_wantWord (n : Nat) (x2 : Int) (M : JMem) : Option (Int × JMem) := bnd (f_X12_inWords n M) fun r1 M2 => if jw r1 = jw x2 then (bnd (f_X12_ahead n M2) fun _ M4 => some (1, M4)) else (bnd (f_X12_fails n 2 M2) fun r5 M6 => chk (jw r5 = 0 ∨ jw r5 = 1) (some (r5, M6)))
set_option maxRecDepth 4000 in
theorem t_X12_wantWord {g : JG} {ad : Nat → Nat} (hs : jStr g ad) (n : Nat) (x2 : Int) (M : JMem) : jB g D_X12_wantWord ad 0 [some (.ref 167), some (.ref 1001), some (ji x2)] [] M (f_X12_wantWord n x2 M) := by
  unfold f_X12_wantWord
  refine jo_aload 0 d_X12_wantWord_0 rfl rfl ?_
  refine jo_aload 1 d_X12_wantWord_1 rfl rfl ?_
  refine jo_callV (st := []) (m_X12_inWords hs n M) ok_X12_inWords (And.intro (Nat.le_of_ble_eq_true rfl) (Nat.le_of_ble_eq_true rfl)) lm_X12_172 in_X12_inWords se_X12_inWords rfl kc_167 rfl rfl (And.intro (Nat.zero_le _) (Nat.zero_le _)) rfl (Nat.le_of_ble_eq_true rfl) d_X12_wantWord_2 (fun r1 M2 => ?_)
  refine jo_iload 2 d_X12_wantWord_5 rfl rfl ?_
  refine jo_icmp_eq 15 d_X12_wantWord_6 (by decide) ?_ ?_
  · skip
    refine jo_aload 0 d_X12_wantWord_15 rfl rfl ?_
    refine jo_callV (st := []) (m_X12_ahead hs n M2) ok_X12_ahead (And.intro (Nat.le_of_ble_eq_true rfl) (Nat.le_of_ble_eq_true rfl)) lm_X12_163 in_X12_ahead se_X12_ahead rfl kc_167 rfl rfl (And.intro (Nat.zero_le _) (Nat.zero_le _)) rfl (Nat.le_of_ble_eq_true rfl) d_X12_wantWord_16 (fun _ M4 => ?_)
    refine jo_iconst 1 d_X12_wantWord_19 ?_
    exact jo_zret rfl (by decide) d_X12_wantWord_20
  · skip
    refine jo_aload 0 d_X12_wantWord_9 rfl rfl ?_
    refine jo_iconst 2 d_X12_wantWord_10 ?_
    refine jo_callV (st := []) (m_X12_fails hs n 2 M2) ok_X12_fails (And.intro (Nat.le_of_ble_eq_true rfl) (Nat.le_of_ble_eq_true rfl)) lm_X12_169 in_X12_fails se_X12_fails rfl kc_167 rfl rfl (And.intro (Nat.zero_le _) (Nat.zero_le _)) rfl (Nat.le_of_ble_eq_true rfl) d_X12_wantWord_11 (fun r5 M6 => ?_)
    exact jo_zretq rfl d_X12_wantWord_14
theorem m_X12_wantWord {g : JG} {ad : Nat → Nat} (hs : jStr g ad) (n : Nat) (x2 : Int) (M : JMem) : jMet g jNN ad jR D_X12_wantWord yX12_wantWord [.ref 167, .ref 1001, ji x2] M (f_X12_wantWord n x2 M) :=
  jMet.of (lo0 := [some (.ref 167), some (.ref 1001), some (ji x2)]) (by decide) rfl rfl (Nat.le_of_ble_eq_true rfl) (And.intro rfl (And.intro rfl (And.intro rfl True.intro))) (t_X12_wantWord hs n x2 M)
/-! CageLeaveModel.newPlaceTo(I)Z -/
def D_X12_newPlaceTo : JD := (RX12, cX12_newPlaceTo, 2, some .boolean, "newPlaceTo", { frames := 9, cells := 0, slots := 0, locals := 220 })
theorem ok_X12_newPlaceTo : jOk D_X12_newPlaceTo yX12_newPlaceTo 1 := ⟨jTW_mem (k := 1623) (by decide +kernel) rfl, jTW_mem (k := 151) (by decide +kernel) rfl, ⟨by decide +kernel, by decide +kernel⟩, by decide +kernel, rfl, rfl⟩
theorem in_X12_newPlaceTo : Cond.instanceMethod yX12_newPlaceTo ∈ jTW := jTW_mem (k := 1622) (by decide +kernel) rfl
theorem se_X12_newPlaceTo : Cond.selects yX12_newPlaceTo.cls yX12_newPlaceTo yX12_newPlaceTo ∈ jTW := jTW_mem (k := 66) (by decide +kernel) rfl
theorem d_X12_newPlaceTo_0 : decode (D_X12_newPlaceTo).2.1 0 = .ok (.aload_n 0, 1) := by decide +kernel
theorem d_X12_newPlaceTo_1 : decode (D_X12_newPlaceTo).2.1 1 = .ok (.bipush 88, 2) := by decide +kernel
theorem d_X12_newPlaceTo_3 : decode (D_X12_newPlaceTo).2.1 3 = .ok (.aload_n 0, 1) := by decide +kernel
theorem d_X12_newPlaceTo_4 : decode (D_X12_newPlaceTo).2.1 4 = .ok (.getfield 7, 3) := by decide +kernel
theorem d_X12_newPlaceTo_7 : decode (D_X12_newPlaceTo).2.1 7 = .ok (.sipush 2016, 3) := by decide +kernel
theorem d_X12_newPlaceTo_10 : decode (D_X12_newPlaceTo).2.1 10 = .ok (.iaload, 1) := by decide +kernel
theorem d_X12_newPlaceTo_11 : decode (D_X12_newPlaceTo).2.1 11 = .ok (.iload_n 1, 1) := by decide +kernel
theorem d_X12_newPlaceTo_12 : decode (D_X12_newPlaceTo).2.1 12 = .ok (.invokevirtual 189, 3) := by decide +kernel
theorem d_X12_newPlaceTo_15 : decode (D_X12_newPlaceTo).2.1 15 = .ok (.ireturn, 1) := by decide +kernel
def f_X12_newPlaceTo (n : Nat) (x1 : Int) (M : JMem) : Option (Int × JMem) := chk (jin 2016 3160) <| bnd (f_X12_oldOne n 88 (M 168 (jw 2016).toNat) x1 M) fun r1 M2 => chk (jw r1 = 0 ∨ jw r1 = 1) (some (r1, M2))
set_option maxRecDepth 4000 in
theorem t_X12_newPlaceTo {g : JG} {ad : Nat → Nat} (hs : jStr g ad) (n : Nat) (x1 : Int) (M : JMem) : jB g D_X12_newPlaceTo ad 0 [some (.ref 167), some (ji x1)] [] M (f_X12_newPlaceTo n x1 M) := by
  unfold f_X12_newPlaceTo
  refine jo_aload 0 d_X12_newPlaceTo_0 rfl rfl ?_
  refine jo_bipush 88 d_X12_newPlaceTo_1 (by decide) ?_
  refine jo_aload 0 d_X12_newPlaceTo_3 rfl rfl ?_
  refine jo_getR (k := 0) cl_12 (Nat.le_of_ble_eq_true rfl) lk_X12_7 rfl kc_167 kr_167_0 d_X12_newPlaceTo_4 ?_
  refine jo_sipush 2016 d_X12_newPlaceTo_7 (by decide) ?_
  refine jo_iald (N := 3160) kc_168 d_X12_newPlaceTo_10 ?_
  refine jo_iload 1 d_X12_newPlaceTo_11 rfl rfl ?_
  refine jo_callV (st := []) (m_X12_oldOne hs n 88 (M 168 (jw 2016).toNat) x1 M) ok_X12_oldOne (And.intro (Nat.le_of_ble_eq_true rfl) (Nat.le_of_ble_eq_true rfl)) lm_X12_189 in_X12_oldOne se_X12_oldOne rfl kc_167 rfl rfl (And.intro (Nat.zero_le _) (Nat.zero_le _)) rfl (Nat.le_of_ble_eq_true rfl) d_X12_newPlaceTo_12 (fun r1 M2 => ?_)
  exact jo_zretq rfl d_X12_newPlaceTo_15
theorem m_X12_newPlaceTo {g : JG} {ad : Nat → Nat} (hs : jStr g ad) (n : Nat) (x1 : Int) (M : JMem) : jMet g jNN ad jR D_X12_newPlaceTo yX12_newPlaceTo [.ref 167, ji x1] M (f_X12_newPlaceTo n x1 M) :=
  jMet.of (lo0 := [some (.ref 167), some (ji x1)]) (by decide) rfl rfl (Nat.le_of_ble_eq_true rfl) (And.intro rfl (And.intro rfl True.intro)) (t_X12_newPlaceTo hs n x1 M)
/-! CageLeaveModel.aTrain()Z -/
def D_X12_aTrain : JD := (RX12, cX12_aTrain, 2, some .boolean, "aTrain", { frames := 10, cells := 0, slots := 0, locals := 241 })
theorem ok_X12_aTrain : jOk D_X12_aTrain yX12_aTrain 0 := ⟨jTW_mem (k := 1615) (by decide +kernel) rfl, jTW_mem (k := 151) (by decide +kernel) rfl, ⟨by decide +kernel, by decide +kernel⟩, by decide +kernel, rfl, rfl⟩
theorem in_X12_aTrain : Cond.instanceMethod yX12_aTrain ∈ jTW := jTW_mem (k := 1614) (by decide +kernel) rfl
theorem se_X12_aTrain : Cond.selects yX12_aTrain.cls yX12_aTrain yX12_aTrain ∈ jTW := jTW_mem (k := 64) (by decide +kernel) rfl
theorem lm_X12_200 : Cond.methodLink RX12 200 yX12_newPlaceTo ∈ jTW := jTW_mem (k := 1620) (by decide +kernel) rfl
theorem lm_X12_196 : Cond.methodLink RX12 196 yX12_wantWord ∈ jTW := jTW_mem (k := 1616) (by decide +kernel) rfl
theorem d_X12_aTrain_0 : decode (D_X12_aTrain).2.1 0 = .ok (.sipush 2024, 3) := by decide +kernel
theorem d_X12_aTrain_3 : decode (D_X12_aTrain).2.1 3 = .ok (.bipush 6, 2) := by decide +kernel
theorem d_X12_aTrain_5 : decode (D_X12_aTrain).2.1 5 = .ok (.aload_n 0, 1) := by decide +kernel
theorem d_X12_aTrain_6 : decode (D_X12_aTrain).2.1 6 = .ok (.getfield 7, 3) := by decide +kernel
theorem d_X12_aTrain_9 : decode (D_X12_aTrain).2.1 9 = .ok (.sipush 2017, 3) := by decide +kernel
theorem d_X12_aTrain_12 : decode (D_X12_aTrain).2.1 12 = .ok (.iaload, 1) := by decide +kernel
theorem d_X12_aTrain_13 : decode (D_X12_aTrain).2.1 13 = .ok (.imul, 1) := by decide +kernel
theorem d_X12_aTrain_14 : decode (D_X12_aTrain).2.1 14 = .ok (.iadd, 1) := by decide +kernel
theorem d_X12_aTrain_15 : decode (D_X12_aTrain).2.1 15 = .ok (.istore_n 1, 1) := by decide +kernel
theorem d_X12_aTrain_16 : decode (D_X12_aTrain).2.1 16 = .ok (.aload_n 0, 1) := by decide +kernel
theorem d_X12_aTrain_17 : decode (D_X12_aTrain).2.1 17 = .ok (.iconst 1, 1) := by decide +kernel
theorem d_X12_aTrain_18 : decode (D_X12_aTrain).2.1 18 = .ok (.bipush 8, 2) := by decide +kernel
theorem d_X12_aTrain_20 : decode (D_X12_aTrain).2.1 20 = .ok (.bipush 6, 2) := by decide +kernel
theorem d_X12_aTrain_22 : decode (D_X12_aTrain).2.1 22 = .ok (.invokevirtual 193, 3) := by decide +kernel
theorem d_X12_aTrain_25 : decode (D_X12_aTrain).2.1 25 = .ok (.ifCond .eq 33, 3) := by decide +kernel
theorem d_X12_aTrain_28 : decode (D_X12_aTrain).2.1 28 = .ok (.aload_n 0, 1) := by decide +kernel
theorem d_X12_aTrain_29 : decode (D_X12_aTrain).2.1 29 = .ok (.ldc 180, 2) := by decide +kernel
theorem d_X12_aTrain_31 : decode (D_X12_aTrain).2.1 31 = .ok (.bipush 6, 2) := by decide +kernel
theorem d_X12_aTrain_33 : decode (D_X12_aTrain).2.1 33 = .ok (.invokevirtual 196, 3) := by decide +kernel
theorem d_X12_aTrain_36 : decode (D_X12_aTrain).2.1 36 = .ok (.ifCond .eq 22, 3) := by decide +kernel
theorem d_X12_aTrain_39 : decode (D_X12_aTrain).2.1 39 = .ok (.aload_n 0, 1) := by decide +kernel
theorem d_X12_aTrain_40 : decode (D_X12_aTrain).2.1 40 = .ok (.iload_n 1, 1) := by decide +kernel
theorem d_X12_aTrain_41 : decode (D_X12_aTrain).2.1 41 = .ok (.invokevirtual 200, 3) := by decide +kernel
theorem d_X12_aTrain_44 : decode (D_X12_aTrain).2.1 44 = .ok (.ifCond .eq 14, 3) := by decide +kernel
theorem d_X12_aTrain_47 : decode (D_X12_aTrain).2.1 47 = .ok (.aload_n 0, 1) := by decide +kernel
theorem d_X12_aTrain_48 : decode (D_X12_aTrain).2.1 48 = .ok (.ldc 180, 2) := by decide +kernel
theorem d_X12_aTrain_50 : decode (D_X12_aTrain).2.1 50 = .ok (.bipush 7, 2) := by decide +kernel
theorem d_X12_aTrain_52 : decode (D_X12_aTrain).2.1 52 = .ok (.invokevirtual 196, 3) := by decide +kernel
theorem d_X12_aTrain_55 : decode (D_X12_aTrain).2.1 55 = .ok (.ifCond .ne 5, 3) := by decide +kernel
theorem d_X12_aTrain_58 : decode (D_X12_aTrain).2.1 58 = .ok (.iconst 0, 1) := by decide +kernel
theorem d_X12_aTrain_59 : decode (D_X12_aTrain).2.1 59 = .ok (.ireturn, 1) := by decide +kernel
theorem d_X12_aTrain_60 : decode (D_X12_aTrain).2.1 60 = .ok (.aload_n 0, 1) := by decide +kernel
theorem d_X12_aTrain_61 : decode (D_X12_aTrain).2.1 61 = .ok (.ldc 180, 2) := by decide +kernel
theorem d_X12_aTrain_63 : decode (D_X12_aTrain).2.1 63 = .ok (.invokevirtual 182, 3) := by decide +kernel
theorem d_X12_aTrain_66 : decode (D_X12_aTrain).2.1 66 = .ok (.ifCond .eq 32, 3) := by decide +kernel
theorem d_X12_aTrain_69 : decode (D_X12_aTrain).2.1 69 = .ok (.aload_n 0, 1) := by decide +kernel
theorem d_X12_aTrain_70 : decode (D_X12_aTrain).2.1 70 = .ok (.bipush 88, 2) := by decide +kernel
theorem d_X12_aTrain_72 : decode (D_X12_aTrain).2.1 72 = .ok (.aload_n 0, 1) := by decide +kernel
theorem d_X12_aTrain_73 : decode (D_X12_aTrain).2.1 73 = .ok (.getfield 7, 3) := by decide +kernel
theorem d_X12_aTrain_76 : decode (D_X12_aTrain).2.1 76 = .ok (.sipush 2016, 3) := by decide +kernel
theorem d_X12_aTrain_79 : decode (D_X12_aTrain).2.1 79 = .ok (.iaload, 1) := by decide +kernel
theorem d_X12_aTrain_80 : decode (D_X12_aTrain).2.1 80 = .ok (.invokevirtual 186, 3) := by decide +kernel
theorem d_X12_aTrain_83 : decode (D_X12_aTrain).2.1 83 = .ok (.aload_n 0, 1) := by decide +kernel
theorem d_X12_aTrain_84 : decode (D_X12_aTrain).2.1 84 = .ok (.getfield 7, 3) := by decide +kernel
theorem d_X12_aTrain_87 : decode (D_X12_aTrain).2.1 87 = .ok (.iload_n 1, 1) := by decide +kernel
theorem d_X12_aTrain_88 : decode (D_X12_aTrain).2.1 88 = .ok (.iaload, 1) := by decide +kernel
theorem d_X12_aTrain_89 : decode (D_X12_aTrain).2.1 89 = .ok (.if_icmp .ne 9, 3) := by decide +kernel
theorem d_X12_aTrain_92 : decode (D_X12_aTrain).2.1 92 = .ok (.aload_n 0, 1) := by decide +kernel
theorem d_X12_aTrain_93 : decode (D_X12_aTrain).2.1 93 = .ok (.iconst 5, 1) := by decide +kernel
theorem d_X12_aTrain_94 : decode (D_X12_aTrain).2.1 94 = .ok (.invokevirtual 169, 3) := by decide +kernel
theorem d_X12_aTrain_97 : decode (D_X12_aTrain).2.1 97 = .ok (.ireturn, 1) := by decide +kernel
theorem d_X12_aTrain_98 : decode (D_X12_aTrain).2.1 98 = .ok (.aload_n 0, 1) := by decide +kernel
theorem d_X12_aTrain_99 : decode (D_X12_aTrain).2.1 99 = .ok (.iload_n 1, 1) := by decide +kernel
theorem d_X12_aTrain_100 : decode (D_X12_aTrain).2.1 100 = .ok (.iconst 1, 1) := by decide +kernel
theorem d_X12_aTrain_101 : decode (D_X12_aTrain).2.1 101 = .ok (.iadd, 1) := by decide +kernel
theorem d_X12_aTrain_102 : decode (D_X12_aTrain).2.1 102 = .ok (.invokevirtual 200, 3) := by decide +kernel
theorem d_X12_aTrain_105 : decode (D_X12_aTrain).2.1 105 = .ok (.ifCond .eq 51, 3) := by decide +kernel
theorem d_X12_aTrain_108 : decode (D_X12_aTrain).2.1 108 = .ok (.aload_n 0, 1) := by decide +kernel
theorem d_X12_aTrain_109 : decode (D_X12_aTrain).2.1 109 = .ok (.ldc 180, 2) := by decide +kernel
theorem d_X12_aTrain_111 : decode (D_X12_aTrain).2.1 111 = .ok (.bipush 8, 2) := by decide +kernel
theorem d_X12_aTrain_113 : decode (D_X12_aTrain).2.1 113 = .ok (.invokevirtual 196, 3) := by decide +kernel
theorem d_X12_aTrain_116 : decode (D_X12_aTrain).2.1 116 = .ok (.ifCond .eq 40, 3) := by decide +kernel
theorem d_X12_aTrain_119 : decode (D_X12_aTrain).2.1 119 = .ok (.aload_n 0, 1) := by decide +kernel
theorem d_X12_aTrain_120 : decode (D_X12_aTrain).2.1 120 = .ok (.iload_n 1, 1) := by decide +kernel
theorem d_X12_aTrain_121 : decode (D_X12_aTrain).2.1 121 = .ok (.iconst 2, 1) := by decide +kernel
theorem d_X12_aTrain_122 : decode (D_X12_aTrain).2.1 122 = .ok (.iadd, 1) := by decide +kernel
theorem d_X12_aTrain_123 : decode (D_X12_aTrain).2.1 123 = .ok (.iconst 0, 1) := by decide +kernel
theorem d_X12_aTrain_124 : decode (D_X12_aTrain).2.1 124 = .ok (.bipush 63, 2) := by decide +kernel
theorem d_X12_aTrain_126 : decode (D_X12_aTrain).2.1 126 = .ok (.invokevirtual 203, 3) := by decide +kernel
theorem d_X12_aTrain_129 : decode (D_X12_aTrain).2.1 129 = .ok (.ifCond .eq 27, 3) := by decide +kernel
theorem d_X12_aTrain_132 : decode (D_X12_aTrain).2.1 132 = .ok (.aload_n 0, 1) := by decide +kernel
theorem d_X12_aTrain_133 : decode (D_X12_aTrain).2.1 133 = .ok (.ldc 180, 2) := by decide +kernel
theorem d_X12_aTrain_135 : decode (D_X12_aTrain).2.1 135 = .ok (.bipush 9, 2) := by decide +kernel
theorem d_X12_aTrain_137 : decode (D_X12_aTrain).2.1 137 = .ok (.invokevirtual 196, 3) := by decide +kernel
theorem d_X12_aTrain_140 : decode (D_X12_aTrain).2.1 140 = .ok (.ifCond .eq 16, 3) := by decide +kernel
theorem d_X12_aTrain_143 : decode (D_X12_aTrain).2.1 143 = .ok (.aload_n 0, 1) := by decide +kernel
theorem d_X12_aTrain_144 : decode (D_X12_aTrain).2.1 144 = .ok (.iload_n 1, 1) := by decide +kernel
theorem d_X12_aTrain_145 : decode (D_X12_aTrain).2.1 145 = .ok (.iconst 3, 1) := by decide +kernel
theorem d_X12_aTrain_146 : decode (D_X12_aTrain).2.1 146 = .ok (.iadd, 1) := by decide +kernel
theorem d_X12_aTrain_147 : decode (D_X12_aTrain).2.1 147 = .ok (.iconst 1, 1) := by decide +kernel
theorem d_X12_aTrain_148 : decode (D_X12_aTrain).2.1 148 = .ok (.bipush 24, 2) := by decide +kernel
theorem d_X12_aTrain_150 : decode (D_X12_aTrain).2.1 150 = .ok (.invokevirtual 203, 3) := by decide +kernel
theorem d_X12_aTrain_153 : decode (D_X12_aTrain).2.1 153 = .ok (.ifCond .ne 5, 3) := by decide +kernel
theorem d_X12_aTrain_156 : decode (D_X12_aTrain).2.1 156 = .ok (.iconst 0, 1) := by decide +kernel
theorem d_X12_aTrain_157 : decode (D_X12_aTrain).2.1 157 = .ok (.ireturn, 1) := by decide +kernel
theorem d_X12_aTrain_158 : decode (D_X12_aTrain).2.1 158 = .ok (.aload_n 0, 1) := by decide +kernel
theorem d_X12_aTrain_159 : decode (D_X12_aTrain).2.1 159 = .ok (.getfield 7, 3) := by decide +kernel
theorem d_X12_aTrain_162 : decode (D_X12_aTrain).2.1 162 = .ok (.iload_n 1, 1) := by decide +kernel
theorem d_X12_aTrain_163 : decode (D_X12_aTrain).2.1 163 = .ok (.iconst 4, 1) := by decide +kernel
theorem d_X12_aTrain_164 : decode (D_X12_aTrain).2.1 164 = .ok (.iadd, 1) := by decide +kernel
theorem d_X12_aTrain_165 : decode (D_X12_aTrain).2.1 165 = .ok (.bipush 9, 2) := by decide +kernel
theorem d_X12_aTrain_167 : decode (D_X12_aTrain).2.1 167 = .ok (.iastore, 1) := by decide +kernel
theorem d_X12_aTrain_168 : decode (D_X12_aTrain).2.1 168 = .ok (.aload_n 0, 1) := by decide +kernel
theorem d_X12_aTrain_169 : decode (D_X12_aTrain).2.1 169 = .ok (.bipush 10, 2) := by decide +kernel
theorem d_X12_aTrain_171 : decode (D_X12_aTrain).2.1 171 = .ok (.invokevirtual 206, 3) := by decide +kernel
theorem d_X12_aTrain_174 : decode (D_X12_aTrain).2.1 174 = .ok (.ifCond .eq 18, 3) := by decide +kernel
theorem d_X12_aTrain_177 : decode (D_X12_aTrain).2.1 177 = .ok (.aload_n 0, 1) := by decide +kernel
theorem d_X12_aTrain_178 : decode (D_X12_aTrain).2.1 178 = .ok (.iload_n 1, 1) := by decide +kernel
theorem d_X12_aTrain_179 : decode (D_X12_aTrain).2.1 179 = .ok (.iconst 4, 1) := by decide +kernel
theorem d_X12_aTrain_180 : decode (D_X12_aTrain).2.1 180 = .ok (.iadd, 1) := by decide +kernel
theorem d_X12_aTrain_181 : decode (D_X12_aTrain).2.1 181 = .ok (.iconst 1, 1) := by decide +kernel
theorem d_X12_aTrain_182 : decode (D_X12_aTrain).2.1 182 = .ok (.bipush 9, 2) := by decide +kernel
theorem d_X12_aTrain_184 : decode (D_X12_aTrain).2.1 184 = .ok (.invokevirtual 203, 3) := by decide +kernel
theorem d_X12_aTrain_187 : decode (D_X12_aTrain).2.1 187 = .ok (.ifCond .ne 5, 3) := by decide +kernel
theorem d_X12_aTrain_190 : decode (D_X12_aTrain).2.1 190 = .ok (.iconst 0, 1) := by decide +kernel
theorem d_X12_aTrain_191 : decode (D_X12_aTrain).2.1 191 = .ok (.ireturn, 1) := by decide +kernel
theorem d_X12_aTrain_192 : decode (D_X12_aTrain).2.1 192 = .ok (.aload_n 0, 1) := by decide +kernel
theorem d_X12_aTrain_193 : decode (D_X12_aTrain).2.1 193 = .ok (.getfield 7, 3) := by decide +kernel
theorem d_X12_aTrain_196 : decode (D_X12_aTrain).2.1 196 = .ok (.sipush 2017, 3) := by decide +kernel
theorem d_X12_aTrain_199 : decode (D_X12_aTrain).2.1 199 = .ok (.dup2, 1) := by decide +kernel
theorem d_X12_aTrain_200 : decode (D_X12_aTrain).2.1 200 = .ok (.iaload, 1) := by decide +kernel
theorem d_X12_aTrain_201 : decode (D_X12_aTrain).2.1 201 = .ok (.iconst 1, 1) := by decide +kernel
theorem d_X12_aTrain_202 : decode (D_X12_aTrain).2.1 202 = .ok (.iadd, 1) := by decide +kernel
theorem d_X12_aTrain_203 : decode (D_X12_aTrain).2.1 203 = .ok (.iastore, 1) := by decide +kernel
theorem d_X12_aTrain_204 : decode (D_X12_aTrain).2.1 204 = .ok (.iconst 1, 1) := by decide +kernel
theorem d_X12_aTrain_205 : decode (D_X12_aTrain).2.1 205 = .ok (.ireturn, 1) := by decide +kernel
def f_X12_aTrain_L192 (n : Nat) (M : JMem) : Option (Int × JMem) := chk (jin 2017 3160) <| chk (jin 2017 3160) <| letm (jup M 168 (jw 2017).toNat ((M 168 (jw 2017).toNat) + 1)) fun M1 => some (1, M1)
set_option maxRecDepth 4000 in
theorem t_X12_aTrain_L192 {g : JG} {ad : Nat → Nat} (hs : jStr g ad) (n : Nat) (M : JMem) : jB g D_X12_aTrain ad 192 [some (.ref 167), none] [] M (f_X12_aTrain_L192 n M) := by
  unfold f_X12_aTrain_L192
  refine jo_aload 0 d_X12_aTrain_192 rfl rfl ?_
  refine jo_getR (k := 0) cl_12 (Nat.le_of_ble_eq_true rfl) lk_X12_7 rfl kc_167 kr_167_0 d_X12_aTrain_193 ?_
  refine jo_sipush 2017 d_X12_aTrain_196 (by decide) ?_
  refine jo_dup2 d_X12_aTrain_199 rfl rfl ?_
  refine jo_iald (N := 3160) kc_168 d_X12_aTrain_200 ?_
  refine jo_iconst 1 d_X12_aTrain_201 ?_
  refine jo_iadd d_X12_aTrain_202 ?_
  refine jo_iast (N := 3160) kc_168 d_X12_aTrain_203 (fun M1 => ?_)
  refine jo_iconst 1 d_X12_aTrain_204 ?_
  exact jo_zret rfl (by decide) d_X12_aTrain_205
def f_X12_aTrain_L98 (n : Nat) (v1 : Int) (M : JMem) : Option (Int × JMem) := bnd (f_X12_newPlaceTo n (v1 + 1) M) fun r1 M2 => if jw r1 = 0 then (some (0, M2)) else (bnd (f_X12_wantWord n 8 M2) fun r3 M4 => if jw r3 = 0 then (some (0, M4)) else (bnd (f_X12_number n (v1 + 2) 0 63 M4) fun r5 M6 => if jw r5 = 0 then (some (0, M6)) else (bnd (f_X12_wantWord n 9 M6) fun r7 M8 => if jw r7 = 0 then (some (0, M8)) else (bnd (f_X12_number n (v1 + 3) 1 24 M8) fun r9 M10 => if jw r9 = 0 then (some (0, M10)) else (chk (jin (v1 + 4) 3160) <| letm (jup M10 168 (jw (v1 + 4)).toNat 9) fun M11 => bnd (f_X12_isThere n 10 M11) fun r12 M13 => if jw r12 = 0 then (f_X12_aTrain_L192 n M13) else (bnd (f_X12_number n (v1 + 4) 1 9 M13) fun r14 M15 => if jw r14 = 0 then (some (0, M15)) else (f_X12_aTrain_L192 n M15)))))))
set_option maxRecDepth 4000 in
theorem t_X12_aTrain_L98 {g : JG} {ad : Nat → Nat} (hs : jStr g ad) (n : Nat) (v1 : Int) (M : JMem) : jB g D_X12_aTrain ad 98 [some (.ref 167), some (ji v1)] [] M (f_X12_aTrain_L98 n v1 M) := by
  unfold f_X12_aTrain_L98
  refine jo_aload 0 d_X12_aTrain_98 rfl rfl ?_
  refine jo_iload 1 d_X12_aTrain_99 rfl rfl ?_
  refine jo_iconst 1 d_X12_aTrain_100 ?_
  refine jo_iadd d_X12_aTrain_101 ?_
  refine jo_callV (st := []) (m_X12_newPlaceTo hs n (v1 + 1) M) ok_X12_newPlaceTo (And.intro (Nat.le_of_ble_eq_true rfl) (Nat.le_of_ble_eq_true rfl)) lm_X12_200 in_X12_newPlaceTo se_X12_newPlaceTo rfl kc_167 rfl rfl (And.intro (Nat.zero_le _) (Nat.zero_le _)) rfl (Nat.le_of_ble_eq_true rfl) d_X12_aTrain_102 (fun r1 M2 => ?_)
  refine jo_if_eq 156 d_X12_aTrain_105 (by decide) ?_ ?_
  · skip
    refine jo_iconst 0 d_X12_aTrain_156 ?_
    exact jo_zret rfl (by decide) d_X12_aTrain_157
  · skip
    refine jo_aload 0 d_X12_aTrain_108 rfl rfl ?_
    refine jo_ldcS hs d_X12_aTrain_109 ?_
    refine jo_bipush 8 d_X12_aTrain_111 (by decide) ?_
    refine jo_callV (st := []) (m_X12_wantWord hs n 8 M2) ok_X12_wantWord (And.intro (Nat.le_of_ble_eq_true rfl) (Nat.le_of_ble_eq_true rfl)) lm_X12_196 in_X12_wantWord se_X12_wantWord rfl kc_167 rfl rfl (And.intro (Nat.zero_le _) (Nat.zero_le _)) rfl (Nat.le_of_ble_eq_true rfl) d_X12_aTrain_113 (fun r3 M4 => ?_)
    refine jo_if_eq 156 d_X12_aTrain_116 (by decide) ?_ ?_
    · skip
      refine jo_iconst 0 d_X12_aTrain_156 ?_
      exact jo_zret rfl (by decide) d_X12_aTrain_157
    · skip
      refine jo_aload 0 d_X12_aTrain_119 rfl rfl ?_
      refine jo_iload 1 d_X12_aTrain_120 rfl rfl ?_
      refine jo_iconst 2 d_X12_aTrain_121 ?_
      refine jo_iadd d_X12_aTrain_122 ?_
      refine jo_iconst 0 d_X12_aTrain_123 ?_
      refine jo_bipush 63 d_X12_aTrain_124 (by decide) ?_
      refine jo_callV (st := []) (m_X12_number hs n (v1 + 2) 0 63 M4) ok_X12_number (And.intro (Nat.le_of_ble_eq_true rfl) (Nat.le_of_ble_eq_true rfl)) lm_X12_203 in_X12_number se_X12_number rfl kc_167 rfl rfl (And.intro (Nat.zero_le _) (Nat.zero_le _)) rfl (Nat.le_of_ble_eq_true rfl) d_X12_aTrain_126 (fun r5 M6 => ?_)
      refine jo_if_eq 156 d_X12_aTrain_129 (by decide) ?_ ?_
      · skip
        refine jo_iconst 0 d_X12_aTrain_156 ?_
        exact jo_zret rfl (by decide) d_X12_aTrain_157
      · skip
        refine jo_aload 0 d_X12_aTrain_132 rfl rfl ?_
        refine jo_ldcS hs d_X12_aTrain_133 ?_
        refine jo_bipush 9 d_X12_aTrain_135 (by decide) ?_
        refine jo_callV (st := []) (m_X12_wantWord hs n 9 M6) ok_X12_wantWord (And.intro (Nat.le_of_ble_eq_true rfl) (Nat.le_of_ble_eq_true rfl)) lm_X12_196 in_X12_wantWord se_X12_wantWord rfl kc_167 rfl rfl (And.intro (Nat.zero_le _) (Nat.zero_le _)) rfl (Nat.le_of_ble_eq_true rfl) d_X12_aTrain_137 (fun r7 M8 => ?_)
        refine jo_if_eq 156 d_X12_aTrain_140 (by decide) ?_ ?_
        · skip
          refine jo_iconst 0 d_X12_aTrain_156 ?_
          exact jo_zret rfl (by decide) d_X12_aTrain_157
        · skip
          refine jo_aload 0 d_X12_aTrain_143 rfl rfl ?_
          refine jo_iload 1 d_X12_aTrain_144 rfl rfl ?_
          refine jo_iconst 3 d_X12_aTrain_145 ?_
          refine jo_iadd d_X12_aTrain_146 ?_
          refine jo_iconst 1 d_X12_aTrain_147 ?_
          refine jo_bipush 24 d_X12_aTrain_148 (by decide) ?_
          refine jo_callV (st := []) (m_X12_number hs n (v1 + 3) 1 24 M8) ok_X12_number (And.intro (Nat.le_of_ble_eq_true rfl) (Nat.le_of_ble_eq_true rfl)) lm_X12_203 in_X12_number se_X12_number rfl kc_167 rfl rfl (And.intro (Nat.zero_le _) (Nat.zero_le _)) rfl (Nat.le_of_ble_eq_true rfl) d_X12_aTrain_150 (fun r9 M10 => ?_)
          refine jo_if_ne 158 d_X12_aTrain_153 (by decide) ?_ ?_
          · skip
            refine jo_aload 0 d_X12_aTrain_158 rfl rfl ?_
            refine jo_getR (k := 0) cl_12 (Nat.le_of_ble_eq_true rfl) lk_X12_7 rfl kc_167 kr_167_0 d_X12_aTrain_159 ?_
            refine jo_iload 1 d_X12_aTrain_162 rfl rfl ?_
            refine jo_iconst 4 d_X12_aTrain_163 ?_
            refine jo_iadd d_X12_aTrain_164 ?_
            refine jo_bipush 9 d_X12_aTrain_165 (by decide) ?_
            refine jo_iast (N := 3160) kc_168 d_X12_aTrain_167 (fun M11 => ?_)
            refine jo_aload 0 d_X12_aTrain_168 rfl rfl ?_
            refine jo_bipush 10 d_X12_aTrain_169 (by decide) ?_
            refine jo_callV (st := []) (m_X12_isThere hs n 10 M11) ok_X12_isThere (And.intro (Nat.le_of_ble_eq_true rfl) (Nat.le_of_ble_eq_true rfl)) lm_X12_206 in_X12_isThere se_X12_isThere rfl kc_167 rfl rfl (And.intro (Nat.zero_le _) (Nat.zero_le _)) rfl (Nat.le_of_ble_eq_true rfl) d_X12_aTrain_171 (fun r12 M13 => ?_)
            refine jo_if_eq 192 d_X12_aTrain_174 (by decide) ?_ ?_
            · skip
              exact jO.sub (t_X12_aTrain_L192 hs n M13) (And.intro rfl True.intro)
            · skip
              refine jo_aload 0 d_X12_aTrain_177 rfl rfl ?_
              refine jo_iload 1 d_X12_aTrain_178 rfl rfl ?_
              refine jo_iconst 4 d_X12_aTrain_179 ?_
              refine jo_iadd d_X12_aTrain_180 ?_
              refine jo_iconst 1 d_X12_aTrain_181 ?_
              refine jo_bipush 9 d_X12_aTrain_182 (by decide) ?_
              refine jo_callV (st := []) (m_X12_number hs n (v1 + 4) 1 9 M13) ok_X12_number (And.intro (Nat.le_of_ble_eq_true rfl) (Nat.le_of_ble_eq_true rfl)) lm_X12_203 in_X12_number se_X12_number rfl kc_167 rfl rfl (And.intro (Nat.zero_le _) (Nat.zero_le _)) rfl (Nat.le_of_ble_eq_true rfl) d_X12_aTrain_184 (fun r14 M15 => ?_)
              refine jo_if_ne 192 d_X12_aTrain_187 (by decide) ?_ ?_
              · skip
                exact jO.sub (t_X12_aTrain_L192 hs n M15) (And.intro rfl True.intro)
              · skip
                refine jo_iconst 0 d_X12_aTrain_190 ?_
                exact jo_zret rfl (by decide) d_X12_aTrain_191
          · skip
            refine jo_iconst 0 d_X12_aTrain_156 ?_
            exact jo_zret rfl (by decide) d_X12_aTrain_157
def f_X12_aTrain (n : Nat) (M : JMem) : Option (Int × JMem) := chk (jin 2017 3160) <| letv (2024 + (6 * (M 168 (jw 2017).toNat))) fun y1 => bnd (f_X12_newOne n 1 8 6 M) fun r2 M3 => if jw r2 = 0 then (some (0, M3)) else (bnd (f_X12_wantWord n 6 M3) fun r4 M5 => if jw r4 = 0 then (some (0, M5)) else (bnd (f_X12_newPlaceTo n y1 M5) fun r6 M7 => if jw r6 = 0 then (some (0, M7)) else (bnd (f_X12_wantWord n 7 M7) fun r8 M9 => if jw r8 = 0 then (some (0, M9)) else (bnd (f_X12_isName n M9) fun r10 M11 => if jw r10 = 0 then (f_X12_aTrain_L98 n y1 M11) else (chk (jin 2016 3160) <| bnd (f_X12_findHere n 88 (M11 168 (jw 2016).toNat) M11) fun r12 M13 => chk (jin y1 3160) <| if jw r12 = jw (M13 168 (jw y1).toNat) then (bnd (f_X12_fails n 5 M13) fun r14 M15 => chk (jw r14 = 0 ∨ jw r14 = 1) (some (r14, M15))) else (f_X12_aTrain_L98 n y1 M13))))))
set_option maxRecDepth 4000 in
theorem t_X12_aTrain {g : JG} {ad : Nat → Nat} (hs : jStr g ad) (n : Nat) (M : JMem) : jB g D_X12_aTrain ad 0 [some (.ref 167), none] [] M (f_X12_aTrain n M) := by
  unfold f_X12_aTrain
  refine jo_sipush 2024 d_X12_aTrain_0 (by decide) ?_
  refine jo_bipush 6 d_X12_aTrain_3 (by decide) ?_
  refine jo_aload 0 d_X12_aTrain_5 rfl rfl ?_
  refine jo_getR (k := 0) cl_12 (Nat.le_of_ble_eq_true rfl) lk_X12_7 rfl kc_167 kr_167_0 d_X12_aTrain_6 ?_
  refine jo_sipush 2017 d_X12_aTrain_9 (by decide) ?_
  refine jo_iald (N := 3160) kc_168 d_X12_aTrain_12 ?_
  refine jo_imul d_X12_aTrain_13 ?_
  refine jo_iadd d_X12_aTrain_14 ?_
  refine jo_istore 1 d_X12_aTrain_15 rfl (Nat.le_of_ble_eq_true rfl) (fun y1 => ?_)
  refine jo_aload 0 d_X12_aTrain_16 rfl rfl ?_
  refine jo_iconst 1 d_X12_aTrain_17 ?_
  refine jo_bipush 8 d_X12_aTrain_18 (by decide) ?_
  refine jo_bipush 6 d_X12_aTrain_20 (by decide) ?_
  refine jo_callV (st := []) (m_X12_newOne hs n 1 8 6 M) ok_X12_newOne (And.intro (Nat.le_of_ble_eq_true rfl) (Nat.le_of_ble_eq_true rfl)) lm_X12_193 in_X12_newOne se_X12_newOne rfl kc_167 rfl rfl (And.intro (Nat.zero_le _) (Nat.zero_le _)) rfl (Nat.le_of_ble_eq_true rfl) d_X12_aTrain_22 (fun r2 M3 => ?_)
  refine jo_if_eq 58 d_X12_aTrain_25 (by decide) ?_ ?_
  · skip
    refine jo_iconst 0 d_X12_aTrain_58 ?_
    exact jo_zret rfl (by decide) d_X12_aTrain_59
  · skip
    refine jo_aload 0 d_X12_aTrain_28 rfl rfl ?_
    refine jo_ldcS hs d_X12_aTrain_29 ?_
    refine jo_bipush 6 d_X12_aTrain_31 (by decide) ?_
    refine jo_callV (st := []) (m_X12_wantWord hs n 6 M3) ok_X12_wantWord (And.intro (Nat.le_of_ble_eq_true rfl) (Nat.le_of_ble_eq_true rfl)) lm_X12_196 in_X12_wantWord se_X12_wantWord rfl kc_167 rfl rfl (And.intro (Nat.zero_le _) (Nat.zero_le _)) rfl (Nat.le_of_ble_eq_true rfl) d_X12_aTrain_33 (fun r4 M5 => ?_)
    refine jo_if_eq 58 d_X12_aTrain_36 (by decide) ?_ ?_
    · skip
      refine jo_iconst 0 d_X12_aTrain_58 ?_
      exact jo_zret rfl (by decide) d_X12_aTrain_59
    · skip
      refine jo_aload 0 d_X12_aTrain_39 rfl rfl ?_
      refine jo_iload 1 d_X12_aTrain_40 rfl rfl ?_
      refine jo_callV (st := []) (m_X12_newPlaceTo hs n y1 M5) ok_X12_newPlaceTo (And.intro (Nat.le_of_ble_eq_true rfl) (Nat.le_of_ble_eq_true rfl)) lm_X12_200 in_X12_newPlaceTo se_X12_newPlaceTo rfl kc_167 rfl rfl (And.intro (Nat.zero_le _) (Nat.zero_le _)) rfl (Nat.le_of_ble_eq_true rfl) d_X12_aTrain_41 (fun r6 M7 => ?_)
      refine jo_if_eq 58 d_X12_aTrain_44 (by decide) ?_ ?_
      · skip
        refine jo_iconst 0 d_X12_aTrain_58 ?_
        exact jo_zret rfl (by decide) d_X12_aTrain_59
      · skip
        refine jo_aload 0 d_X12_aTrain_47 rfl rfl ?_
        refine jo_ldcS hs d_X12_aTrain_48 ?_
        refine jo_bipush 7 d_X12_aTrain_50 (by decide) ?_
        refine jo_callV (st := []) (m_X12_wantWord hs n 7 M7) ok_X12_wantWord (And.intro (Nat.le_of_ble_eq_true rfl) (Nat.le_of_ble_eq_true rfl)) lm_X12_196 in_X12_wantWord se_X12_wantWord rfl kc_167 rfl rfl (And.intro (Nat.zero_le _) (Nat.zero_le _)) rfl (Nat.le_of_ble_eq_true rfl) d_X12_aTrain_52 (fun r8 M9 => ?_)
        refine jo_if_ne 60 d_X12_aTrain_55 (by decide) ?_ ?_
        · skip
          refine jo_aload 0 d_X12_aTrain_60 rfl rfl ?_
          refine jo_ldcS hs d_X12_aTrain_61 ?_
          refine jo_callV (st := []) (m_X12_isName hs n M9) ok_X12_isName (And.intro (Nat.le_of_ble_eq_true rfl) (Nat.le_of_ble_eq_true rfl)) lm_X12_182 in_X12_isName se_X12_isName rfl kc_167 rfl rfl (And.intro (Nat.zero_le _) (Nat.zero_le _)) rfl (Nat.le_of_ble_eq_true rfl) d_X12_aTrain_63 (fun r10 M11 => ?_)
          refine jo_if_eq 98 d_X12_aTrain_66 (by decide) ?_ ?_
          · skip
            exact jO.sub (t_X12_aTrain_L98 hs n y1 M11) (And.intro rfl (And.intro rfl True.intro))
          · skip
            refine jo_aload 0 d_X12_aTrain_69 rfl rfl ?_
            refine jo_bipush 88 d_X12_aTrain_70 (by decide) ?_
            refine jo_aload 0 d_X12_aTrain_72 rfl rfl ?_
            refine jo_getR (k := 0) cl_12 (Nat.le_of_ble_eq_true rfl) lk_X12_7 rfl kc_167 kr_167_0 d_X12_aTrain_73 ?_
            refine jo_sipush 2016 d_X12_aTrain_76 (by decide) ?_
            refine jo_iald (N := 3160) kc_168 d_X12_aTrain_79 ?_
            refine jo_callV (st := []) (m_X12_findHere hs n 88 (M11 168 (jw 2016).toNat) M11) ok_X12_findHere (And.intro (Nat.le_of_ble_eq_true rfl) (Nat.le_of_ble_eq_true rfl)) lm_X12_186 in_X12_findHere se_X12_findHere rfl kc_167 rfl rfl (And.intro (Nat.zero_le _) (Nat.zero_le _)) rfl (Nat.le_of_ble_eq_true rfl) d_X12_aTrain_80 (fun r12 M13 => ?_)
            refine jo_aload 0 d_X12_aTrain_83 rfl rfl ?_
            refine jo_getR (k := 0) cl_12 (Nat.le_of_ble_eq_true rfl) lk_X12_7 rfl kc_167 kr_167_0 d_X12_aTrain_84 ?_
            refine jo_iload 1 d_X12_aTrain_87 rfl rfl ?_
            refine jo_iald (N := 3160) kc_168 d_X12_aTrain_88 ?_
            refine jo_icmp_ne 98 d_X12_aTrain_89 (by decide) ?_ ?_
            · skip
              exact jO.sub (t_X12_aTrain_L98 hs n y1 M13) (And.intro rfl (And.intro rfl True.intro))
            · skip
              refine jo_aload 0 d_X12_aTrain_92 rfl rfl ?_
              refine jo_iconst 5 d_X12_aTrain_93 ?_
              refine jo_callV (st := []) (m_X12_fails hs n 5 M13) ok_X12_fails (And.intro (Nat.le_of_ble_eq_true rfl) (Nat.le_of_ble_eq_true rfl)) lm_X12_169 in_X12_fails se_X12_fails rfl kc_167 rfl rfl (And.intro (Nat.zero_le _) (Nat.zero_le _)) rfl (Nat.le_of_ble_eq_true rfl) d_X12_aTrain_94 (fun r14 M15 => ?_)
              exact jo_zretq rfl d_X12_aTrain_97
        · skip
          refine jo_iconst 0 d_X12_aTrain_58 ?_
          exact jo_zret rfl (by decide) d_X12_aTrain_59
theorem m_X12_aTrain {g : JG} {ad : Nat → Nat} (hs : jStr g ad) (n : Nat) (M : JMem) : jMet g jNN ad jR D_X12_aTrain yX12_aTrain [.ref 167] M (f_X12_aTrain n M) :=
  jMet.of (lo0 := [some (.ref 167), none]) (by decide) rfl rfl (Nat.le_of_ble_eq_true rfl) (And.intro rfl True.intro) (t_X12_aTrain hs n M)
/-! CageLeaveModel.beastRow(I)I -/
def D_X12_beastRow : JD := (RX12, cX12_beastRow, 1, some .int, "beastRow", { frames := 0, cells := 0, slots := 0, locals := 0 })
theorem ok_X12_beastRow : jOk D_X12_beastRow yX12_beastRow 1 := ⟨jTW_mem (k := 1702) (by decide +kernel) rfl, jTW_mem (k := 151) (by decide +kernel) rfl, ⟨by decide +kernel, by decide +kernel⟩, by decide +kernel, rfl, rfl⟩
theorem st_X12_beastRow : Cond.static yX12_beastRow ∈ jTW := jTW_mem (k := 1701) (by decide +kernel) rfl
theorem d_X12_beastRow_0 : decode (D_X12_beastRow).2.1 0 = .ok (.bipush 56, 2) := by decide +kernel
theorem d_X12_beastRow_2 : decode (D_X12_beastRow).2.1 2 = .ok (.bipush 10, 2) := by decide +kernel
theorem d_X12_beastRow_4 : decode (D_X12_beastRow).2.1 4 = .ok (.iload_n 0, 1) := by decide +kernel
theorem d_X12_beastRow_5 : decode (D_X12_beastRow).2.1 5 = .ok (.imul, 1) := by decide +kernel
theorem d_X12_beastRow_6 : decode (D_X12_beastRow).2.1 6 = .ok (.iadd, 1) := by decide +kernel
theorem d_X12_beastRow_7 : decode (D_X12_beastRow).2.1 7 = .ok (.ireturn, 1) := by decide +kernel
def f_X12_beastRow (n : Nat) (x0 : Int) (M : JMem) : Option (Int × JMem) := some ((56 + (10 * x0)), M)
set_option maxRecDepth 4000 in
theorem t_X12_beastRow {g : JG} {ad : Nat → Nat} (hs : jStr g ad) (n : Nat) (x0 : Int) (M : JMem) : jB g D_X12_beastRow ad 0 [some (ji x0)] [] M (f_X12_beastRow n x0 M) := by
  unfold f_X12_beastRow
  refine jo_bipush 56 d_X12_beastRow_0 (by decide) ?_
  refine jo_bipush 10 d_X12_beastRow_2 (by decide) ?_
  refine jo_iload 0 d_X12_beastRow_4 rfl rfl ?_
  refine jo_imul d_X12_beastRow_5 ?_
  refine jo_iadd d_X12_beastRow_6 ?_
  exact jo_iret rfl d_X12_beastRow_7
theorem m_X12_beastRow {g : JG} {ad : Nat → Nat} (hs : jStr g ad) (n : Nat) (x0 : Int) (M : JMem) : jMet g jNN ad jR D_X12_beastRow yX12_beastRow [ji x0] M (f_X12_beastRow n x0 M) :=
  jMet.of (lo0 := [some (ji x0)]) (by decide) rfl rfl (Nat.le_of_ble_eq_true rfl) (And.intro rfl True.intro) (t_X12_beastRow hs n x0 M)
/-! CageLeaveModel.beastOf(II)I -/
def D_X12_beastOf : JD := (RX12, cX12_beastOf, 3, some .int, "beastOf", { frames := 1, cells := 0, slots := 0, locals := 20 })
theorem ok_X12_beastOf : jOk D_X12_beastOf yX12_beastOf 2 := ⟨jTW_mem (k := 1699) (by decide +kernel) rfl, jTW_mem (k := 151) (by decide +kernel) rfl, ⟨by decide +kernel, by decide +kernel⟩, by decide +kernel, rfl, rfl⟩
theorem in_X12_beastOf : Cond.instanceMethod yX12_beastOf ∈ jTW := jTW_mem (k := 1698) (by decide +kernel) rfl
theorem se_X12_beastOf : Cond.selects yX12_beastOf.cls yX12_beastOf yX12_beastOf ∈ jTW := jTW_mem (k := 83) (by decide +kernel) rfl
theorem lm_X12_270 : Cond.methodLink RX12 270 yX12_beastRow ∈ jTW := jTW_mem (k := 1700) (by decide +kernel) rfl
theorem d_X12_beastOf_0 : decode (D_X12_beastOf).2.1 0 = .ok (.aload_n 0, 1) := by decide +kernel
theorem d_X12_beastOf_1 : decode (D_X12_beastOf).2.1 1 = .ok (.getfield 7, 3) := by decide +kernel
theorem d_X12_beastOf_4 : decode (D_X12_beastOf).2.1 4 = .ok (.iload_n 1, 1) := by decide +kernel
theorem d_X12_beastOf_5 : decode (D_X12_beastOf).2.1 5 = .ok (.invokestatic 270, 3) := by decide +kernel
theorem d_X12_beastOf_8 : decode (D_X12_beastOf).2.1 8 = .ok (.iload_n 2, 1) := by decide +kernel
theorem d_X12_beastOf_9 : decode (D_X12_beastOf).2.1 9 = .ok (.iadd, 1) := by decide +kernel
theorem d_X12_beastOf_10 : decode (D_X12_beastOf).2.1 10 = .ok (.iaload, 1) := by decide +kernel
theorem d_X12_beastOf_11 : decode (D_X12_beastOf).2.1 11 = .ok (.ireturn, 1) := by decide +kernel
def f_X12_beastOf (n : Nat) (x1 : Int) (x2 : Int) (M : JMem) : Option (Int × JMem) := bnd (f_X12_beastRow n x1 M) fun r1 M2 => chk (jin (r1 + x2) 3160) <| some ((M2 168 (jw (r1 + x2)).toNat), M2)
set_option maxRecDepth 4000 in
theorem t_X12_beastOf {g : JG} {ad : Nat → Nat} (hs : jStr g ad) (n : Nat) (x1 : Int) (x2 : Int) (M : JMem) : jB g D_X12_beastOf ad 0 [some (.ref 167), some (ji x1), some (ji x2)] [] M (f_X12_beastOf n x1 x2 M) := by
  unfold f_X12_beastOf
  refine jo_aload 0 d_X12_beastOf_0 rfl rfl ?_
  refine jo_getR (k := 0) cl_12 (Nat.le_of_ble_eq_true rfl) lk_X12_7 rfl kc_167 kr_167_0 d_X12_beastOf_1 ?_
  refine jo_iload 1 d_X12_beastOf_4 rfl rfl ?_
  refine jo_callS (st := [.ref 168]) (m_X12_beastRow hs n x1 M) ok_X12_beastRow (And.intro (Nat.le_of_ble_eq_true rfl) (Nat.le_of_ble_eq_true rfl)) lm_X12_270 st_X12_beastRow rfl (And.intro (Nat.zero_le _) (Nat.zero_le _)) rfl (Nat.le_of_ble_eq_true rfl) d_X12_beastOf_5 (fun r1 M2 => ?_)
  refine jo_iload 2 d_X12_beastOf_8 rfl rfl ?_
  refine jo_iadd d_X12_beastOf_9 ?_
  refine jo_iald (N := 3160) kc_168 d_X12_beastOf_10 ?_
  exact jo_iret rfl d_X12_beastOf_11
theorem m_X12_beastOf {g : JG} {ad : Nat → Nat} (hs : jStr g ad) (n : Nat) (x1 : Int) (x2 : Int) (M : JMem) : jMet g jNN ad jR D_X12_beastOf yX12_beastOf [.ref 167, ji x1, ji x2] M (f_X12_beastOf n x1 x2 M) :=
  jMet.of (lo0 := [some (.ref 167), some (ji x1), some (ji x2)]) (by decide) rfl rfl (Nat.le_of_ble_eq_true rfl) (And.intro rfl (And.intro rfl (And.intro rfl True.intro))) (t_X12_beastOf hs n x1 x2 M)
/-! CageLeaveModel.beastsWith(I)I -/
def D_X12_beastsWith : JD := (RX12, cX12_beastsWith, 4, some .int, "beastsWith", { frames := 2, cells := 0, slots := 0, locals := 42 })
theorem ok_X12_beastsWith : jOk D_X12_beastsWith yX12_beastsWith 1 := ⟨jTW_mem (k := 1695) (by decide +kernel) rfl, jTW_mem (k := 151) (by decide +kernel) rfl, ⟨by decide +kernel, by decide +kernel⟩, by decide +kernel, rfl, rfl⟩
theorem in_X12_beastsWith : Cond.instanceMethod yX12_beastsWith ∈ jTW := jTW_mem (k := 1694) (by decide +kernel) rfl
theorem se_X12_beastsWith : Cond.selects yX12_beastsWith.cls yX12_beastsWith yX12_beastsWith ∈ jTW := jTW_mem (k := 82) (by decide +kernel) rfl
theorem lm_X12_276 : Cond.methodLink RX12 276 yX12_beastOf ∈ jTW := jTW_mem (k := 1696) (by decide +kernel) rfl
theorem d_X12_beastsWith_0 : decode (D_X12_beastsWith).2.1 0 = .ok (.iconst 0, 1) := by decide +kernel
theorem d_X12_beastsWith_1 : decode (D_X12_beastsWith).2.1 1 = .ok (.istore_n 2, 1) := by decide +kernel
theorem d_X12_beastsWith_2 : decode (D_X12_beastsWith).2.1 2 = .ok (.iconst 0, 1) := by decide +kernel
theorem d_X12_beastsWith_3 : decode (D_X12_beastsWith).2.1 3 = .ok (.istore_n 3, 1) := by decide +kernel
theorem d_X12_beastsWith_4 : decode (D_X12_beastsWith).2.1 4 = .ok (.iload_n 3, 1) := by decide +kernel
theorem d_X12_beastsWith_5 : decode (D_X12_beastsWith).2.1 5 = .ok (.aload_n 0, 1) := by decide +kernel
theorem d_X12_beastsWith_6 : decode (D_X12_beastsWith).2.1 6 = .ok (.getfield 7, 3) := by decide +kernel
theorem d_X12_beastsWith_9 : decode (D_X12_beastsWith).2.1 9 = .ok (.iconst 2, 1) := by decide +kernel
theorem d_X12_beastsWith_10 : decode (D_X12_beastsWith).2.1 10 = .ok (.iaload, 1) := by decide +kernel
theorem d_X12_beastsWith_11 : decode (D_X12_beastsWith).2.1 11 = .ok (.if_icmp .ge 29, 3) := by decide +kernel
theorem d_X12_beastsWith_14 : decode (D_X12_beastsWith).2.1 14 = .ok (.iload_n 2, 1) := by decide +kernel
theorem d_X12_beastsWith_15 : decode (D_X12_beastsWith).2.1 15 = .ok (.aload_n 0, 1) := by decide +kernel
theorem d_X12_beastsWith_16 : decode (D_X12_beastsWith).2.1 16 = .ok (.iload_n 3, 1) := by decide +kernel
theorem d_X12_beastsWith_17 : decode (D_X12_beastsWith).2.1 17 = .ok (.iload_n 1, 1) := by decide +kernel
theorem d_X12_beastsWith_18 : decode (D_X12_beastsWith).2.1 18 = .ok (.invokevirtual 276, 3) := by decide +kernel
theorem d_X12_beastsWith_21 : decode (D_X12_beastsWith).2.1 21 = .ok (.iconst 1, 1) := by decide +kernel
theorem d_X12_beastsWith_22 : decode (D_X12_beastsWith).2.1 22 = .ok (.if_icmp .ne 9, 3) := by decide +kernel
theorem d_X12_beastsWith_25 : decode (D_X12_beastsWith).2.1 25 = .ok (.iconst 1, 1) := by decide +kernel
theorem d_X12_beastsWith_26 : decode (D_X12_beastsWith).2.1 26 = .ok (.iload_n 3, 1) := by decide +kernel
theorem d_X12_beastsWith_27 : decode (D_X12_beastsWith).2.1 27 = .ok (.ishl, 1) := by decide +kernel
theorem d_X12_beastsWith_28 : decode (D_X12_beastsWith).2.1 28 = .ok (.goto 4, 3) := by decide +kernel
theorem d_X12_beastsWith_31 : decode (D_X12_beastsWith).2.1 31 = .ok (.iconst 0, 1) := by decide +kernel
theorem d_X12_beastsWith_32 : decode (D_X12_beastsWith).2.1 32 = .ok (.ior, 1) := by decide +kernel
theorem d_X12_beastsWith_33 : decode (D_X12_beastsWith).2.1 33 = .ok (.istore_n 2, 1) := by decide +kernel
theorem d_X12_beastsWith_34 : decode (D_X12_beastsWith).2.1 34 = .ok (.iinc 3 1, 3) := by decide +kernel
theorem d_X12_beastsWith_37 : decode (D_X12_beastsWith).2.1 37 = .ok (.goto (-33), 3) := by decide +kernel
theorem d_X12_beastsWith_40 : decode (D_X12_beastsWith).2.1 40 = .ok (.iload_n 2, 1) := by decide +kernel
theorem d_X12_beastsWith_41 : decode (D_X12_beastsWith).2.1 41 = .ok (.ireturn, 1) := by decide +kernel
def f_X12_beastsWith_L32 (n : Nat) (r4 : Int → Int → Int → JMem → Option (Int × JMem)) (v1 v3 w0 w1 : Int) (M : JMem) : Option (Int × JMem) := letv (jor w0 w1) fun y1 => letv (v3 + 1) fun y2 => r4 v1 y1 y2 M
set_option maxRecDepth 4000 in
theorem t_X12_beastsWith_L32 {g : JG} {ad : Nat → Nat} (hs : jStr g ad) (n : Nat) (r4 : Int → Int → Int → JMem → Option (Int × JMem)) (hr4 : ∀ (v1 v2 v3 : Int) (M : JMem), jB g D_X12_beastsWith ad 4 [some (.ref 167), some (ji v1), some (ji v2), some (ji v3)] [] M (r4 v1 v2 v3 M)) (v1 v3 w0 w1 : Int) (M : JMem) : jB g D_X12_beastsWith ad 32 [some (.ref 167), some (ji v1), none, some (ji v3)] [ji w1, ji w0] M (f_X12_beastsWith_L32 n r4 v1 v3 w0 w1 M) := by
  unfold f_X12_beastsWith_L32
  refine jo_ior d_X12_beastsWith_32 ?_
  refine jo_istore 2 d_X12_beastsWith_33 rfl (Nat.le_of_ble_eq_true rfl) (fun y1 => ?_)
  refine jo_iinc 3 d_X12_beastsWith_34 rfl (Nat.le_of_ble_eq_true rfl) (fun y2 => ?_)
  refine jo_goto 4 d_X12_beastsWith_37 (by decide) ?_
  exact jO.sub (hr4 v1 y1 y2 M) (And.intro rfl (And.intro rfl (And.intro rfl (And.intro rfl True.intro))))
def f_X12_beastsWith_L4 (n : Nat) : Nat → Int → Int → Int → JMem → Option (Int × JMem)
  | 0, _, _, _, _ => none
  | k + 1, v1, v2, v3, M => chk (jin 2 3160) <| if jw (M 168 (jw 2).toNat) ≤ jw v3 then (some (v2, M)) else (bnd (f_X12_beastOf n v3 v1 M) fun r1 M2 => if jw r1 = jw 1 then (f_X12_beastsWith_L32 n (f_X12_beastsWith_L4 n k) v1 v3 v2 (jshl 1 v3) M2) else (f_X12_beastsWith_L32 n (f_X12_beastsWith_L4 n k) v1 v3 v2 0 M2))
set_option maxRecDepth 4000 in
theorem t_X12_beastsWith_L4 {g : JG} {ad : Nat → Nat} (hs : jStr g ad) (n : Nat) : ∀ (k : Nat) (v1 v2 v3 : Int) (M : JMem), jB g D_X12_beastsWith ad 4 [some (.ref 167), some (ji v1), some (ji v2), some (ji v3)] [] M (f_X12_beastsWith_L4 n k v1 v2 v3 M) := by
  intro k
  induction k with
  | zero => intro v1 v2 v3 M; exact jO.none
  | succ k ih =>
    intro v1 v2 v3 M
    rw [f_X12_beastsWith_L4]
    refine jo_iload 3 d_X12_beastsWith_4 rfl rfl ?_
    refine jo_aload 0 d_X12_beastsWith_5 rfl rfl ?_
    refine jo_getR (k := 0) cl_12 (Nat.le_of_ble_eq_true rfl) lk_X12_7 rfl kc_167 kr_167_0 d_X12_beastsWith_6 ?_
    refine jo_iconst 2 d_X12_beastsWith_9 ?_
    refine jo_iald (N := 3160) kc_168 d_X12_beastsWith_10 ?_
    refine jo_icmp_ge 40 d_X12_beastsWith_11 (by decide) ?_ ?_
    · skip
      refine jo_iload 2 d_X12_beastsWith_40 rfl rfl ?_
      exact jo_iret rfl d_X12_beastsWith_41
    · skip
      refine jo_iload 2 d_X12_beastsWith_14 rfl rfl ?_
      refine jo_aload 0 d_X12_beastsWith_15 rfl rfl ?_
      refine jo_iload 3 d_X12_beastsWith_16 rfl rfl ?_
      refine jo_iload 1 d_X12_beastsWith_17 rfl rfl ?_
      refine jo_callV (st := [ji v2]) (m_X12_beastOf hs n v3 v1 M) ok_X12_beastOf (And.intro (Nat.le_of_ble_eq_true rfl) (Nat.le_of_ble_eq_true rfl)) lm_X12_276 in_X12_beastOf se_X12_beastOf rfl kc_167 rfl rfl (And.intro (Nat.zero_le _) (Nat.zero_le _)) rfl (Nat.le_of_ble_eq_true rfl) d_X12_beastsWith_18 (fun r1 M2 => ?_)
      refine jo_iconst 1 d_X12_beastsWith_21 ?_
      refine jo_icmp_ne 31 d_X12_beastsWith_22 (by decide) ?_ ?_
      · skip
        refine jo_iconst 0 d_X12_beastsWith_31 ?_
        exact jO.sub (t_X12_beastsWith_L32 hs n (f_X12_beastsWith_L4 n k) ih v1 v3 v2 0 M2) (And.intro rfl (And.intro rfl (And.intro rfl True.intro)))
      · skip
        refine jo_iconst 1 d_X12_beastsWith_25 ?_
        refine jo_iload 3 d_X12_beastsWith_26 rfl rfl ?_
        refine jo_ishl d_X12_beastsWith_27 ?_
        refine jo_goto 32 d_X12_beastsWith_28 (by decide) ?_
        exact jO.sub (t_X12_beastsWith_L32 hs n (f_X12_beastsWith_L4 n k) ih v1 v3 v2 (jshl 1 v3) M2) (And.intro rfl (And.intro rfl (And.intro rfl True.intro)))
def f_X12_beastsWith (n : Nat) (x1 : Int) (M : JMem) : Option (Int × JMem) := letv 0 fun y1 => letv 0 fun y2 => f_X12_beastsWith_L4 n n x1 y1 y2 M
set_option maxRecDepth 4000 in
theorem t_X12_beastsWith {g : JG} {ad : Nat → Nat} (hs : jStr g ad) (n : Nat) (x1 : Int) (M : JMem) : jB g D_X12_beastsWith ad 0 [some (.ref 167), some (ji x1), none, none] [] M (f_X12_beastsWith n x1 M) := by
  unfold f_X12_beastsWith
  refine jo_iconst 0 d_X12_beastsWith_0 ?_
  refine jo_istore 2 d_X12_beastsWith_1 rfl (Nat.le_of_ble_eq_true rfl) (fun y1 => ?_)
  refine jo_iconst 0 d_X12_beastsWith_2 ?_
  refine jo_istore 3 d_X12_beastsWith_3 rfl (Nat.le_of_ble_eq_true rfl) (fun y2 => ?_)
  exact jO.sub (t_X12_beastsWith_L4 hs n n x1 y1 y2 M) (And.intro rfl (And.intro rfl (And.intro rfl (And.intro rfl True.intro))))
theorem m_X12_beastsWith {g : JG} {ad : Nat → Nat} (hs : jStr g ad) (n : Nat) (x1 : Int) (M : JMem) : jMet g jNN ad jR D_X12_beastsWith yX12_beastsWith [.ref 167, ji x1] M (f_X12_beastsWith n x1 M) :=
  jMet.of (lo0 := [some (.ref 167), some (ji x1), none, none]) (by decide) rfl rfl (Nat.le_of_ble_eq_true rfl) (And.intro rfl (And.intro rfl True.intro)) (t_X12_beastsWith hs n x1 M)
/-! CageLeaveModel.areAlive(I)Z -/
def D_X12_areAlive : JD := (RX12, cX12_areAlive, 2, some .boolean, "areAlive", { frames := 3, cells := 0, slots := 0, locals := 65 })
theorem ok_X12_areAlive : jOk D_X12_areAlive yX12_areAlive 1 := ⟨jTW_mem (k := 1906) (by decide +kernel) rfl, jTW_mem (k := 151) (by decide +kernel) rfl, ⟨by decide +kernel, by decide +kernel⟩, by decide +kernel, rfl, rfl⟩
theorem in_X12_areAlive : Cond.instanceMethod yX12_areAlive ∈ jTW := jTW_mem (k := 1905) (by decide +kernel) rfl
theorem se_X12_areAlive : Cond.selects yX12_areAlive.cls yX12_areAlive yX12_areAlive ∈ jTW := jTW_mem (k := 110) (by decide +kernel) rfl
theorem lm_X12_291 : Cond.methodLink RX12 291 yX12_beastsWith ∈ jTW := jTW_mem (k := 1692) (by decide +kernel) rfl
theorem d_X12_areAlive_0 : decode (D_X12_areAlive).2.1 0 = .ok (.iload_n 1, 1) := by decide +kernel
theorem d_X12_areAlive_1 : decode (D_X12_areAlive).2.1 1 = .ok (.aload_n 0, 1) := by decide +kernel
theorem d_X12_areAlive_2 : decode (D_X12_areAlive).2.1 2 = .ok (.iconst 3, 1) := by decide +kernel
theorem d_X12_areAlive_3 : decode (D_X12_areAlive).2.1 3 = .ok (.invokevirtual 291, 3) := by decide +kernel
theorem d_X12_areAlive_6 : decode (D_X12_areAlive).2.1 6 = .ok (.iand, 1) := by decide +kernel
theorem d_X12_areAlive_7 : decode (D_X12_areAlive).2.1 7 = .ok (.ifCond .ne 7, 3) := by decide +kernel
theorem d_X12_areAlive_10 : decode (D_X12_areAlive).2.1 10 = .ok (.iconst 1, 1) := by decide +kernel
theorem d_X12_areAlive_11 : decode (D_X12_areAlive).2.1 11 = .ok (.goto 4, 3) := by decide +kernel
theorem d_X12_areAlive_14 : decode (D_X12_areAlive).2.1 14 = .ok (.iconst 0, 1) := by decide +kernel
theorem d_X12_areAlive_15 : decode (D_X12_areAlive).2.1 15 = .ok (.ireturn, 1) := by decide +kernel
def f_X12_areAlive (n : Nat) (x1 : Int) (M : JMem) : Option (Int × JMem) := bnd (f_X12_beastsWith n 3 M) fun r1 M2 => if jw (jand x1 r1) = 0 then (some (1, M2)) else (some (0, M2))
set_option maxRecDepth 4000 in
theorem t_X12_areAlive {g : JG} {ad : Nat → Nat} (hs : jStr g ad) (n : Nat) (x1 : Int) (M : JMem) : jB g D_X12_areAlive ad 0 [some (.ref 167), some (ji x1)] [] M (f_X12_areAlive n x1 M) := by
  unfold f_X12_areAlive
  refine jo_iload 1 d_X12_areAlive_0 rfl rfl ?_
  refine jo_aload 0 d_X12_areAlive_1 rfl rfl ?_
  refine jo_iconst 3 d_X12_areAlive_2 ?_
  refine jo_callV (st := [ji x1]) (m_X12_beastsWith hs n 3 M) ok_X12_beastsWith (And.intro (Nat.le_of_ble_eq_true rfl) (Nat.le_of_ble_eq_true rfl)) lm_X12_291 in_X12_beastsWith se_X12_beastsWith rfl kc_167 rfl rfl (And.intro (Nat.zero_le _) (Nat.zero_le _)) rfl (Nat.le_of_ble_eq_true rfl) d_X12_areAlive_3 (fun r1 M2 => ?_)
  refine jo_iand d_X12_areAlive_6 ?_
  refine jo_if_ne 14 d_X12_areAlive_7 (by decide) ?_ ?_
  · skip
    refine jo_iconst 0 d_X12_areAlive_14 ?_
    exact jo_zret rfl (by decide) d_X12_areAlive_15
  · skip
    refine jo_iconst 1 d_X12_areAlive_10 ?_
    refine jo_goto 15 d_X12_areAlive_11 (by decide) ?_
    exact jo_zret rfl (by decide) d_X12_areAlive_15
theorem m_X12_areAlive {g : JG} {ad : Nat → Nat} (hs : jStr g ad) (n : Nat) (x1 : Int) (M : JMem) : jMet g jNN ad jR D_X12_areAlive yX12_areAlive [.ref 167, ji x1] M (f_X12_areAlive n x1 M) :=
  jMet.of (lo0 := [some (.ref 167), some (ji x1)]) (by decide) rfl rfl (Nat.le_of_ble_eq_true rfl) (And.intro rfl (And.intro rfl True.intro)) (t_X12_areAlive hs n x1 M)
/-! CageLeaveModel.isFrom(JJJ)Z -/
def D_X12_isFrom : JD := (RX12, cX12_isFrom, 6, some .boolean, "isFrom", { frames := 0, cells := 0, slots := 0, locals := 0 })
theorem ok_X12_isFrom : jOk D_X12_isFrom yX12_isFrom 3 := ⟨jTW_mem (k := 1781) (by decide +kernel) rfl, jTW_mem (k := 151) (by decide +kernel) rfl, ⟨by decide +kernel, by decide +kernel⟩, by decide +kernel, rfl, rfl⟩
theorem st_X12_isFrom : Cond.static yX12_isFrom ∈ jTW := jTW_mem (k := 1780) (by decide +kernel) rfl
theorem d_X12_isFrom_0 : decode (D_X12_isFrom).2.1 0 = .ok (.lload_n 0, 1) := by decide +kernel
theorem d_X12_isFrom_1 : decode (D_X12_isFrom).2.1 1 = .ok (.lload_n 2, 1) := by decide +kernel
theorem d_X12_isFrom_2 : decode (D_X12_isFrom).2.1 2 = .ok (.lcmp, 1) := by decide +kernel
theorem d_X12_isFrom_3 : decode (D_X12_isFrom).2.1 3 = .ok (.ifCond .lt 14, 3) := by decide +kernel
theorem d_X12_isFrom_6 : decode (D_X12_isFrom).2.1 6 = .ok (.lload_n 0, 1) := by decide +kernel
theorem d_X12_isFrom_7 : decode (D_X12_isFrom).2.1 7 = .ok (.lload 4, 2) := by decide +kernel
theorem d_X12_isFrom_9 : decode (D_X12_isFrom).2.1 9 = .ok (.lcmp, 1) := by decide +kernel
theorem d_X12_isFrom_10 : decode (D_X12_isFrom).2.1 10 = .ok (.ifCond .gt 7, 3) := by decide +kernel
theorem d_X12_isFrom_13 : decode (D_X12_isFrom).2.1 13 = .ok (.iconst 1, 1) := by decide +kernel
theorem d_X12_isFrom_14 : decode (D_X12_isFrom).2.1 14 = .ok (.goto 4, 3) := by decide +kernel
theorem d_X12_isFrom_17 : decode (D_X12_isFrom).2.1 17 = .ok (.iconst 0, 1) := by decide +kernel
theorem d_X12_isFrom_18 : decode (D_X12_isFrom).2.1 18 = .ok (.ireturn, 1) := by decide +kernel
def f_X12_isFrom (n : Nat) (x0 : Int) (x2 : Int) (x4 : Int) (M : JMem) : Option (Int × JMem) := if jw (jcmp x0 x2) < 0 then (some (0, M)) else (if 0 < jw (jcmp x0 x4) then (some (0, M)) else (some (1, M)))
set_option maxRecDepth 4000 in
theorem t_X12_isFrom {g : JG} {ad : Nat → Nat} (hs : jStr g ad) (n : Nat) (x0 : Int) (x2 : Int) (x4 : Int) (M : JMem) : jB g D_X12_isFrom ad 0 [some (jl x0), none, some (jl x2), none, some (jl x4), none] [] M (f_X12_isFrom n x0 x2 x4 M) := by
  unfold f_X12_isFrom
  refine jo_lload 0 d_X12_isFrom_0 rfl rfl ?_
  refine jo_lload 2 d_X12_isFrom_1 rfl rfl ?_
  refine jo_lcmp d_X12_isFrom_2 ?_
  refine jo_if_lt 17 d_X12_isFrom_3 (by decide) ?_ ?_
  · skip
    refine jo_iconst 0 d_X12_isFrom_17 ?_
    exact jo_zret rfl (by decide) d_X12_isFrom_18
  · skip
    refine jo_lload 0 d_X12_isFrom_6 rfl rfl ?_
    refine jo_lloadW 4 d_X12_isFrom_7 rfl ?_
    refine jo_lcmp d_X12_isFrom_9 ?_
    refine jo_if_gt 17 d_X12_isFrom_10 (by decide) ?_ ?_
    · skip
      refine jo_iconst 0 d_X12_isFrom_17 ?_
      exact jo_zret rfl (by decide) d_X12_isFrom_18
    · skip
      refine jo_iconst 1 d_X12_isFrom_13 ?_
      refine jo_goto 18 d_X12_isFrom_14 (by decide) ?_
      exact jo_zret rfl (by decide) d_X12_isFrom_18
theorem m_X12_isFrom {g : JG} {ad : Nat → Nat} (hs : jStr g ad) (n : Nat) (x0 : Int) (x2 : Int) (x4 : Int) (M : JMem) : jMet g jNN ad jR D_X12_isFrom yX12_isFrom [jl x0, jl x2, jl x4] M (f_X12_isFrom n x0 x2 x4 M) :=
  jMet.of (lo0 := [some (jl x0), none, some (jl x2), none, some (jl x4), none]) (by decide) rfl rfl (Nat.le_of_ble_eq_true rfl) (And.intro rfl (And.intro rfl (And.intro rfl True.intro))) (t_X12_isFrom hs n x0 x2 x4 M)
/-! CageLeaveModel.areBeasts(I)Z -/
def D_X12_areBeasts : JD := (RX12, cX12_areBeasts, 2, some .boolean, "areBeasts", { frames := 1, cells := 0, slots := 0, locals := 25 })
theorem ok_X12_areBeasts : jOk D_X12_areBeasts yX12_areBeasts 1 := ⟨jTW_mem (k := 1902) (by decide +kernel) rfl, jTW_mem (k := 151) (by decide +kernel) rfl, ⟨by decide +kernel, by decide +kernel⟩, by decide +kernel, rfl, rfl⟩
theorem in_X12_areBeasts : Cond.instanceMethod yX12_areBeasts ∈ jTW := jTW_mem (k := 1901) (by decide +kernel) rfl
theorem se_X12_areBeasts : Cond.selects yX12_areBeasts.cls yX12_areBeasts yX12_areBeasts ∈ jTW := jTW_mem (k := 109) (by decide +kernel) rfl
theorem lm_X12_266 : Cond.methodLink RX12 266 yX12_isFrom ∈ jTW := jTW_mem (k := 1779) (by decide +kernel) rfl
theorem d_X12_areBeasts_0 : decode (D_X12_areBeasts).2.1 0 = .ok (.iload_n 1, 1) := by decide +kernel
theorem d_X12_areBeasts_1 : decode (D_X12_areBeasts).2.1 1 = .ok (.i2l, 1) := by decide +kernel
theorem d_X12_areBeasts_2 : decode (D_X12_areBeasts).2.1 2 = .ok (.lconst 0, 1) := by decide +kernel
theorem d_X12_areBeasts_3 : decode (D_X12_areBeasts).2.1 3 = .ok (.lconst 1, 1) := by decide +kernel
theorem d_X12_areBeasts_4 : decode (D_X12_areBeasts).2.1 4 = .ok (.aload_n 0, 1) := by decide +kernel
theorem d_X12_areBeasts_5 : decode (D_X12_areBeasts).2.1 5 = .ok (.getfield 7, 3) := by decide +kernel
theorem d_X12_areBeasts_8 : decode (D_X12_areBeasts).2.1 8 = .ok (.iconst 2, 1) := by decide +kernel
theorem d_X12_areBeasts_9 : decode (D_X12_areBeasts).2.1 9 = .ok (.iaload, 1) := by decide +kernel
theorem d_X12_areBeasts_10 : decode (D_X12_areBeasts).2.1 10 = .ok (.lshl, 1) := by decide +kernel
theorem d_X12_areBeasts_11 : decode (D_X12_areBeasts).2.1 11 = .ok (.lconst 1, 1) := by decide +kernel
theorem d_X12_areBeasts_12 : decode (D_X12_areBeasts).2.1 12 = .ok (.lsub, 1) := by decide +kernel
theorem d_X12_areBeasts_13 : decode (D_X12_areBeasts).2.1 13 = .ok (.invokestatic 266, 3) := by decide +kernel
theorem d_X12_areBeasts_16 : decode (D_X12_areBeasts).2.1 16 = .ok (.ireturn, 1) := by decide +kernel
def f_X12_areBeasts (n : Nat) (x1 : Int) (M : JMem) : Option (Int × JMem) := chk (jin 2 3160) <| bnd (f_X12_isFrom n (jw x1) 0 ((jlshl 1 (M 168 (jw 2).toNat)) - 1) M) fun r1 M2 => chk (jw r1 = 0 ∨ jw r1 = 1) (some (r1, M2))
set_option maxRecDepth 4000 in
theorem t_X12_areBeasts {g : JG} {ad : Nat → Nat} (hs : jStr g ad) (n : Nat) (x1 : Int) (M : JMem) : jB g D_X12_areBeasts ad 0 [some (.ref 167), some (ji x1)] [] M (f_X12_areBeasts n x1 M) := by
  unfold f_X12_areBeasts
  refine jo_iload 1 d_X12_areBeasts_0 rfl rfl ?_
  refine jo_i2l d_X12_areBeasts_1 ?_
  refine jo_lconst0 d_X12_areBeasts_2 ?_
  refine jo_lconst1 d_X12_areBeasts_3 ?_
  refine jo_aload 0 d_X12_areBeasts_4 rfl rfl ?_
  refine jo_getR (k := 0) cl_12 (Nat.le_of_ble_eq_true rfl) lk_X12_7 rfl kc_167 kr_167_0 d_X12_areBeasts_5 ?_
  refine jo_iconst 2 d_X12_areBeasts_8 ?_
  refine jo_iald (N := 3160) kc_168 d_X12_areBeasts_9 ?_
  refine jo_lshl d_X12_areBeasts_10 ?_
  refine jo_lconst1 d_X12_areBeasts_11 ?_
  refine jo_lsub d_X12_areBeasts_12 ?_
  refine jo_callS (st := []) (m_X12_isFrom hs n (jw x1) 0 ((jlshl 1 (M 168 (jw 2).toNat)) - 1) M) ok_X12_isFrom (And.intro (Nat.le_of_ble_eq_true rfl) (Nat.le_of_ble_eq_true rfl)) lm_X12_266 st_X12_isFrom rfl (And.intro (Nat.zero_le _) (Nat.zero_le _)) rfl (Nat.le_of_ble_eq_true rfl) d_X12_areBeasts_13 (fun r1 M2 => ?_)
  exact jo_zretq rfl d_X12_areBeasts_16
theorem m_X12_areBeasts {g : JG} {ad : Nat → Nat} (hs : jStr g ad) (n : Nat) (x1 : Int) (M : JMem) : jMet g jNN ad jR D_X12_areBeasts yX12_areBeasts [.ref 167, ji x1] M (f_X12_areBeasts n x1 M) :=
  jMet.of (lo0 := [some (.ref 167), some (ji x1)]) (by decide) rfl rfl (Nat.le_of_ble_eq_true rfl) (And.intro rfl (And.intro rfl True.intro)) (t_X12_areBeasts hs n x1 M)
/-! CageLeaveModel.isEaten(I)Z -/
def D_X12_isEaten : JD := (RX12, cX12_isEaten, 2, some .boolean, "isEaten", { frames := 2, cells := 0, slots := 0, locals := 42 })
theorem ok_X12_isEaten : jOk D_X12_isEaten yX12_isEaten 1 := ⟨jTW_mem (k := 1718) (by decide +kernel) rfl, jTW_mem (k := 151) (by decide +kernel) rfl, ⟨by decide +kernel, by decide +kernel⟩, by decide +kernel, rfl, rfl⟩
theorem in_X12_isEaten : Cond.instanceMethod yX12_isEaten ∈ jTW := jTW_mem (k := 1717) (by decide +kernel) rfl
theorem se_X12_isEaten : Cond.selects yX12_isEaten.cls yX12_isEaten yX12_isEaten ∈ jTW := jTW_mem (k := 87) (by decide +kernel) rfl
theorem d_X12_isEaten_0 : decode (D_X12_isEaten).2.1 0 = .ok (.aload_n 0, 1) := by decide +kernel
theorem d_X12_isEaten_1 : decode (D_X12_isEaten).2.1 1 = .ok (.iload_n 1, 1) := by decide +kernel
theorem d_X12_isEaten_2 : decode (D_X12_isEaten).2.1 2 = .ok (.iconst 3, 1) := by decide +kernel
theorem d_X12_isEaten_3 : decode (D_X12_isEaten).2.1 3 = .ok (.invokevirtual 276, 3) := by decide +kernel
theorem d_X12_isEaten_6 : decode (D_X12_isEaten).2.1 6 = .ok (.iconst 1, 1) := by decide +kernel
theorem d_X12_isEaten_7 : decode (D_X12_isEaten).2.1 7 = .ok (.if_icmp .ne 7, 3) := by decide +kernel
theorem d_X12_isEaten_10 : decode (D_X12_isEaten).2.1 10 = .ok (.iconst 1, 1) := by decide +kernel
theorem d_X12_isEaten_11 : decode (D_X12_isEaten).2.1 11 = .ok (.goto 4, 3) := by decide +kernel
theorem d_X12_isEaten_14 : decode (D_X12_isEaten).2.1 14 = .ok (.iconst 0, 1) := by decide +kernel
theorem d_X12_isEaten_15 : decode (D_X12_isEaten).2.1 15 = .ok (.ireturn, 1) := by decide +kernel
def f_X12_isEaten (n : Nat) (x1 : Int) (M : JMem) : Option (Int × JMem) := bnd (f_X12_beastOf n x1 3 M) fun r1 M2 => if jw r1 = jw 1 then (some (1, M2)) else (some (0, M2))
set_option maxRecDepth 4000 in
theorem t_X12_isEaten {g : JG} {ad : Nat → Nat} (hs : jStr g ad) (n : Nat) (x1 : Int) (M : JMem) : jB g D_X12_isEaten ad 0 [some (.ref 167), some (ji x1)] [] M (f_X12_isEaten n x1 M) := by
  unfold f_X12_isEaten
  refine jo_aload 0 d_X12_isEaten_0 rfl rfl ?_
  refine jo_iload 1 d_X12_isEaten_1 rfl rfl ?_
  refine jo_iconst 3 d_X12_isEaten_2 ?_
  refine jo_callV (st := []) (m_X12_beastOf hs n x1 3 M) ok_X12_beastOf (And.intro (Nat.le_of_ble_eq_true rfl) (Nat.le_of_ble_eq_true rfl)) lm_X12_276 in_X12_beastOf se_X12_beastOf rfl kc_167 rfl rfl (And.intro (Nat.zero_le _) (Nat.zero_le _)) rfl (Nat.le_of_ble_eq_true rfl) d_X12_isEaten_3 (fun r1 M2 => ?_)
  refine jo_iconst 1 d_X12_isEaten_6 ?_
  refine jo_icmp_ne 14 d_X12_isEaten_7 (by decide) ?_ ?_
  · skip
    refine jo_iconst 0 d_X12_isEaten_14 ?_
    exact jo_zret rfl (by decide) d_X12_isEaten_15
  · skip
    refine jo_iconst 1 d_X12_isEaten_10 ?_
    refine jo_goto 15 d_X12_isEaten_11 (by decide) ?_
    exact jo_zret rfl (by decide) d_X12_isEaten_15
theorem m_X12_isEaten {g : JG} {ad : Nat → Nat} (hs : jStr g ad) (n : Nat) (x1 : Int) (M : JMem) : jMet g jNN ad jR D_X12_isEaten yX12_isEaten [.ref 167, ji x1] M (f_X12_isEaten n x1 M) :=
  jMet.of (lo0 := [some (.ref 167), some (ji x1)]) (by decide) rfl rfl (Nat.le_of_ble_eq_true rfl) (And.intro rfl (And.intro rfl True.intro)) (t_X12_isEaten hs n x1 M)
/-! CageLeaveModel.whereOf(I)I -/
def D_X12_whereOf : JD := (RX12, cX12_whereOf, 2, some .int, "whereOf", { frames := 3, cells := 0, slots := 0, locals := 63 })
theorem ok_X12_whereOf : jOk D_X12_whereOf yX12_whereOf 1 := ⟨jTW_mem (k := 1714) (by decide +kernel) rfl, jTW_mem (k := 151) (by decide +kernel) rfl, ⟨by decide +kernel, by decide +kernel⟩, by decide +kernel, rfl, rfl⟩
theorem in_X12_whereOf : Cond.instanceMethod yX12_whereOf ∈ jTW := jTW_mem (k := 1713) (by decide +kernel) rfl
theorem se_X12_whereOf : Cond.selects yX12_whereOf.cls yX12_whereOf yX12_whereOf ∈ jTW := jTW_mem (k := 86) (by decide +kernel) rfl
theorem lm_X12_279 : Cond.methodLink RX12 279 yX12_isEaten ∈ jTW := jTW_mem (k := 1715) (by decide +kernel) rfl
theorem d_X12_whereOf_0 : decode (D_X12_whereOf).2.1 0 = .ok (.aload_n 0, 1) := by decide +kernel
theorem d_X12_whereOf_1 : decode (D_X12_whereOf).2.1 1 = .ok (.iload_n 1, 1) := by decide +kernel
theorem d_X12_whereOf_2 : decode (D_X12_whereOf).2.1 2 = .ok (.invokevirtual 279, 3) := by decide +kernel
theorem d_X12_whereOf_5 : decode (D_X12_whereOf).2.1 5 = .ok (.ifCond .eq 7, 3) := by decide +kernel
theorem d_X12_whereOf_8 : decode (D_X12_whereOf).2.1 8 = .ok (.iconst (-1), 1) := by decide +kernel
theorem d_X12_whereOf_9 : decode (D_X12_whereOf).2.1 9 = .ok (.goto 10, 3) := by decide +kernel
theorem d_X12_whereOf_12 : decode (D_X12_whereOf).2.1 12 = .ok (.aload_n 0, 1) := by decide +kernel
theorem d_X12_whereOf_13 : decode (D_X12_whereOf).2.1 13 = .ok (.iload_n 1, 1) := by decide +kernel
theorem d_X12_whereOf_14 : decode (D_X12_whereOf).2.1 14 = .ok (.bipush 7, 2) := by decide +kernel
theorem d_X12_whereOf_16 : decode (D_X12_whereOf).2.1 16 = .ok (.invokevirtual 276, 3) := by decide +kernel
theorem d_X12_whereOf_19 : decode (D_X12_whereOf).2.1 19 = .ok (.ireturn, 1) := by decide +kernel
def f_X12_whereOf (n : Nat) (x1 : Int) (M : JMem) : Option (Int × JMem) := bnd (f_X12_isEaten n x1 M) fun r1 M2 => if jw r1 = 0 then (bnd (f_X12_beastOf n x1 7 M2) fun r3 M4 => some (r3, M4)) else (some ((-1), M2))
set_option maxRecDepth 4000 in
theorem t_X12_whereOf {g : JG} {ad : Nat → Nat} (hs : jStr g ad) (n : Nat) (x1 : Int) (M : JMem) : jB g D_X12_whereOf ad 0 [some (.ref 167), some (ji x1)] [] M (f_X12_whereOf n x1 M) := by
  unfold f_X12_whereOf
  refine jo_aload 0 d_X12_whereOf_0 rfl rfl ?_
  refine jo_iload 1 d_X12_whereOf_1 rfl rfl ?_
  refine jo_callV (st := []) (m_X12_isEaten hs n x1 M) ok_X12_isEaten (And.intro (Nat.le_of_ble_eq_true rfl) (Nat.le_of_ble_eq_true rfl)) lm_X12_279 in_X12_isEaten se_X12_isEaten rfl kc_167 rfl rfl (And.intro (Nat.zero_le _) (Nat.zero_le _)) rfl (Nat.le_of_ble_eq_true rfl) d_X12_whereOf_2 (fun r1 M2 => ?_)
  refine jo_if_eq 12 d_X12_whereOf_5 (by decide) ?_ ?_
  · skip
    refine jo_aload 0 d_X12_whereOf_12 rfl rfl ?_
    refine jo_iload 1 d_X12_whereOf_13 rfl rfl ?_
    refine jo_bipush 7 d_X12_whereOf_14 (by decide) ?_
    refine jo_callV (st := []) (m_X12_beastOf hs n x1 7 M2) ok_X12_beastOf (And.intro (Nat.le_of_ble_eq_true rfl) (Nat.le_of_ble_eq_true rfl)) lm_X12_276 in_X12_beastOf se_X12_beastOf rfl kc_167 rfl rfl (And.intro (Nat.zero_le _) (Nat.zero_le _)) rfl (Nat.le_of_ble_eq_true rfl) d_X12_whereOf_16 (fun r3 M4 => ?_)
    exact jo_iret rfl d_X12_whereOf_19
  · skip
    refine jo_iconst (-1) d_X12_whereOf_8 ?_
    refine jo_goto 19 d_X12_whereOf_9 (by decide) ?_
    exact jo_iret rfl d_X12_whereOf_19
theorem m_X12_whereOf {g : JG} {ad : Nat → Nat} (hs : jStr g ad) (n : Nat) (x1 : Int) (M : JMem) : jMet g jNN ad jR D_X12_whereOf yX12_whereOf [.ref 167, ji x1] M (f_X12_whereOf n x1 M) :=
  jMet.of (lo0 := [some (.ref 167), some (ji x1)]) (by decide) rfl rfl (Nat.le_of_ble_eq_true rfl) (And.intro rfl (And.intro rfl True.intro)) (t_X12_whereOf hs n x1 M)
/-! CageLeaveModel.areTogether(II)Z -/
def D_X12_areTogether : JD := (RX12, cX12_areTogether, 3, some .boolean, "areTogether", { frames := 4, cells := 0, slots := 0, locals := 84 })
theorem ok_X12_areTogether : jOk D_X12_areTogether yX12_areTogether 2 := ⟨jTW_mem (k := 1773) (by decide +kernel) rfl, jTW_mem (k := 151) (by decide +kernel) rfl, ⟨by decide +kernel, by decide +kernel⟩, by decide +kernel, rfl, rfl⟩
theorem in_X12_areTogether : Cond.instanceMethod yX12_areTogether ∈ jTW := jTW_mem (k := 1772) (by decide +kernel) rfl
theorem se_X12_areTogether : Cond.selects yX12_areTogether.cls yX12_areTogether yX12_areTogether ∈ jTW := jTW_mem (k := 95) (by decide +kernel) rfl
theorem lm_X12_282 : Cond.methodLink RX12 282 yX12_whereOf ∈ jTW := jTW_mem (k := 1711) (by decide +kernel) rfl
theorem d_X12_areTogether_0 : decode (D_X12_areTogether).2.1 0 = .ok (.aload_n 0, 1) := by decide +kernel
theorem d_X12_areTogether_1 : decode (D_X12_areTogether).2.1 1 = .ok (.iload_n 1, 1) := by decide +kernel
theorem d_X12_areTogether_2 : decode (D_X12_areTogether).2.1 2 = .ok (.invokevirtual 282, 3) := by decide +kernel
theorem d_X12_areTogether_5 : decode (D_X12_areTogether).2.1 5 = .ok (.ifCond .le 20, 3) := by decide +kernel
theorem d_X12_areTogether_8 : decode (D_X12_areTogether).2.1 8 = .ok (.aload_n 0, 1) := by decide +kernel
theorem d_X12_areTogether_9 : decode (D_X12_areTogether).2.1 9 = .ok (.iload_n 1, 1) := by decide +kernel
theorem d_X12_areTogether_10 : decode (D_X12_areTogether).2.1 10 = .ok (.invokevirtual 282, 3) := by decide +kernel
theorem d_X12_areTogether_13 : decode (D_X12_areTogether).2.1 13 = .ok (.aload_n 0, 1) := by decide +kernel
theorem d_X12_areTogether_14 : decode (D_X12_areTogether).2.1 14 = .ok (.iload_n 2, 1) := by decide +kernel
theorem d_X12_areTogether_15 : decode (D_X12_areTogether).2.1 15 = .ok (.invokevirtual 282, 3) := by decide +kernel
theorem d_X12_areTogether_18 : decode (D_X12_areTogether).2.1 18 = .ok (.if_icmp .ne 7, 3) := by decide +kernel
theorem d_X12_areTogether_21 : decode (D_X12_areTogether).2.1 21 = .ok (.iconst 1, 1) := by decide +kernel
theorem d_X12_areTogether_22 : decode (D_X12_areTogether).2.1 22 = .ok (.goto 4, 3) := by decide +kernel
theorem d_X12_areTogether_25 : decode (D_X12_areTogether).2.1 25 = .ok (.iconst 0, 1) := by decide +kernel
theorem d_X12_areTogether_26 : decode (D_X12_areTogether).2.1 26 = .ok (.ireturn, 1) := by decide +kernel
def f_X12_areTogether (n : Nat) (x1 : Int) (x2 : Int) (M : JMem) : Option (Int × JMem) := bnd (f_X12_whereOf n x1 M) fun r1 M2 => if jw r1 ≤ 0 then (some (0, M2)) else (bnd (f_X12_whereOf n x1 M2) fun r3 M4 => bnd (f_X12_whereOf n x2 M4) fun r5 M6 => if jw r3 = jw r5 then (some (1, M6)) else (some (0, M6)))
set_option maxRecDepth 4000 in
theorem t_X12_areTogether {g : JG} {ad : Nat → Nat} (hs : jStr g ad) (n : Nat) (x1 : Int) (x2 : Int) (M : JMem) : jB g D_X12_areTogether ad 0 [some (.ref 167), some (ji x1), some (ji x2)] [] M (f_X12_areTogether n x1 x2 M) := by
  unfold f_X12_areTogether
  refine jo_aload 0 d_X12_areTogether_0 rfl rfl ?_
  refine jo_iload 1 d_X12_areTogether_1 rfl rfl ?_
  refine jo_callV (st := []) (m_X12_whereOf hs n x1 M) ok_X12_whereOf (And.intro (Nat.le_of_ble_eq_true rfl) (Nat.le_of_ble_eq_true rfl)) lm_X12_282 in_X12_whereOf se_X12_whereOf rfl kc_167 rfl rfl (And.intro (Nat.zero_le _) (Nat.zero_le _)) rfl (Nat.le_of_ble_eq_true rfl) d_X12_areTogether_2 (fun r1 M2 => ?_)
  refine jo_if_le 25 d_X12_areTogether_5 (by decide) ?_ ?_
  · skip
    refine jo_iconst 0 d_X12_areTogether_25 ?_
    exact jo_zret rfl (by decide) d_X12_areTogether_26
  · skip
    refine jo_aload 0 d_X12_areTogether_8 rfl rfl ?_
    refine jo_iload 1 d_X12_areTogether_9 rfl rfl ?_
    refine jo_callV (st := []) (m_X12_whereOf hs n x1 M2) ok_X12_whereOf (And.intro (Nat.le_of_ble_eq_true rfl) (Nat.le_of_ble_eq_true rfl)) lm_X12_282 in_X12_whereOf se_X12_whereOf rfl kc_167 rfl rfl (And.intro (Nat.zero_le _) (Nat.zero_le _)) rfl (Nat.le_of_ble_eq_true rfl) d_X12_areTogether_10 (fun r3 M4 => ?_)
    refine jo_aload 0 d_X12_areTogether_13 rfl rfl ?_
    refine jo_iload 2 d_X12_areTogether_14 rfl rfl ?_
    refine jo_callV (st := [ji r3]) (m_X12_whereOf hs n x2 M4) ok_X12_whereOf (And.intro (Nat.le_of_ble_eq_true rfl) (Nat.le_of_ble_eq_true rfl)) lm_X12_282 in_X12_whereOf se_X12_whereOf rfl kc_167 rfl rfl (And.intro (Nat.zero_le _) (Nat.zero_le _)) rfl (Nat.le_of_ble_eq_true rfl) d_X12_areTogether_15 (fun r5 M6 => ?_)
    refine jo_icmp_ne 25 d_X12_areTogether_18 (by decide) ?_ ?_
    · skip
      refine jo_iconst 0 d_X12_areTogether_25 ?_
      exact jo_zret rfl (by decide) d_X12_areTogether_26
    · skip
      refine jo_iconst 1 d_X12_areTogether_21 ?_
      refine jo_goto 26 d_X12_areTogether_22 (by decide) ?_
      exact jo_zret rfl (by decide) d_X12_areTogether_26
theorem m_X12_areTogether {g : JG} {ad : Nat → Nat} (hs : jStr g ad) (n : Nat) (x1 : Int) (x2 : Int) (M : JMem) : jMet g jNN ad jR D_X12_areTogether yX12_areTogether [.ref 167, ji x1, ji x2] M (f_X12_areTogether n x1 x2 M) :=
  jMet.of (lo0 := [some (.ref 167), some (ji x1), some (ji x2)]) (by decide) rfl rfl (Nat.le_of_ble_eq_true rfl) (And.intro rfl (And.intro rfl (And.intro rfl True.intro))) (t_X12_areTogether hs n x1 x2 M)
/-! CageLeaveModel.isBeast(I)Z -/
def D_X12_isBeast : JD := (RX12, cX12_isBeast, 2, some .boolean, "isBeast", { frames := 0, cells := 0, slots := 0, locals := 0 })
theorem ok_X12_isBeast : jOk D_X12_isBeast yX12_isBeast 1 := ⟨jTW_mem (k := 1745) (by decide +kernel) rfl, jTW_mem (k := 151) (by decide +kernel) rfl, ⟨by decide +kernel, by decide +kernel⟩, by decide +kernel, rfl, rfl⟩
theorem in_X12_isBeast : Cond.instanceMethod yX12_isBeast ∈ jTW := jTW_mem (k := 1744) (by decide +kernel) rfl
theorem se_X12_isBeast : Cond.selects yX12_isBeast.cls yX12_isBeast yX12_isBeast ∈ jTW := jTW_mem (k := 91) (by decide +kernel) rfl
theorem d_X12_isBeast_0 : decode (D_X12_isBeast).2.1 0 = .ok (.iload_n 1, 1) := by decide +kernel
theorem d_X12_isBeast_1 : decode (D_X12_isBeast).2.1 1 = .ok (.ifCond .lt 17, 3) := by decide +kernel
theorem d_X12_isBeast_4 : decode (D_X12_isBeast).2.1 4 = .ok (.iload_n 1, 1) := by decide +kernel
theorem d_X12_isBeast_5 : decode (D_X12_isBeast).2.1 5 = .ok (.aload_n 0, 1) := by decide +kernel
theorem d_X12_isBeast_6 : decode (D_X12_isBeast).2.1 6 = .ok (.getfield 7, 3) := by decide +kernel
theorem d_X12_isBeast_9 : decode (D_X12_isBeast).2.1 9 = .ok (.iconst 2, 1) := by decide +kernel
theorem d_X12_isBeast_10 : decode (D_X12_isBeast).2.1 10 = .ok (.iaload, 1) := by decide +kernel
theorem d_X12_isBeast_11 : decode (D_X12_isBeast).2.1 11 = .ok (.if_icmp .ge 7, 3) := by decide +kernel
theorem d_X12_isBeast_14 : decode (D_X12_isBeast).2.1 14 = .ok (.iconst 1, 1) := by decide +kernel
theorem d_X12_isBeast_15 : decode (D_X12_isBeast).2.1 15 = .ok (.goto 4, 3) := by decide +kernel
theorem d_X12_isBeast_18 : decode (D_X12_isBeast).2.1 18 = .ok (.iconst 0, 1) := by decide +kernel
theorem d_X12_isBeast_19 : decode (D_X12_isBeast).2.1 19 = .ok (.ireturn, 1) := by decide +kernel
def f_X12_isBeast (n : Nat) (x1 : Int) (M : JMem) : Option (Int × JMem) := if jw x1 < 0 then (some (0, M)) else (chk (jin 2 3160) <| if jw (M 168 (jw 2).toNat) ≤ jw x1 then (some (0, M)) else (some (1, M)))
set_option maxRecDepth 4000 in
theorem t_X12_isBeast {g : JG} {ad : Nat → Nat} (hs : jStr g ad) (n : Nat) (x1 : Int) (M : JMem) : jB g D_X12_isBeast ad 0 [some (.ref 167), some (ji x1)] [] M (f_X12_isBeast n x1 M) := by
  unfold f_X12_isBeast
  refine jo_iload 1 d_X12_isBeast_0 rfl rfl ?_
  refine jo_if_lt 18 d_X12_isBeast_1 (by decide) ?_ ?_
  · skip
    refine jo_iconst 0 d_X12_isBeast_18 ?_
    exact jo_zret rfl (by decide) d_X12_isBeast_19
  · skip
    refine jo_iload 1 d_X12_isBeast_4 rfl rfl ?_
    refine jo_aload 0 d_X12_isBeast_5 rfl rfl ?_
    refine jo_getR (k := 0) cl_12 (Nat.le_of_ble_eq_true rfl) lk_X12_7 rfl kc_167 kr_167_0 d_X12_isBeast_6 ?_
    refine jo_iconst 2 d_X12_isBeast_9 ?_
    refine jo_iald (N := 3160) kc_168 d_X12_isBeast_10 ?_
    refine jo_icmp_ge 18 d_X12_isBeast_11 (by decide) ?_ ?_
    · skip
      refine jo_iconst 0 d_X12_isBeast_18 ?_
      exact jo_zret rfl (by decide) d_X12_isBeast_19
    · skip
      refine jo_iconst 1 d_X12_isBeast_14 ?_
      refine jo_goto 19 d_X12_isBeast_15 (by decide) ?_
      exact jo_zret rfl (by decide) d_X12_isBeast_19
theorem m_X12_isBeast {g : JG} {ad : Nat → Nat} (hs : jStr g ad) (n : Nat) (x1 : Int) (M : JMem) : jMet g jNN ad jR D_X12_isBeast yX12_isBeast [.ref 167, ji x1] M (f_X12_isBeast n x1 M) :=
  jMet.of (lo0 := [some (.ref 167), some (ji x1)]) (by decide) rfl rfl (Nat.le_of_ble_eq_true rfl) (And.intro rfl (And.intro rfl True.intro)) (t_X12_isBeast hs n x1 M)
/-! CageLeaveModel.areTwo(II)Z -/
def D_X12_areTwo : JD := (RX12, cX12_areTwo, 3, some .boolean, "areTwo", { frames := 1, cells := 0, slots := 0, locals := 21 })
theorem ok_X12_areTwo : jOk D_X12_areTwo yX12_areTwo 2 := ⟨jTW_mem (k := 1769) (by decide +kernel) rfl, jTW_mem (k := 151) (by decide +kernel) rfl, ⟨by decide +kernel, by decide +kernel⟩, by decide +kernel, rfl, rfl⟩
theorem in_X12_areTwo : Cond.instanceMethod yX12_areTwo ∈ jTW := jTW_mem (k := 1768) (by decide +kernel) rfl
theorem se_X12_areTwo : Cond.selects yX12_areTwo.cls yX12_areTwo yX12_areTwo ∈ jTW := jTW_mem (k := 94) (by decide +kernel) rfl
theorem lm_X12_263 : Cond.methodLink RX12 263 yX12_isBeast ∈ jTW := jTW_mem (k := 1742) (by decide +kernel) rfl
theorem d_X12_areTwo_0 : decode (D_X12_areTwo).2.1 0 = .ok (.aload_n 0, 1) := by decide +kernel
theorem d_X12_areTwo_1 : decode (D_X12_areTwo).2.1 1 = .ok (.iload_n 1, 1) := by decide +kernel
theorem d_X12_areTwo_2 : decode (D_X12_areTwo).2.1 2 = .ok (.invokevirtual 263, 3) := by decide +kernel
theorem d_X12_areTwo_5 : decode (D_X12_areTwo).2.1 5 = .ok (.ifCond .eq 20, 3) := by decide +kernel
theorem d_X12_areTwo_8 : decode (D_X12_areTwo).2.1 8 = .ok (.aload_n 0, 1) := by decide +kernel
theorem d_X12_areTwo_9 : decode (D_X12_areTwo).2.1 9 = .ok (.iload_n 2, 1) := by decide +kernel
theorem d_X12_areTwo_10 : decode (D_X12_areTwo).2.1 10 = .ok (.invokevirtual 263, 3) := by decide +kernel
theorem d_X12_areTwo_13 : decode (D_X12_areTwo).2.1 13 = .ok (.ifCond .eq 12, 3) := by decide +kernel
theorem d_X12_areTwo_16 : decode (D_X12_areTwo).2.1 16 = .ok (.iload_n 1, 1) := by decide +kernel
theorem d_X12_areTwo_17 : decode (D_X12_areTwo).2.1 17 = .ok (.iload_n 2, 1) := by decide +kernel
theorem d_X12_areTwo_18 : decode (D_X12_areTwo).2.1 18 = .ok (.if_icmp .eq 7, 3) := by decide +kernel
theorem d_X12_areTwo_21 : decode (D_X12_areTwo).2.1 21 = .ok (.iconst 1, 1) := by decide +kernel
theorem d_X12_areTwo_22 : decode (D_X12_areTwo).2.1 22 = .ok (.goto 4, 3) := by decide +kernel
theorem d_X12_areTwo_25 : decode (D_X12_areTwo).2.1 25 = .ok (.iconst 0, 1) := by decide +kernel
theorem d_X12_areTwo_26 : decode (D_X12_areTwo).2.1 26 = .ok (.ireturn, 1) := by decide +kernel
def f_X12_areTwo (n : Nat) (x1 : Int) (x2 : Int) (M : JMem) : Option (Int × JMem) := bnd (f_X12_isBeast n x1 M) fun r1 M2 => if jw r1 = 0 then (some (0, M2)) else (bnd (f_X12_isBeast n x2 M2) fun r3 M4 => if jw r3 = 0 then (some (0, M4)) else (if jw x1 = jw x2 then (some (0, M4)) else (some (1, M4))))
set_option maxRecDepth 4000 in
theorem t_X12_areTwo {g : JG} {ad : Nat → Nat} (hs : jStr g ad) (n : Nat) (x1 : Int) (x2 : Int) (M : JMem) : jB g D_X12_areTwo ad 0 [some (.ref 167), some (ji x1), some (ji x2)] [] M (f_X12_areTwo n x1 x2 M) := by
  unfold f_X12_areTwo
  refine jo_aload 0 d_X12_areTwo_0 rfl rfl ?_
  refine jo_iload 1 d_X12_areTwo_1 rfl rfl ?_
  refine jo_callV (st := []) (m_X12_isBeast hs n x1 M) ok_X12_isBeast (And.intro (Nat.le_of_ble_eq_true rfl) (Nat.le_of_ble_eq_true rfl)) lm_X12_263 in_X12_isBeast se_X12_isBeast rfl kc_167 rfl rfl (And.intro (Nat.zero_le _) (Nat.zero_le _)) rfl (Nat.le_of_ble_eq_true rfl) d_X12_areTwo_2 (fun r1 M2 => ?_)
  refine jo_if_eq 25 d_X12_areTwo_5 (by decide) ?_ ?_
  · skip
    refine jo_iconst 0 d_X12_areTwo_25 ?_
    exact jo_zret rfl (by decide) d_X12_areTwo_26
  · skip
    refine jo_aload 0 d_X12_areTwo_8 rfl rfl ?_
    refine jo_iload 2 d_X12_areTwo_9 rfl rfl ?_
    refine jo_callV (st := []) (m_X12_isBeast hs n x2 M2) ok_X12_isBeast (And.intro (Nat.le_of_ble_eq_true rfl) (Nat.le_of_ble_eq_true rfl)) lm_X12_263 in_X12_isBeast se_X12_isBeast rfl kc_167 rfl rfl (And.intro (Nat.zero_le _) (Nat.zero_le _)) rfl (Nat.le_of_ble_eq_true rfl) d_X12_areTwo_10 (fun r3 M4 => ?_)
    refine jo_if_eq 25 d_X12_areTwo_13 (by decide) ?_ ?_
    · skip
      refine jo_iconst 0 d_X12_areTwo_25 ?_
      exact jo_zret rfl (by decide) d_X12_areTwo_26
    · skip
      refine jo_iload 1 d_X12_areTwo_16 rfl rfl ?_
      refine jo_iload 2 d_X12_areTwo_17 rfl rfl ?_
      refine jo_icmp_eq 25 d_X12_areTwo_18 (by decide) ?_ ?_
      · skip
        refine jo_iconst 0 d_X12_areTwo_25 ?_
        exact jo_zret rfl (by decide) d_X12_areTwo_26
      · skip
        refine jo_iconst 1 d_X12_areTwo_21 ?_
        refine jo_goto 26 d_X12_areTwo_22 (by decide) ?_
        exact jo_zret rfl (by decide) d_X12_areTwo_26
theorem m_X12_areTwo {g : JG} {ad : Nat → Nat} (hs : jStr g ad) (n : Nat) (x1 : Int) (x2 : Int) (M : JMem) : jMet g jNN ad jR D_X12_areTwo yX12_areTwo [.ref 167, ji x1, ji x2] M (f_X12_areTwo n x1 x2 M) :=
  jMet.of (lo0 := [some (.ref 167), some (ji x1), some (ji x2)]) (by decide) rfl rfl (Nat.le_of_ble_eq_true rfl) (And.intro rfl (And.intro rfl (And.intro rfl True.intro))) (t_X12_areTwo hs n x1 x2 M)
/-! CageLeaveModel.refuse(I)I -/
def D_X12_refuse : JD := (RX12, cX12_refuse, 2, some .int, "refuse", { frames := 0, cells := 0, slots := 0, locals := 0 })
theorem ok_X12_refuse : jOk D_X12_refuse yX12_refuse 1 := ⟨jTW_mem (k := 1576) (by decide +kernel) rfl, jTW_mem (k := 151) (by decide +kernel) rfl, ⟨by decide +kernel, by decide +kernel⟩, by decide +kernel, rfl, rfl⟩
theorem in_X12_refuse : Cond.instanceMethod yX12_refuse ∈ jTW := jTW_mem (k := 1575) (by decide +kernel) rfl
theorem se_X12_refuse : Cond.selects yX12_refuse.cls yX12_refuse yX12_refuse ∈ jTW := jTW_mem (k := 55) (by decide +kernel) rfl
theorem lk_X12_81 : Cond.fieldLink RX12 81 (TX12 2).1 (TX12 2).2.1 (TX12 2).2.2.1 ∈ jTW := jTW_mem (k := 1378) (by decide +kernel) rfl
theorem d_X12_refuse_0 : decode (D_X12_refuse).2.1 0 = .ok (.aload_n 0, 1) := by decide +kernel
theorem d_X12_refuse_1 : decode (D_X12_refuse).2.1 1 = .ok (.iload_n 1, 1) := by decide +kernel
theorem d_X12_refuse_2 : decode (D_X12_refuse).2.1 2 = .ok (.putfield 81, 3) := by decide +kernel
theorem d_X12_refuse_5 : decode (D_X12_refuse).2.1 5 = .ok (.iconst (-1), 1) := by decide +kernel
theorem d_X12_refuse_6 : decode (D_X12_refuse).2.1 6 = .ok (.ireturn, 1) := by decide +kernel
def f_X12_refuse (n : Nat) (x1 : Int) (M : JMem) : Option (Int × JMem) := letm (jup M 167 2 x1) fun M1 => some ((-1), M1)
set_option maxRecDepth 4000 in
theorem t_X12_refuse {g : JG} {ad : Nat → Nat} (hs : jStr g ad) (n : Nat) (x1 : Int) (M : JMem) : jB g D_X12_refuse ad 0 [some (.ref 167), some (ji x1)] [] M (f_X12_refuse n x1 M) := by
  unfold f_X12_refuse
  refine jo_aload 0 d_X12_refuse_0 rfl rfl ?_
  refine jo_iload 1 d_X12_refuse_1 rfl rfl ?_
  refine jo_putI (k := 2) cl_12 (Nat.le_of_ble_eq_true rfl) lk_X12_81 rfl rfl kc_167 d_X12_refuse_2 (fun M1 => ?_)
  refine jo_iconst (-1) d_X12_refuse_5 ?_
  exact jo_iret rfl d_X12_refuse_6
theorem m_X12_refuse {g : JG} {ad : Nat → Nat} (hs : jStr g ad) (n : Nat) (x1 : Int) (M : JMem) : jMet g jNN ad jR D_X12_refuse yX12_refuse [.ref 167, ji x1] M (f_X12_refuse n x1 M) :=
  jMet.of (lo0 := [some (.ref 167), some (ji x1)]) (by decide) rfl rfl (Nat.le_of_ble_eq_true rfl) (And.intro rfl (And.intro rfl True.intro)) (t_X12_refuse hs n x1 M)
/-! CageLeaveModel.gives(I)I -/
def D_X12_gives : JD := (RX12, cX12_gives, 2, some .int, "gives", { frames := 0, cells := 0, slots := 0, locals := 0 })
theorem ok_X12_gives : jOk D_X12_gives yX12_gives 1 := ⟨jTW_mem (k := 1663) (by decide +kernel) rfl, jTW_mem (k := 151) (by decide +kernel) rfl, ⟨by decide +kernel, by decide +kernel⟩, by decide +kernel, rfl, rfl⟩
theorem in_X12_gives : Cond.instanceMethod yX12_gives ∈ jTW := jTW_mem (k := 1662) (by decide +kernel) rfl
theorem se_X12_gives : Cond.selects yX12_gives.cls yX12_gives yX12_gives ∈ jTW := jTW_mem (k := 76) (by decide +kernel) rfl
theorem d_X12_gives_0 : decode (D_X12_gives).2.1 0 = .ok (.aload_n 0, 1) := by decide +kernel
theorem d_X12_gives_1 : decode (D_X12_gives).2.1 1 = .ok (.iconst 0, 1) := by decide +kernel
theorem d_X12_gives_2 : decode (D_X12_gives).2.1 2 = .ok (.putfield 81, 3) := by decide +kernel
theorem d_X12_gives_5 : decode (D_X12_gives).2.1 5 = .ok (.iload_n 1, 1) := by decide +kernel
theorem d_X12_gives_6 : decode (D_X12_gives).2.1 6 = .ok (.ireturn, 1) := by decide +kernel
def f_X12_gives (n : Nat) (x1 : Int) (M : JMem) : Option (Int × JMem) := letm (jup M 167 2 0) fun M1 => some (x1, M1)
set_option maxRecDepth 4000 in
theorem t_X12_gives {g : JG} {ad : Nat → Nat} (hs : jStr g ad) (n : Nat) (x1 : Int) (M : JMem) : jB g D_X12_gives ad 0 [some (.ref 167), some (ji x1)] [] M (f_X12_gives n x1 M) := by
  unfold f_X12_gives
  refine jo_aload 0 d_X12_gives_0 rfl rfl ?_
  refine jo_iconst 0 d_X12_gives_1 ?_
  refine jo_putI (k := 2) cl_12 (Nat.le_of_ble_eq_true rfl) lk_X12_81 rfl rfl kc_167 d_X12_gives_2 (fun M1 => ?_)
  refine jo_iload 1 d_X12_gives_5 rfl rfl ?_
  exact jo_iret rfl d_X12_gives_6
theorem m_X12_gives {g : JG} {ad : Nat → Nat} (hs : jStr g ad) (n : Nat) (x1 : Int) (M : JMem) : jMet g jNN ad jR D_X12_gives yX12_gives [.ref 167, ji x1] M (f_X12_gives n x1 M) :=
  jMet.of (lo0 := [some (.ref 167), some (ji x1)]) (by decide) rfl rfl (Nat.le_of_ble_eq_true rfl) (And.intro rfl (And.intro rfl True.intro)) (t_X12_gives hs n x1 M)
/-! CageLeaveModel.orNone(I)I -/
def D_X12_orNone : JD := (RX12, cX12_orNone, 2, some .int, "orNone", { frames := 1, cells := 0, slots := 0, locals := 21 })
theorem ok_X12_orNone : jOk D_X12_orNone yX12_orNone 1 := ⟨jTW_mem (k := 1753) (by decide +kernel) rfl, jTW_mem (k := 151) (by decide +kernel) rfl, ⟨by decide +kernel, by decide +kernel⟩, by decide +kernel, rfl, rfl⟩
theorem in_X12_orNone : Cond.instanceMethod yX12_orNone ∈ jTW := jTW_mem (k := 1752) (by decide +kernel) rfl
theorem se_X12_orNone : Cond.selects yX12_orNone.cls yX12_orNone yX12_orNone ∈ jTW := jTW_mem (k := 92) (by decide +kernel) rfl
theorem lm_X12_91 : Cond.methodLink RX12 91 yX12_gives ∈ jTW := jTW_mem (k := 1660) (by decide +kernel) rfl
theorem lm_X12_87 : Cond.methodLink RX12 87 yX12_refuse ∈ jTW := jTW_mem (k := 1573) (by decide +kernel) rfl
theorem d_X12_orNone_0 : decode (D_X12_orNone).2.1 0 = .ok (.iload_n 1, 1) := by decide +kernel
theorem d_X12_orNone_1 : decode (D_X12_orNone).2.1 1 = .ok (.iconst (-1), 1) := by decide +kernel
theorem d_X12_orNone_2 : decode (D_X12_orNone).2.1 2 = .ok (.if_icmp .ne 12, 3) := by decide +kernel
theorem d_X12_orNone_5 : decode (D_X12_orNone).2.1 5 = .ok (.aload_n 0, 1) := by decide +kernel
theorem d_X12_orNone_6 : decode (D_X12_orNone).2.1 6 = .ok (.bipush 6, 2) := by decide +kernel
theorem d_X12_orNone_8 : decode (D_X12_orNone).2.1 8 = .ok (.invokevirtual 87, 3) := by decide +kernel
theorem d_X12_orNone_11 : decode (D_X12_orNone).2.1 11 = .ok (.goto 8, 3) := by decide +kernel
theorem d_X12_orNone_14 : decode (D_X12_orNone).2.1 14 = .ok (.aload_n 0, 1) := by decide +kernel
theorem d_X12_orNone_15 : decode (D_X12_orNone).2.1 15 = .ok (.iload_n 1, 1) := by decide +kernel
theorem d_X12_orNone_16 : decode (D_X12_orNone).2.1 16 = .ok (.invokevirtual 91, 3) := by decide +kernel
theorem d_X12_orNone_19 : decode (D_X12_orNone).2.1 19 = .ok (.ireturn, 1) := by decide +kernel
def f_X12_orNone (n : Nat) (x1 : Int) (M : JMem) : Option (Int × JMem) := if jw x1 = jw (-1) then (bnd (f_X12_refuse n 6 M) fun r3 M4 => some (r3, M4)) else (bnd (f_X12_gives n x1 M) fun r1 M2 => some (r1, M2))
set_option maxRecDepth 4000 in
theorem t_X12_orNone {g : JG} {ad : Nat → Nat} (hs : jStr g ad) (n : Nat) (x1 : Int) (M : JMem) : jB g D_X12_orNone ad 0 [some (.ref 167), some (ji x1)] [] M (f_X12_orNone n x1 M) := by
  unfold f_X12_orNone
  refine jo_iload 1 d_X12_orNone_0 rfl rfl ?_
  refine jo_iconst (-1) d_X12_orNone_1 ?_
  refine jo_icmp_ne 14 d_X12_orNone_2 (by decide) ?_ ?_
  · skip
    refine jo_aload 0 d_X12_orNone_14 rfl rfl ?_
    refine jo_iload 1 d_X12_orNone_15 rfl rfl ?_
    refine jo_callV (st := []) (m_X12_gives hs n x1 M) ok_X12_gives (And.intro (Nat.le_of_ble_eq_true rfl) (Nat.le_of_ble_eq_true rfl)) lm_X12_91 in_X12_gives se_X12_gives rfl kc_167 rfl rfl (And.intro (Nat.zero_le _) (Nat.zero_le _)) rfl (Nat.le_of_ble_eq_true rfl) d_X12_orNone_16 (fun r1 M2 => ?_)
    exact jo_iret rfl d_X12_orNone_19
  · skip
    refine jo_aload 0 d_X12_orNone_5 rfl rfl ?_
    refine jo_bipush 6 d_X12_orNone_6 (by decide) ?_
    refine jo_callV (st := []) (m_X12_refuse hs n 6 M) ok_X12_refuse (And.intro (Nat.le_of_ble_eq_true rfl) (Nat.le_of_ble_eq_true rfl)) lm_X12_87 in_X12_refuse se_X12_refuse rfl kc_167 rfl rfl (And.intro (Nat.zero_le _) (Nat.zero_le _)) rfl (Nat.le_of_ble_eq_true rfl) d_X12_orNone_8 (fun r3 M4 => ?_)
    refine jo_goto 19 d_X12_orNone_11 (by decide) ?_
    exact jo_iret rfl d_X12_orNone_19
theorem m_X12_orNone {g : JG} {ad : Nat → Nat} (hs : jStr g ad) (n : Nat) (x1 : Int) (M : JMem) : jMet g jNN ad jR D_X12_orNone yX12_orNone [.ref 167, ji x1] M (f_X12_orNone n x1 M) :=
  jMet.of (lo0 := [some (.ref 167), some (ji x1)]) (by decide) rfl rfl (Nat.le_of_ble_eq_true rfl) (And.intro rfl (And.intro rfl True.intro)) (t_X12_orNone hs n x1 M)
/-! CageLeaveModel.at(I)I -/
def D_X12_at : JD := (RX12, cX12_at, 2, some .int, "at", { frames := 4, cells := 0, slots := 0, locals := 84 })
theorem ok_X12_at : jOk D_X12_at yX12_at 1 := ⟨jTW_mem (k := 1749) (by decide +kernel) rfl, jTW_mem (k := 151) (by decide +kernel) rfl, ⟨by decide +kernel, by decide +kernel⟩, by decide +kernel, rfl, rfl⟩
theorem in_X12_at : Cond.instanceMethod yX12_at ∈ jTW := jTW_mem (k := 1747) (by decide +kernel) rfl
theorem se_X12_at : Cond.selects yX12_at.cls yX12_at yX12_at ∈ jTW := jTW_mem (k := 1748) (by decide +kernel) rfl
theorem lm_X12_303 : Cond.methodLink RX12 303 yX12_orNone ∈ jTW := jTW_mem (k := 1750) (by decide +kernel) rfl
theorem d_X12_at_0 : decode (D_X12_at).2.1 0 = .ok (.aload_n 0, 1) := by decide +kernel
theorem d_X12_at_1 : decode (D_X12_at).2.1 1 = .ok (.iload_n 1, 1) := by decide +kernel
theorem d_X12_at_2 : decode (D_X12_at).2.1 2 = .ok (.invokevirtual 263, 3) := by decide +kernel
theorem d_X12_at_5 : decode (D_X12_at).2.1 5 = .ok (.ifCond .eq 15, 3) := by decide +kernel
theorem d_X12_at_8 : decode (D_X12_at).2.1 8 = .ok (.aload_n 0, 1) := by decide +kernel
theorem d_X12_at_9 : decode (D_X12_at).2.1 9 = .ok (.aload_n 0, 1) := by decide +kernel
theorem d_X12_at_10 : decode (D_X12_at).2.1 10 = .ok (.iload_n 1, 1) := by decide +kernel
theorem d_X12_at_11 : decode (D_X12_at).2.1 11 = .ok (.invokevirtual 282, 3) := by decide +kernel
theorem d_X12_at_14 : decode (D_X12_at).2.1 14 = .ok (.invokevirtual 303, 3) := by decide +kernel
theorem d_X12_at_17 : decode (D_X12_at).2.1 17 = .ok (.goto 8, 3) := by decide +kernel
theorem d_X12_at_20 : decode (D_X12_at).2.1 20 = .ok (.aload_n 0, 1) := by decide +kernel
theorem d_X12_at_21 : decode (D_X12_at).2.1 21 = .ok (.iconst 1, 1) := by decide +kernel
theorem d_X12_at_22 : decode (D_X12_at).2.1 22 = .ok (.invokevirtual 87, 3) := by decide +kernel
theorem d_X12_at_25 : decode (D_X12_at).2.1 25 = .ok (.ireturn, 1) := by decide +kernel
def f_X12_at (n : Nat) (x1 : Int) (M : JMem) : Option (Int × JMem) := bnd (f_X12_isBeast n x1 M) fun r1 M2 => if jw r1 = 0 then (bnd (f_X12_refuse n 1 M2) fun r3 M4 => some (r3, M4)) else (bnd (f_X12_whereOf n x1 M2) fun r5 M6 => bnd (f_X12_orNone n r5 M6) fun r7 M8 => some (r7, M8))
set_option maxRecDepth 4000 in
theorem t_X12_at {g : JG} {ad : Nat → Nat} (hs : jStr g ad) (n : Nat) (x1 : Int) (M : JMem) : jB g D_X12_at ad 0 [some (.ref 167), some (ji x1)] [] M (f_X12_at n x1 M) := by
  unfold f_X12_at
  refine jo_aload 0 d_X12_at_0 rfl rfl ?_
  refine jo_iload 1 d_X12_at_1 rfl rfl ?_
  refine jo_callV (st := []) (m_X12_isBeast hs n x1 M) ok_X12_isBeast (And.intro (Nat.le_of_ble_eq_true rfl) (Nat.le_of_ble_eq_true rfl)) lm_X12_263 in_X12_isBeast se_X12_isBeast rfl kc_167 rfl rfl (And.intro (Nat.zero_le _) (Nat.zero_le _)) rfl (Nat.le_of_ble_eq_true rfl) d_X12_at_2 (fun r1 M2 => ?_)
  refine jo_if_eq 20 d_X12_at_5 (by decide) ?_ ?_
  · skip
    refine jo_aload 0 d_X12_at_20 rfl rfl ?_
    refine jo_iconst 1 d_X12_at_21 ?_
    refine jo_callV (st := []) (m_X12_refuse hs n 1 M2) ok_X12_refuse (And.intro (Nat.le_of_ble_eq_true rfl) (Nat.le_of_ble_eq_true rfl)) lm_X12_87 in_X12_refuse se_X12_refuse rfl kc_167 rfl rfl (And.intro (Nat.zero_le _) (Nat.zero_le _)) rfl (Nat.le_of_ble_eq_true rfl) d_X12_at_22 (fun r3 M4 => ?_)
    exact jo_iret rfl d_X12_at_25
  · skip
    refine jo_aload 0 d_X12_at_8 rfl rfl ?_
    refine jo_aload 0 d_X12_at_9 rfl rfl ?_
    refine jo_iload 1 d_X12_at_10 rfl rfl ?_
    refine jo_callV (st := [.ref 167]) (m_X12_whereOf hs n x1 M2) ok_X12_whereOf (And.intro (Nat.le_of_ble_eq_true rfl) (Nat.le_of_ble_eq_true rfl)) lm_X12_282 in_X12_whereOf se_X12_whereOf rfl kc_167 rfl rfl (And.intro (Nat.zero_le _) (Nat.zero_le _)) rfl (Nat.le_of_ble_eq_true rfl) d_X12_at_11 (fun r5 M6 => ?_)
    refine jo_callV (st := []) (m_X12_orNone hs n r5 M6) ok_X12_orNone (And.intro (Nat.le_of_ble_eq_true rfl) (Nat.le_of_ble_eq_true rfl)) lm_X12_303 in_X12_orNone se_X12_orNone rfl kc_167 rfl rfl (And.intro (Nat.zero_le _) (Nat.zero_le _)) rfl (Nat.le_of_ble_eq_true rfl) d_X12_at_14 (fun r7 M8 => ?_)
    refine jo_goto 25 d_X12_at_17 (by decide) ?_
    exact jo_iret rfl d_X12_at_25
theorem m_X12_at {g : JG} {ad : Nat → Nat} (hs : jStr g ad) (n : Nat) (x1 : Int) (M : JMem) : jMet g jNN ad jR D_X12_at yX12_at [.ref 167, ji x1] M (f_X12_at n x1 M) :=
  jMet.of (lo0 := [some (.ref 167), some (ji x1)]) (by decide) rfl rfl (Nat.le_of_ble_eq_true rfl) (And.intro rfl (And.intro rfl True.intro)) (t_X12_at hs n x1 M)
/-! CageLeaveModel.is(I)Z -/
def D_X12_is : JD := (RX12, cX12_is, 2, some .boolean, "is", { frames := 0, cells := 0, slots := 0, locals := 0 })
theorem ok_X12_is : jOk D_X12_is yX12_is 1 := ⟨jTW_mem (k := 1516) (by decide +kernel) rfl, jTW_mem (k := 151) (by decide +kernel) rfl, ⟨by decide +kernel, by decide +kernel⟩, by decide +kernel, rfl, rfl⟩
theorem in_X12_is : Cond.instanceMethod yX12_is ∈ jTW := jTW_mem (k := 1515) (by decide +kernel) rfl
theorem se_X12_is : Cond.selects yX12_is.cls yX12_is yX12_is ∈ jTW := jTW_mem (k := 49) (by decide +kernel) rfl
theorem d_X12_is_0 : decode (D_X12_is).2.1 0 = .ok (.aload_n 0, 1) := by decide +kernel
theorem d_X12_is_1 : decode (D_X12_is).2.1 1 = .ok (.iload_n 1, 1) := by decide +kernel
theorem d_X12_is_2 : decode (D_X12_is).2.1 2 = .ok (.putfield 81, 3) := by decide +kernel
theorem d_X12_is_5 : decode (D_X12_is).2.1 5 = .ok (.iload_n 1, 1) := by decide +kernel
theorem d_X12_is_6 : decode (D_X12_is).2.1 6 = .ok (.ifCond .ne 7, 3) := by decide +kernel
theorem d_X12_is_9 : decode (D_X12_is).2.1 9 = .ok (.iconst 1, 1) := by decide +kernel
theorem d_X12_is_10 : decode (D_X12_is).2.1 10 = .ok (.goto 4, 3) := by decide +kernel
theorem d_X12_is_13 : decode (D_X12_is).2.1 13 = .ok (.iconst 0, 1) := by decide +kernel
theorem d_X12_is_14 : decode (D_X12_is).2.1 14 = .ok (.ireturn, 1) := by decide +kernel
def f_X12_is (n : Nat) (x1 : Int) (M : JMem) : Option (Int × JMem) := letm (jup M 167 2 x1) fun M1 => if jw x1 = 0 then (some (1, M1)) else (some (0, M1))
set_option maxRecDepth 4000 in
theorem t_X12_is {g : JG} {ad : Nat → Nat} (hs : jStr g ad) (n : Nat) (x1 : Int) (M : JMem) : jB g D_X12_is ad 0 [some (.ref 167), some (ji x1)] [] M (f_X12_is n x1 M) := by
  unfold f_X12_is
  refine jo_aload 0 d_X12_is_0 rfl rfl ?_
  refine jo_iload 1 d_X12_is_1 rfl rfl ?_
  refine jo_putI (k := 2) cl_12 (Nat.le_of_ble_eq_true rfl) lk_X12_81 rfl rfl kc_167 d_X12_is_2 (fun M1 => ?_)
  refine jo_iload 1 d_X12_is_5 rfl rfl ?_
  refine jo_if_ne 13 d_X12_is_6 (by decide) ?_ ?_
  · skip
    refine jo_iconst 0 d_X12_is_13 ?_
    exact jo_zret rfl (by decide) d_X12_is_14
  · skip
    refine jo_iconst 1 d_X12_is_9 ?_
    refine jo_goto 14 d_X12_is_10 (by decide) ?_
    exact jo_zret rfl (by decide) d_X12_is_14
theorem m_X12_is {g : JG} {ad : Nat → Nat} (hs : jStr g ad) (n : Nat) (x1 : Int) (M : JMem) : jMet g jNN ad jR D_X12_is yX12_is [.ref 167, ji x1] M (f_X12_is n x1 M) :=
  jMet.of (lo0 := [some (.ref 167), some (ji x1)]) (by decide) rfl rfl (Nat.le_of_ble_eq_true rfl) (And.intro rfl (And.intro rfl True.intro)) (t_X12_is hs n x1 M)
/-! CageLeaveModel.isIn(II)Z -/
def D_X12_isIn : JD := (RX12, cX12_isIn, 3, some .boolean, "isIn", { frames := 0, cells := 0, slots := 0, locals := 0 })
theorem ok_X12_isIn : jOk D_X12_isIn yX12_isIn 2 := ⟨jTW_mem (k := 1801) (by decide +kernel) rfl, jTW_mem (k := 151) (by decide +kernel) rfl, ⟨by decide +kernel, by decide +kernel⟩, by decide +kernel, rfl, rfl⟩
theorem in_X12_isIn : Cond.instanceMethod yX12_isIn ∈ jTW := jTW_mem (k := 1800) (by decide +kernel) rfl
theorem se_X12_isIn : Cond.selects yX12_isIn.cls yX12_isIn yX12_isIn ∈ jTW := jTW_mem (k := 100) (by decide +kernel) rfl
theorem d_X12_isIn_0 : decode (D_X12_isIn).2.1 0 = .ok (.iload_n 1, 1) := by decide +kernel
theorem d_X12_isIn_1 : decode (D_X12_isIn).2.1 1 = .ok (.iload_n 2, 1) := by decide +kernel
theorem d_X12_isIn_2 : decode (D_X12_isIn).2.1 2 = .ok (.ishr, 1) := by decide +kernel
theorem d_X12_isIn_3 : decode (D_X12_isIn).2.1 3 = .ok (.iconst 1, 1) := by decide +kernel
theorem d_X12_isIn_4 : decode (D_X12_isIn).2.1 4 = .ok (.iand, 1) := by decide +kernel
theorem d_X12_isIn_5 : decode (D_X12_isIn).2.1 5 = .ok (.iconst 1, 1) := by decide +kernel
theorem d_X12_isIn_6 : decode (D_X12_isIn).2.1 6 = .ok (.if_icmp .ne 7, 3) := by decide +kernel
theorem d_X12_isIn_9 : decode (D_X12_isIn).2.1 9 = .ok (.iconst 1, 1) := by decide +kernel
theorem d_X12_isIn_10 : decode (D_X12_isIn).2.1 10 = .ok (.goto 4, 3) := by decide +kernel
theorem d_X12_isIn_13 : decode (D_X12_isIn).2.1 13 = .ok (.iconst 0, 1) := by decide +kernel
theorem d_X12_isIn_14 : decode (D_X12_isIn).2.1 14 = .ok (.ireturn, 1) := by decide +kernel
def f_X12_isIn (n : Nat) (x1 : Int) (x2 : Int) (M : JMem) : Option (Int × JMem) := if jw (jand (jshr x1 x2) 1) = jw 1 then (some (1, M)) else (some (0, M))
set_option maxRecDepth 4000 in
theorem t_X12_isIn {g : JG} {ad : Nat → Nat} (hs : jStr g ad) (n : Nat) (x1 : Int) (x2 : Int) (M : JMem) : jB g D_X12_isIn ad 0 [some (.ref 167), some (ji x1), some (ji x2)] [] M (f_X12_isIn n x1 x2 M) := by
  unfold f_X12_isIn
  refine jo_iload 1 d_X12_isIn_0 rfl rfl ?_
  refine jo_iload 2 d_X12_isIn_1 rfl rfl ?_
  refine jo_ishr d_X12_isIn_2 ?_
  refine jo_iconst 1 d_X12_isIn_3 ?_
  refine jo_iand d_X12_isIn_4 ?_
  refine jo_iconst 1 d_X12_isIn_5 ?_
  refine jo_icmp_ne 13 d_X12_isIn_6 (by decide) ?_ ?_
  · skip
    refine jo_iconst 0 d_X12_isIn_13 ?_
    exact jo_zret rfl (by decide) d_X12_isIn_14
  · skip
    refine jo_iconst 1 d_X12_isIn_9 ?_
    refine jo_goto 14 d_X12_isIn_10 (by decide) ?_
    exact jo_zret rfl (by decide) d_X12_isIn_14
theorem m_X12_isIn {g : JG} {ad : Nat → Nat} (hs : jStr g ad) (n : Nat) (x1 : Int) (x2 : Int) (M : JMem) : jMet g jNN ad jR D_X12_isIn yX12_isIn [.ref 167, ji x1, ji x2] M (f_X12_isIn n x1 x2 M) :=
  jMet.of (lo0 := [some (.ref 167), some (ji x1), some (ji x2)]) (by decide) rfl rfl (Nat.le_of_ble_eq_true rfl) (And.intro rfl (And.intro rfl (And.intro rfl True.intro))) (t_X12_isIn hs n x1 x2 M)
/-! CageLeaveModel.tellsBy(JJ)Z -/
def D_X12_tellsBy : JD := (RX12, cX12_tellsBy, 11, some .boolean, "tellsBy", { frames := 1, cells := 0, slots := 0, locals := 21 })
theorem ok_X12_tellsBy : jOk D_X12_tellsBy yX12_tellsBy 2 := ⟨jTW_mem (k := 1979) (by decide +kernel) rfl, jTW_mem (k := 151) (by decide +kernel) rfl, ⟨by decide +kernel, by decide +kernel⟩, by decide +kernel, rfl, rfl⟩
theorem in_X12_tellsBy : Cond.instanceMethod yX12_tellsBy ∈ jTW := jTW_mem (k := 1978) (by decide +kernel) rfl
theorem se_X12_tellsBy : Cond.selects yX12_tellsBy.cls yX12_tellsBy yX12_tellsBy ∈ jTW := jTW_mem (k := 118) (by decide +kernel) rfl
theorem lk_X12_84 : Cond.fieldLink RX12 84 (TX12 3).1 (TX12 3).2.1 (TX12 3).2.2.1 ∈ jTW := jTW_mem (k := 1379) (by decide +kernel) rfl
theorem lk_X12_17 : Cond.fieldLink RX12 17 (TX12 4).1 (TX12 4).2.1 (TX12 4).2.2.1 ∈ jTW := jTW_mem (k := 1380) (by decide +kernel) rfl
theorem lm_X12_94 : Cond.methodLink RX12 94 yX12_is ∈ jTW := jTW_mem (k := 1513) (by decide +kernel) rfl
theorem d_X12_tellsBy_0 : decode (D_X12_tellsBy).2.1 0 = .ok (.lload_n 1, 1) := by decide +kernel
theorem d_X12_tellsBy_1 : decode (D_X12_tellsBy).2.1 1 = .ok (.lstore 5, 2) := by decide +kernel
theorem d_X12_tellsBy_3 : decode (D_X12_tellsBy).2.1 3 = .ok (.lload_n 3, 1) := by decide +kernel
theorem d_X12_tellsBy_4 : decode (D_X12_tellsBy).2.1 4 = .ok (.lstore 7, 2) := by decide +kernel
theorem d_X12_tellsBy_6 : decode (D_X12_tellsBy).2.1 6 = .ok (.lload 7, 2) := by decide +kernel
theorem d_X12_tellsBy_8 : decode (D_X12_tellsBy).2.1 8 = .ok (.lconst 0, 1) := by decide +kernel
theorem d_X12_tellsBy_9 : decode (D_X12_tellsBy).2.1 9 = .ok (.lcmp, 1) := by decide +kernel
theorem d_X12_tellsBy_10 : decode (D_X12_tellsBy).2.1 10 = .ok (.ifCond .eq 21, 3) := by decide +kernel
theorem d_X12_tellsBy_13 : decode (D_X12_tellsBy).2.1 13 = .ok (.lload 5, 2) := by decide +kernel
theorem d_X12_tellsBy_15 : decode (D_X12_tellsBy).2.1 15 = .ok (.lload 7, 2) := by decide +kernel
theorem d_X12_tellsBy_17 : decode (D_X12_tellsBy).2.1 17 = .ok (.lrem, 1) := by decide +kernel
theorem d_X12_tellsBy_18 : decode (D_X12_tellsBy).2.1 18 = .ok (.lstore 9, 2) := by decide +kernel
theorem d_X12_tellsBy_20 : decode (D_X12_tellsBy).2.1 20 = .ok (.lload 7, 2) := by decide +kernel
theorem d_X12_tellsBy_22 : decode (D_X12_tellsBy).2.1 22 = .ok (.lstore 5, 2) := by decide +kernel
theorem d_X12_tellsBy_24 : decode (D_X12_tellsBy).2.1 24 = .ok (.lload 9, 2) := by decide +kernel
theorem d_X12_tellsBy_26 : decode (D_X12_tellsBy).2.1 26 = .ok (.lstore 7, 2) := by decide +kernel
theorem d_X12_tellsBy_28 : decode (D_X12_tellsBy).2.1 28 = .ok (.goto (-22), 3) := by decide +kernel
theorem d_X12_tellsBy_31 : decode (D_X12_tellsBy).2.1 31 = .ok (.aload_n 0, 1) := by decide +kernel
theorem d_X12_tellsBy_32 : decode (D_X12_tellsBy).2.1 32 = .ok (.lload_n 1, 1) := by decide +kernel
theorem d_X12_tellsBy_33 : decode (D_X12_tellsBy).2.1 33 = .ok (.lload 5, 2) := by decide +kernel
theorem d_X12_tellsBy_35 : decode (D_X12_tellsBy).2.1 35 = .ok (.ldiv, 1) := by decide +kernel
theorem d_X12_tellsBy_36 : decode (D_X12_tellsBy).2.1 36 = .ok (.putfield 84, 3) := by decide +kernel
theorem d_X12_tellsBy_39 : decode (D_X12_tellsBy).2.1 39 = .ok (.aload_n 0, 1) := by decide +kernel
theorem d_X12_tellsBy_40 : decode (D_X12_tellsBy).2.1 40 = .ok (.lload_n 3, 1) := by decide +kernel
theorem d_X12_tellsBy_41 : decode (D_X12_tellsBy).2.1 41 = .ok (.lload 5, 2) := by decide +kernel
theorem d_X12_tellsBy_43 : decode (D_X12_tellsBy).2.1 43 = .ok (.ldiv, 1) := by decide +kernel
theorem d_X12_tellsBy_44 : decode (D_X12_tellsBy).2.1 44 = .ok (.putfield 17, 3) := by decide +kernel
theorem d_X12_tellsBy_47 : decode (D_X12_tellsBy).2.1 47 = .ok (.aload_n 0, 1) := by decide +kernel
theorem d_X12_tellsBy_48 : decode (D_X12_tellsBy).2.1 48 = .ok (.iconst 0, 1) := by decide +kernel
theorem d_X12_tellsBy_49 : decode (D_X12_tellsBy).2.1 49 = .ok (.invokevirtual 94, 3) := by decide +kernel
theorem d_X12_tellsBy_52 : decode (D_X12_tellsBy).2.1 52 = .ok (.ireturn, 1) := by decide +kernel
def f_X12_tellsBy_L31 (n : Nat) (v1 v3 v5 : Int) (M : JMem) : Option (Int × JMem) := chk (¬ jwl v5 = 0) <| letm (jup M 167 3 (jldiv v1 v5)) fun M1 => chk (¬ jwl v5 = 0) <| letm (jup M1 167 4 (jldiv v3 v5)) fun M2 => bnd (f_X12_is n 0 M2) fun r3 M4 => chk (jw r3 = 0 ∨ jw r3 = 1) (some (r3, M4))
set_option maxRecDepth 4000 in
theorem t_X12_tellsBy_L31 {g : JG} {ad : Nat → Nat} (hs : jStr g ad) (n : Nat) (v1 v3 v5 : Int) (M : JMem) : jB g D_X12_tellsBy ad 31 [some (.ref 167), some (jl v1), none, some (jl v3), none, some (jl v5), none, none, none, none, none] [] M (f_X12_tellsBy_L31 n v1 v3 v5 M) := by
  unfold f_X12_tellsBy_L31
  refine jo_aload 0 d_X12_tellsBy_31 rfl rfl ?_
  refine jo_lload 1 d_X12_tellsBy_32 rfl rfl ?_
  refine jo_lloadW 5 d_X12_tellsBy_33 rfl ?_
  refine jo_ldivq d_X12_tellsBy_35 ?_
  refine jo_putL (k := 3) cl_12 (Nat.le_of_ble_eq_true rfl) lk_X12_84 rfl rfl kc_167 d_X12_tellsBy_36 (fun M1 => ?_)
  refine jo_aload 0 d_X12_tellsBy_39 rfl rfl ?_
  refine jo_lload 3 d_X12_tellsBy_40 rfl rfl ?_
  refine jo_lloadW 5 d_X12_tellsBy_41 rfl ?_
  refine jo_ldivq d_X12_tellsBy_43 ?_
  refine jo_putL (k := 4) cl_12 (Nat.le_of_ble_eq_true rfl) lk_X12_17 rfl rfl kc_167 d_X12_tellsBy_44 (fun M2 => ?_)
  refine jo_aload 0 d_X12_tellsBy_47 rfl rfl ?_
  refine jo_iconst 0 d_X12_tellsBy_48 ?_
  refine jo_callV (st := []) (m_X12_is hs n 0 M2) ok_X12_is (And.intro (Nat.le_of_ble_eq_true rfl) (Nat.le_of_ble_eq_true rfl)) lm_X12_94 in_X12_is se_X12_is rfl kc_167 rfl rfl (And.intro (Nat.zero_le _) (Nat.zero_le _)) rfl (Nat.le_of_ble_eq_true rfl) d_X12_tellsBy_49 (fun r3 M4 => ?_)
  exact jo_zretq rfl d_X12_tellsBy_52
def f_X12_tellsBy_L6 (n : Nat) : Nat → Int → Int → Int → Int → JMem → Option (Int × JMem)
  | 0, _, _, _, _, _ => none
  | k + 1, v1, v3, v5, v7, M => if jw (jcmp v7 0) = 0 then (f_X12_tellsBy_L31 n v1 v3 v5 M) else (chk (¬ jwl v7 = 0) <| letv (jlrem v5 v7) fun y1 => letv v7 fun y2 => letv y1 fun y3 => (f_X12_tellsBy_L6 n k) v1 v3 y2 y3 M)
set_option maxRecDepth 4000 in
theorem t_X12_tellsBy_L6 {g : JG} {ad : Nat → Nat} (hs : jStr g ad) (n : Nat) : ∀ (k : Nat) (v1 v3 v5 v7 : Int) (M : JMem), jB g D_X12_tellsBy ad 6 [some (.ref 167), some (jl v1), none, some (jl v3), none, some (jl v5), none, some (jl v7), none, none, none] [] M (f_X12_tellsBy_L6 n k v1 v3 v5 v7 M) := by
  intro k
  induction k with
  | zero => intro v1 v3 v5 v7 M; exact jO.none
  | succ k ih =>
    intro v1 v3 v5 v7 M
    rw [f_X12_tellsBy_L6]
    refine jo_lloadW 7 d_X12_tellsBy_6 rfl ?_
    refine jo_lconst0 d_X12_tellsBy_8 ?_
    refine jo_lcmp d_X12_tellsBy_9 ?_
    refine jo_if_eq 31 d_X12_tellsBy_10 (by decide) ?_ ?_
    · skip
      exact jO.sub (t_X12_tellsBy_L31 hs n v1 v3 v5 M) (And.intro rfl (And.intro rfl (And.intro rfl (And.intro rfl True.intro))))
    · skip
      refine jo_lloadW 5 d_X12_tellsBy_13 rfl ?_
      refine jo_lloadW 7 d_X12_tellsBy_15 rfl ?_
      refine jo_lremq d_X12_tellsBy_17 ?_
      refine jo_lstoreW 9 d_X12_tellsBy_18 (Nat.le_of_ble_eq_true rfl) (fun y1 => ?_)
      refine jo_lloadW 7 d_X12_tellsBy_20 rfl ?_
      refine jo_lstoreW 5 d_X12_tellsBy_22 (Nat.le_of_ble_eq_true rfl) (fun y2 => ?_)
      refine jo_lloadW 9 d_X12_tellsBy_24 rfl ?_
      refine jo_lstoreW 7 d_X12_tellsBy_26 (Nat.le_of_ble_eq_true rfl) (fun y3 => ?_)
      refine jo_goto 6 d_X12_tellsBy_28 (by decide) ?_
      exact jO.sub (ih v1 v3 y2 y3 M) (And.intro rfl (And.intro rfl (And.intro rfl (And.intro rfl (And.intro rfl True.intro)))))
def f_X12_tellsBy (n : Nat) (x1 : Int) (x3 : Int) (M : JMem) : Option (Int × JMem) := letv x1 fun y1 => letv x3 fun y2 => f_X12_tellsBy_L6 n n x1 x3 y1 y2 M
set_option maxRecDepth 4000 in
theorem t_X12_tellsBy {g : JG} {ad : Nat → Nat} (hs : jStr g ad) (n : Nat) (x1 : Int) (x3 : Int) (M : JMem) : jB g D_X12_tellsBy ad 0 [some (.ref 167), some (jl x1), none, some (jl x3), none, none, none, none, none, none, none] [] M (f_X12_tellsBy n x1 x3 M) := by
  unfold f_X12_tellsBy
  refine jo_lload 1 d_X12_tellsBy_0 rfl rfl ?_
  refine jo_lstoreW 5 d_X12_tellsBy_1 (Nat.le_of_ble_eq_true rfl) (fun y1 => ?_)
  refine jo_lload 3 d_X12_tellsBy_3 rfl rfl ?_
  refine jo_lstoreW 7 d_X12_tellsBy_4 (Nat.le_of_ble_eq_true rfl) (fun y2 => ?_)
  exact jO.sub (t_X12_tellsBy_L6 hs n n x1 x3 y1 y2 M) (And.intro rfl (And.intro rfl (And.intro rfl (And.intro rfl (And.intro rfl True.intro)))))
theorem m_X12_tellsBy {g : JG} {ad : Nat → Nat} (hs : jStr g ad) (n : Nat) (x1 : Int) (x3 : Int) (M : JMem) : jMet g jNN ad jR D_X12_tellsBy yX12_tellsBy [.ref 167, jl x1, jl x3] M (f_X12_tellsBy n x1 x3 M) :=
  jMet.of (lo0 := [some (.ref 167), some (jl x1), none, some (jl x3), none, none, none, none, none, none, none]) (by decide) rfl rfl (Nat.le_of_ble_eq_true rfl) (And.intro rfl (And.intro rfl (And.intro rfl True.intro))) (t_X12_tellsBy hs n x1 x3 M)
/-! CageLeaveModel.back(II)Z -/
def D_X12_back : JD := (RX12, cX12_back, 8, some .boolean, "back", { frames := 2, cells := 0, slots := 0, locals := 51 })
theorem ok_X12_back : jOk D_X12_back yX12_back 2 := ⟨jTW_mem (k := 1983) (by decide +kernel) rfl, jTW_mem (k := 151) (by decide +kernel) rfl, ⟨by decide +kernel, by decide +kernel⟩, by decide +kernel, rfl, rfl⟩
theorem in_X12_back : Cond.instanceMethod yX12_back ∈ jTW := jTW_mem (k := 1981) (by decide +kernel) rfl
theorem se_X12_back : Cond.selects yX12_back.cls yX12_back yX12_back ∈ jTW := jTW_mem (k := 1982) (by decide +kernel) rfl
theorem lm_X12_315 : Cond.methodLink RX12 315 yX12_isIn ∈ jTW := jTW_mem (k := 1798) (by decide +kernel) rfl
theorem lk_X12_59 : Cond.fieldLink RX12 59 (TX12 29).1 (TX12 29).2.1 (TX12 29).2.2.1 ∈ jTW := jTW_mem (k := 1405) (by decide +kernel) rfl
theorem lm_X12_396 : Cond.methodLink RX12 396 yX12_tellsBy ∈ jTW := jTW_mem (k := 1976) (by decide +kernel) rfl
theorem lc_X12_347 : Cond.constantLong RX12 347 (Int64.ofInt 16) ∈ jTW := jTW_mem (k := 1841) (by decide +kernel) rfl
theorem lm_X12_366 : Cond.methodLink RX12 366 yX12_areBeasts ∈ jTW := jTW_mem (k := 1899) (by decide +kernel) rfl
theorem lc_X12_400 : Cond.constantLong RX12 400 (Int64.ofInt 8) ∈ jTW := jTW_mem (k := 1984) (by decide +kernel) rfl
theorem d_X12_back_0 : decode (D_X12_back).2.1 0 = .ok (.aload_n 0, 1) := by decide +kernel
theorem d_X12_back_1 : decode (D_X12_back).2.1 1 = .ok (.iload_n 1, 1) := by decide +kernel
theorem d_X12_back_2 : decode (D_X12_back).2.1 2 = .ok (.invokevirtual 366, 3) := by decide +kernel
theorem d_X12_back_5 : decode (D_X12_back).2.1 5 = .ok (.ifCond .eq 15, 3) := by decide +kernel
theorem d_X12_back_8 : decode (D_X12_back).2.1 8 = .ok (.iload_n 2, 1) := by decide +kernel
theorem d_X12_back_9 : decode (D_X12_back).2.1 9 = .ok (.i2l, 1) := by decide +kernel
theorem d_X12_back_10 : decode (D_X12_back).2.1 10 = .ok (.lconst 0, 1) := by decide +kernel
theorem d_X12_back_11 : decode (D_X12_back).2.1 11 = .ok (.ldc2_w 400, 3) := by decide +kernel
theorem d_X12_back_14 : decode (D_X12_back).2.1 14 = .ok (.invokestatic 266, 3) := by decide +kernel
theorem d_X12_back_17 : decode (D_X12_back).2.1 17 = .ok (.ifCond .ne 9, 3) := by decide +kernel
theorem d_X12_back_20 : decode (D_X12_back).2.1 20 = .ok (.aload_n 0, 1) := by decide +kernel
theorem d_X12_back_21 : decode (D_X12_back).2.1 21 = .ok (.iconst 1, 1) := by decide +kernel
theorem d_X12_back_22 : decode (D_X12_back).2.1 22 = .ok (.invokevirtual 94, 3) := by decide +kernel
theorem d_X12_back_25 : decode (D_X12_back).2.1 25 = .ok (.ireturn, 1) := by decide +kernel
theorem d_X12_back_26 : decode (D_X12_back).2.1 26 = .ok (.lconst 1, 1) := by decide +kernel
theorem d_X12_back_27 : decode (D_X12_back).2.1 27 = .ok (.lstore_n 3, 1) := by decide +kernel
theorem d_X12_back_28 : decode (D_X12_back).2.1 28 = .ok (.iconst 0, 1) := by decide +kernel
theorem d_X12_back_29 : decode (D_X12_back).2.1 29 = .ok (.istore 5, 2) := by decide +kernel
theorem d_X12_back_31 : decode (D_X12_back).2.1 31 = .ok (.iload 5, 2) := by decide +kernel
theorem d_X12_back_33 : decode (D_X12_back).2.1 33 = .ok (.bipush 9, 2) := by decide +kernel
theorem d_X12_back_35 : decode (D_X12_back).2.1 35 = .ok (.if_icmp .ge 26, 3) := by decide +kernel
theorem d_X12_back_38 : decode (D_X12_back).2.1 38 = .ok (.aload_n 0, 1) := by decide +kernel
theorem d_X12_back_39 : decode (D_X12_back).2.1 39 = .ok (.getfield 59, 3) := by decide +kernel
theorem d_X12_back_42 : decode (D_X12_back).2.1 42 = .ok (.iload 5, 2) := by decide +kernel
theorem d_X12_back_44 : decode (D_X12_back).2.1 44 = .ok (.iload 5, 2) := by decide +kernel
theorem d_X12_back_46 : decode (D_X12_back).2.1 46 = .ok (.ifCond .ne 7, 3) := by decide +kernel
theorem d_X12_back_49 : decode (D_X12_back).2.1 49 = .ok (.lconst 1, 1) := by decide +kernel
theorem d_X12_back_50 : decode (D_X12_back).2.1 50 = .ok (.goto 4, 3) := by decide +kernel
theorem d_X12_back_53 : decode (D_X12_back).2.1 53 = .ok (.lconst 0, 1) := by decide +kernel
theorem d_X12_back_54 : decode (D_X12_back).2.1 54 = .ok (.lastore, 1) := by decide +kernel
theorem d_X12_back_55 : decode (D_X12_back).2.1 55 = .ok (.iinc 5 1, 3) := by decide +kernel
theorem d_X12_back_58 : decode (D_X12_back).2.1 58 = .ok (.goto (-27), 3) := by decide +kernel
theorem d_X12_back_61 : decode (D_X12_back).2.1 61 = .ok (.iconst 0, 1) := by decide +kernel
theorem d_X12_back_62 : decode (D_X12_back).2.1 62 = .ok (.istore 5, 2) := by decide +kernel
theorem d_X12_back_64 : decode (D_X12_back).2.1 64 = .ok (.iload 5, 2) := by decide +kernel
theorem d_X12_back_66 : decode (D_X12_back).2.1 66 = .ok (.aload_n 0, 1) := by decide +kernel
theorem d_X12_back_67 : decode (D_X12_back).2.1 67 = .ok (.getfield 7, 3) := by decide +kernel
theorem d_X12_back_70 : decode (D_X12_back).2.1 70 = .ok (.iconst 2, 1) := by decide +kernel
theorem d_X12_back_71 : decode (D_X12_back).2.1 71 = .ok (.iaload, 1) := by decide +kernel
theorem d_X12_back_72 : decode (D_X12_back).2.1 72 = .ok (.if_icmp .ge 96, 3) := by decide +kernel
theorem d_X12_back_75 : decode (D_X12_back).2.1 75 = .ok (.aload_n 0, 1) := by decide +kernel
theorem d_X12_back_76 : decode (D_X12_back).2.1 76 = .ok (.iload_n 1, 1) := by decide +kernel
theorem d_X12_back_77 : decode (D_X12_back).2.1 77 = .ok (.iload 5, 2) := by decide +kernel
theorem d_X12_back_79 : decode (D_X12_back).2.1 79 = .ok (.invokevirtual 315, 3) := by decide +kernel
theorem d_X12_back_82 : decode (D_X12_back).2.1 82 = .ok (.ifCond .ne 6, 3) := by decide +kernel
theorem d_X12_back_85 : decode (D_X12_back).2.1 85 = .ok (.goto 77, 3) := by decide +kernel
theorem d_X12_back_88 : decode (D_X12_back).2.1 88 = .ok (.aload_n 0, 1) := by decide +kernel
theorem d_X12_back_89 : decode (D_X12_back).2.1 89 = .ok (.iload 5, 2) := by decide +kernel
theorem d_X12_back_91 : decode (D_X12_back).2.1 91 = .ok (.iconst 1, 1) := by decide +kernel
theorem d_X12_back_92 : decode (D_X12_back).2.1 92 = .ok (.invokevirtual 276, 3) := by decide +kernel
theorem d_X12_back_95 : decode (D_X12_back).2.1 95 = .ok (.istore 6, 2) := by decide +kernel
theorem d_X12_back_97 : decode (D_X12_back).2.1 97 = .ok (.bipush 8, 2) := by decide +kernel
theorem d_X12_back_99 : decode (D_X12_back).2.1 99 = .ok (.istore 7, 2) := by decide +kernel
theorem d_X12_back_101 : decode (D_X12_back).2.1 101 = .ok (.iload 7, 2) := by decide +kernel
theorem d_X12_back_103 : decode (D_X12_back).2.1 103 = .ok (.ifCond .lt 53, 3) := by decide +kernel
theorem d_X12_back_106 : decode (D_X12_back).2.1 106 = .ok (.aload_n 0, 1) := by decide +kernel
theorem d_X12_back_107 : decode (D_X12_back).2.1 107 = .ok (.getfield 59, 3) := by decide +kernel
theorem d_X12_back_110 : decode (D_X12_back).2.1 110 = .ok (.iload 7, 2) := by decide +kernel
theorem d_X12_back_112 : decode (D_X12_back).2.1 112 = .ok (.aload_n 0, 1) := by decide +kernel
theorem d_X12_back_113 : decode (D_X12_back).2.1 113 = .ok (.getfield 59, 3) := by decide +kernel
theorem d_X12_back_116 : decode (D_X12_back).2.1 116 = .ok (.iload 7, 2) := by decide +kernel
theorem d_X12_back_118 : decode (D_X12_back).2.1 118 = .ok (.laload, 1) := by decide +kernel
theorem d_X12_back_119 : decode (D_X12_back).2.1 119 = .ok (.bipush 16, 2) := by decide +kernel
theorem d_X12_back_121 : decode (D_X12_back).2.1 121 = .ok (.iload 6, 2) := by decide +kernel
theorem d_X12_back_123 : decode (D_X12_back).2.1 123 = .ok (.isub, 1) := by decide +kernel
theorem d_X12_back_124 : decode (D_X12_back).2.1 124 = .ok (.i2l, 1) := by decide +kernel
theorem d_X12_back_125 : decode (D_X12_back).2.1 125 = .ok (.lmul, 1) := by decide +kernel
theorem d_X12_back_126 : decode (D_X12_back).2.1 126 = .ok (.iload 7, 2) := by decide +kernel
theorem d_X12_back_128 : decode (D_X12_back).2.1 128 = .ok (.ifCond .ne 7, 3) := by decide +kernel
theorem d_X12_back_131 : decode (D_X12_back).2.1 131 = .ok (.lconst 0, 1) := by decide +kernel
theorem d_X12_back_132 : decode (D_X12_back).2.1 132 = .ok (.goto 16, 3) := by decide +kernel
theorem d_X12_back_135 : decode (D_X12_back).2.1 135 = .ok (.aload_n 0, 1) := by decide +kernel
theorem d_X12_back_136 : decode (D_X12_back).2.1 136 = .ok (.getfield 59, 3) := by decide +kernel
theorem d_X12_back_139 : decode (D_X12_back).2.1 139 = .ok (.iload 7, 2) := by decide +kernel
theorem d_X12_back_141 : decode (D_X12_back).2.1 141 = .ok (.iconst 1, 1) := by decide +kernel
theorem d_X12_back_142 : decode (D_X12_back).2.1 142 = .ok (.isub, 1) := by decide +kernel
theorem d_X12_back_143 : decode (D_X12_back).2.1 143 = .ok (.laload, 1) := by decide +kernel
theorem d_X12_back_144 : decode (D_X12_back).2.1 144 = .ok (.iload 6, 2) := by decide +kernel
theorem d_X12_back_146 : decode (D_X12_back).2.1 146 = .ok (.i2l, 1) := by decide +kernel
theorem d_X12_back_147 : decode (D_X12_back).2.1 147 = .ok (.lmul, 1) := by decide +kernel
theorem d_X12_back_148 : decode (D_X12_back).2.1 148 = .ok (.ladd, 1) := by decide +kernel
theorem d_X12_back_149 : decode (D_X12_back).2.1 149 = .ok (.lastore, 1) := by decide +kernel
theorem d_X12_back_150 : decode (D_X12_back).2.1 150 = .ok (.iinc 7 (-1), 3) := by decide +kernel
theorem d_X12_back_153 : decode (D_X12_back).2.1 153 = .ok (.goto (-52), 3) := by decide +kernel
theorem d_X12_back_156 : decode (D_X12_back).2.1 156 = .ok (.lload_n 3, 1) := by decide +kernel
theorem d_X12_back_157 : decode (D_X12_back).2.1 157 = .ok (.ldc2_w 347, 3) := by decide +kernel
theorem d_X12_back_160 : decode (D_X12_back).2.1 160 = .ok (.lmul, 1) := by decide +kernel
theorem d_X12_back_161 : decode (D_X12_back).2.1 161 = .ok (.lstore_n 3, 1) := by decide +kernel
theorem d_X12_back_162 : decode (D_X12_back).2.1 162 = .ok (.iinc 5 1, 3) := by decide +kernel
theorem d_X12_back_165 : decode (D_X12_back).2.1 165 = .ok (.goto (-101), 3) := by decide +kernel
theorem d_X12_back_168 : decode (D_X12_back).2.1 168 = .ok (.lconst 0, 1) := by decide +kernel
theorem d_X12_back_169 : decode (D_X12_back).2.1 169 = .ok (.lstore 5, 2) := by decide +kernel
theorem d_X12_back_171 : decode (D_X12_back).2.1 171 = .ok (.iload_n 2, 1) := by decide +kernel
theorem d_X12_back_172 : decode (D_X12_back).2.1 172 = .ok (.istore 7, 2) := by decide +kernel
theorem d_X12_back_174 : decode (D_X12_back).2.1 174 = .ok (.iload 7, 2) := by decide +kernel
theorem d_X12_back_176 : decode (D_X12_back).2.1 176 = .ok (.bipush 9, 2) := by decide +kernel
theorem d_X12_back_178 : decode (D_X12_back).2.1 178 = .ok (.if_icmp .ge 21, 3) := by decide +kernel
theorem d_X12_back_181 : decode (D_X12_back).2.1 181 = .ok (.lload 5, 2) := by decide +kernel
theorem d_X12_back_183 : decode (D_X12_back).2.1 183 = .ok (.aload_n 0, 1) := by decide +kernel
theorem d_X12_back_184 : decode (D_X12_back).2.1 184 = .ok (.getfield 59, 3) := by decide +kernel
theorem d_X12_back_187 : decode (D_X12_back).2.1 187 = .ok (.iload 7, 2) := by decide +kernel
theorem d_X12_back_189 : decode (D_X12_back).2.1 189 = .ok (.laload, 1) := by decide +kernel
theorem d_X12_back_190 : decode (D_X12_back).2.1 190 = .ok (.ladd, 1) := by decide +kernel
theorem d_X12_back_191 : decode (D_X12_back).2.1 191 = .ok (.lstore 5, 2) := by decide +kernel
theorem d_X12_back_193 : decode (D_X12_back).2.1 193 = .ok (.iinc 7 1, 3) := by decide +kernel
theorem d_X12_back_196 : decode (D_X12_back).2.1 196 = .ok (.goto (-22), 3) := by decide +kernel
theorem d_X12_back_199 : decode (D_X12_back).2.1 199 = .ok (.aload_n 0, 1) := by decide +kernel
theorem d_X12_back_200 : decode (D_X12_back).2.1 200 = .ok (.lload 5, 2) := by decide +kernel
theorem d_X12_back_202 : decode (D_X12_back).2.1 202 = .ok (.lload_n 3, 1) := by decide +kernel
theorem d_X12_back_203 : decode (D_X12_back).2.1 203 = .ok (.invokevirtual 396, 3) := by decide +kernel
theorem d_X12_back_206 : decode (D_X12_back).2.1 206 = .ok (.ireturn, 1) := by decide +kernel
def f_X12_back_L20 (n : Nat) (M : JMem) : Option (Int × JMem) := bnd (f_X12_is n 1 M) fun r1 M2 => chk (jw r1 = 0 ∨ jw r1 = 1) (some (r1, M2))
set_option maxRecDepth 4000 in
theorem t_X12_back_L20 {g : JG} {ad : Nat → Nat} (hs : jStr g ad) (n : Nat) (M : JMem) : jB g D_X12_back ad 20 [some (.ref 167), none, none, none, none, none, none, none] [] M (f_X12_back_L20 n M) := by
  unfold f_X12_back_L20
  refine jo_aload 0 d_X12_back_20 rfl rfl ?_
  refine jo_iconst 1 d_X12_back_21 ?_
  refine jo_callV (st := []) (m_X12_is hs n 1 M) ok_X12_is (And.intro (Nat.le_of_ble_eq_true rfl) (Nat.le_of_ble_eq_true rfl)) lm_X12_94 in_X12_is se_X12_is rfl kc_167 rfl rfl (And.intro (Nat.zero_le _) (Nat.zero_le _)) rfl (Nat.le_of_ble_eq_true rfl) d_X12_back_22 (fun r1 M2 => ?_)
  exact jo_zretq rfl d_X12_back_25
def f_X12_back_L54 (n : Nat) (r31 : Int → Int → Int → Int → JMem → Option (Int × JMem)) (v1 v2 v3 v5 w1 w2 : Int) (M : JMem) : Option (Int × JMem) := chk (jin w1 9) <| letm (jup M 180 (jw w1).toNat w2) fun M1 => letv (v5 + 1) fun y2 => r31 v1 v2 v3 y2 M1
set_option maxRecDepth 4000 in
theorem t_X12_back_L54 {g : JG} {ad : Nat → Nat} (hs : jStr g ad) (n : Nat) (r31 : Int → Int → Int → Int → JMem → Option (Int × JMem)) (hr31 : ∀ (v1 v2 v3 v5 : Int) (M : JMem), jB g D_X12_back ad 31 [some (.ref 167), some (ji v1), some (ji v2), some (jl v3), none, some (ji v5), none, none] [] M (r31 v1 v2 v3 v5 M)) (v1 v2 v3 v5 w1 w2 : Int) (M : JMem) : jB g D_X12_back ad 54 [some (.ref 167), some (ji v1), some (ji v2), some (jl v3), none, some (ji v5), none, none] [jl w2, ji w1, .ref 180] M (f_X12_back_L54 n r31 v1 v2 v3 v5 w1 w2 M) := by
  unfold f_X12_back_L54
  refine jo_last (N := 9) kc_180 d_X12_back_54 (fun M1 => ?_)
  refine jo_iinc 5 d_X12_back_55 rfl (Nat.le_of_ble_eq_true rfl) (fun y2 => ?_)
  refine jo_goto 31 d_X12_back_58 (by decide) ?_
  exact jO.sub (hr31 v1 v2 v3 y2 M1) (And.intro rfl (And.intro rfl (And.intro rfl (And.intro rfl (And.intro rfl True.intro)))))
def f_X12_back_L148 (n : Nat) (r64 : Int → Int → Int → Int → JMem → Option (Int × JMem)) (r101 : Int → Int → Int → Int → Int → Int → JMem → Option (Int × JMem)) (v1 v2 v3 v5 v6 v7 w1 w2 w3 : Int) (M : JMem) : Option (Int × JMem) := chk (jin w1 9) <| letm (jup M 180 (jw w1).toNat (w2 + w3)) fun M1 => letv (v7 + (-1)) fun y2 => r101 v1 v2 v3 v5 v6 y2 M1
set_option maxRecDepth 4000 in
theorem t_X12_back_L148 {g : JG} {ad : Nat → Nat} (hs : jStr g ad) (n : Nat) (r64 : Int → Int → Int → Int → JMem → Option (Int × JMem)) (r101 : Int → Int → Int → Int → Int → Int → JMem → Option (Int × JMem)) (hr64 : ∀ (v1 v2 v3 v5 : Int) (M : JMem), jB g D_X12_back ad 64 [some (.ref 167), some (ji v1), some (ji v2), some (jl v3), none, some (ji v5), none, none] [] M (r64 v1 v2 v3 v5 M)) (hr101 : ∀ (v1 v2 v3 v5 v6 v7 : Int) (M : JMem), jB g D_X12_back ad 101 [some (.ref 167), some (ji v1), some (ji v2), some (jl v3), none, some (ji v5), some (ji v6), some (ji v7)] [] M (r101 v1 v2 v3 v5 v6 v7 M)) (v1 v2 v3 v5 v6 v7 w1 w2 w3 : Int) (M : JMem) : jB g D_X12_back ad 148 [some (.ref 167), some (ji v1), some (ji v2), some (jl v3), none, some (ji v5), some (ji v6), some (ji v7)] [jl w3, jl w2, ji w1, .ref 180] M (f_X12_back_L148 n r64 r101 v1 v2 v3 v5 v6 v7 w1 w2 w3 M) := by
  unfold f_X12_back_L148
  refine jo_ladd d_X12_back_148 ?_
  refine jo_last (N := 9) kc_180 d_X12_back_149 (fun M1 => ?_)
  refine jo_iinc 7 d_X12_back_150 rfl (Nat.le_of_ble_eq_true rfl) (fun y2 => ?_)
  refine jo_goto 101 d_X12_back_153 (by decide) ?_
  exact jO.sub (hr101 v1 v2 v3 v5 v6 y2 M1) (And.intro rfl (And.intro rfl (And.intro rfl (And.intro rfl (And.intro rfl (And.intro rfl (And.intro rfl True.intro)))))))
def f_X12_back_L162 (n : Nat) (r64 : Int → Int → Int → Int → JMem → Option (Int × JMem)) (v1 v2 v3 v5 : Int) (M : JMem) : Option (Int × JMem) := letv (v5 + 1) fun y1 => r64 v1 v2 v3 y1 M
set_option maxRecDepth 4000 in
theorem t_X12_back_L162 {g : JG} {ad : Nat → Nat} (hs : jStr g ad) (n : Nat) (r64 : Int → Int → Int → Int → JMem → Option (Int × JMem)) (hr64 : ∀ (v1 v2 v3 v5 : Int) (M : JMem), jB g D_X12_back ad 64 [some (.ref 167), some (ji v1), some (ji v2), some (jl v3), none, some (ji v5), none, none] [] M (r64 v1 v2 v3 v5 M)) (v1 v2 v3 v5 : Int) (M : JMem) : jB g D_X12_back ad 162 [some (.ref 167), some (ji v1), some (ji v2), some (jl v3), none, some (ji v5), none, none] [] M (f_X12_back_L162 n r64 v1 v2 v3 v5 M) := by
  unfold f_X12_back_L162
  refine jo_iinc 5 d_X12_back_162 rfl (Nat.le_of_ble_eq_true rfl) (fun y1 => ?_)
  refine jo_goto 64 d_X12_back_165 (by decide) ?_
  exact jO.sub (hr64 v1 v2 v3 y1 M) (And.intro rfl (And.intro rfl (And.intro rfl (And.intro rfl (And.intro rfl True.intro)))))
def f_X12_back_L156 (n : Nat) (r64 : Int → Int → Int → Int → JMem → Option (Int × JMem)) (v1 v2 v3 v5 : Int) (M : JMem) : Option (Int × JMem) := letv (v3 * 16) fun y1 => f_X12_back_L162 n r64 v1 v2 y1 v5 M
set_option maxRecDepth 4000 in
theorem t_X12_back_L156 {g : JG} {ad : Nat → Nat} (hs : jStr g ad) (n : Nat) (r64 : Int → Int → Int → Int → JMem → Option (Int × JMem)) (hr64 : ∀ (v1 v2 v3 v5 : Int) (M : JMem), jB g D_X12_back ad 64 [some (.ref 167), some (ji v1), some (ji v2), some (jl v3), none, some (ji v5), none, none] [] M (r64 v1 v2 v3 v5 M)) (v1 v2 v3 v5 : Int) (M : JMem) : jB g D_X12_back ad 156 [some (.ref 167), some (ji v1), some (ji v2), some (jl v3), none, some (ji v5), none, none] [] M (f_X12_back_L156 n r64 v1 v2 v3 v5 M) := by
  unfold f_X12_back_L156
  refine jo_lload 3 d_X12_back_156 rfl rfl ?_
  refine jo_ldc2 16 lc_X12_347 d_X12_back_157 ?_
  refine jo_lmul d_X12_back_160 ?_
  refine jo_lstore 3 d_X12_back_161 rfl (Nat.le_of_ble_eq_true rfl) (fun y1 => ?_)
  exact jO.sub (t_X12_back_L162 hs n r64 hr64 v1 v2 y1 v5 M) (And.intro rfl (And.intro rfl (And.intro rfl (And.intro rfl (And.intro rfl True.intro)))))
def f_X12_back_L101 (n : Nat) (r64 : Int → Int → Int → Int → JMem → Option (Int × JMem)) : Nat → Int → Int → Int → Int → Int → Int → JMem → Option (Int × JMem)
  | 0, _, _, _, _, _, _, _ => none
  | k + 1, v1, v2, v3, v5, v6, v7, M => if jw v7 < 0 then (f_X12_back_L156 n r64 v1 v2 v3 v5 M) else (chk (jin v7 9) <| if jw v7 = 0 then (f_X12_back_L148 n r64 (f_X12_back_L101 n r64 k) v1 v2 v3 v5 v6 v7 v7 ((M 180 (jw v7).toNat) * (jw (16 - v6))) 0 M) else (chk (jin (v7 - 1) 9) <| f_X12_back_L148 n r64 (f_X12_back_L101 n r64 k) v1 v2 v3 v5 v6 v7 v7 ((M 180 (jw v7).toNat) * (jw (16 - v6))) ((M 180 (jw (v7 - 1)).toNat) * (jw v6)) M))
set_option maxRecDepth 4000 in
theorem t_X12_back_L101 {g : JG} {ad : Nat → Nat} (hs : jStr g ad) (n : Nat) (r64 : Int → Int → Int → Int → JMem → Option (Int × JMem)) (hr64 : ∀ (v1 v2 v3 v5 : Int) (M : JMem), jB g D_X12_back ad 64 [some (.ref 167), some (ji v1), some (ji v2), some (jl v3), none, some (ji v5), none, none] [] M (r64 v1 v2 v3 v5 M)) : ∀ (k : Nat) (v1 v2 v3 v5 v6 v7 : Int) (M : JMem), jB g D_X12_back ad 101 [some (.ref 167), some (ji v1), some (ji v2), some (jl v3), none, some (ji v5), some (ji v6), some (ji v7)] [] M (f_X12_back_L101 n r64 k v1 v2 v3 v5 v6 v7 M) := by
  intro k
  induction k with
  | zero => intro v1 v2 v3 v5 v6 v7 M; exact jO.none
  | succ k ih =>
    intro v1 v2 v3 v5 v6 v7 M
    rw [f_X12_back_L101]
    refine jo_iloadW 7 d_X12_back_101 rfl ?_
    refine jo_if_lt 156 d_X12_back_103 (by decide) ?_ ?_
    · skip
      exact jO.sub (t_X12_back_L156 hs n r64 hr64 v1 v2 v3 v5 M) (And.intro rfl (And.intro rfl (And.intro rfl (And.intro rfl (And.intro rfl True.intro)))))
    · skip
      refine jo_aload 0 d_X12_back_106 rfl rfl ?_
      refine jo_getR (k := 29) cl_12 (Nat.le_of_ble_eq_true rfl) lk_X12_59 rfl kc_167 kr_167_29 d_X12_back_107 ?_
      refine jo_iloadW 7 d_X12_back_110 rfl ?_
      refine jo_aload 0 d_X12_back_112 rfl rfl ?_
      refine jo_getR (k := 29) cl_12 (Nat.le_of_ble_eq_true rfl) lk_X12_59 rfl kc_167 kr_167_29 d_X12_back_113 ?_
      refine jo_iloadW 7 d_X12_back_116 rfl ?_
      refine jo_lald (N := 9) kc_180 d_X12_back_118 ?_
      refine jo_bipush 16 d_X12_back_119 (by decide) ?_
      refine jo_iloadW 6 d_X12_back_121 rfl ?_
      refine jo_isub d_X12_back_123 ?_
      refine jo_i2l d_X12_back_124 ?_
      refine jo_lmul d_X12_back_125 ?_
      refine jo_iloadW 7 d_X12_back_126 rfl ?_
      refine jo_if_ne 135 d_X12_back_128 (by decide) ?_ ?_
      · skip
        refine jo_aload 0 d_X12_back_135 rfl rfl ?_
        refine jo_getR (k := 29) cl_12 (Nat.le_of_ble_eq_true rfl) lk_X12_59 rfl kc_167 kr_167_29 d_X12_back_136 ?_
        refine jo_iloadW 7 d_X12_back_139 rfl ?_
        refine jo_iconst 1 d_X12_back_141 ?_
        refine jo_isub d_X12_back_142 ?_
        refine jo_lald (N := 9) kc_180 d_X12_back_143 ?_
        refine jo_iloadW 6 d_X12_back_144 rfl ?_
        refine jo_i2l d_X12_back_146 ?_
        refine jo_lmul d_X12_back_147 ?_
        exact jO.sub (t_X12_back_L148 hs n r64 (f_X12_back_L101 n r64 k) hr64 ih v1 v2 v3 v5 v6 v7 v7 ((M 180 (jw v7).toNat) * (jw (16 - v6))) ((M 180 (jw (v7 - 1)).toNat) * (jw v6)) M) (And.intro rfl (And.intro rfl (And.intro rfl (And.intro rfl (And.intro rfl (And.intro rfl (And.intro rfl True.intro)))))))
      · skip
        refine jo_lconst0 d_X12_back_131 ?_
        refine jo_goto 148 d_X12_back_132 (by decide) ?_
        exact jO.sub (t_X12_back_L148 hs n r64 (f_X12_back_L101 n r64 k) hr64 ih v1 v2 v3 v5 v6 v7 v7 ((M 180 (jw v7).toNat) * (jw (16 - v6))) 0 M) (And.intro rfl (And.intro rfl (And.intro rfl (And.intro rfl (And.intro rfl (And.intro rfl (And.intro rfl True.intro)))))))
def f_X12_back_L199 (n : Nat) (v3 v5 : Int) (M : JMem) : Option (Int × JMem) := bnd (f_X12_tellsBy n v5 v3 M) fun r1 M2 => chk (jw r1 = 0 ∨ jw r1 = 1) (some (r1, M2))
set_option maxRecDepth 4000 in
theorem t_X12_back_L199 {g : JG} {ad : Nat → Nat} (hs : jStr g ad) (n : Nat) (v3 v5 : Int) (M : JMem) : jB g D_X12_back ad 199 [some (.ref 167), none, none, some (jl v3), none, some (jl v5), none, none] [] M (f_X12_back_L199 n v3 v5 M) := by
  unfold f_X12_back_L199
  refine jo_aload 0 d_X12_back_199 rfl rfl ?_
  refine jo_lloadW 5 d_X12_back_200 rfl ?_
  refine jo_lload 3 d_X12_back_202 rfl rfl ?_
  refine jo_callV (st := []) (m_X12_tellsBy hs n v5 v3 M) ok_X12_tellsBy (And.intro (Nat.le_of_ble_eq_true rfl) (Nat.le_of_ble_eq_true rfl)) lm_X12_396 in_X12_tellsBy se_X12_tellsBy rfl kc_167 rfl rfl (And.intro (Nat.zero_le _) (Nat.zero_le _)) rfl (Nat.le_of_ble_eq_true rfl) d_X12_back_203 (fun r1 M2 => ?_)
  exact jo_zretq rfl d_X12_back_206
def f_X12_back_L174 (n : Nat) : Nat → Int → Int → Int → JMem → Option (Int × JMem)
  | 0, _, _, _, _ => none
  | k + 1, v3, v5, v7, M => if jw 9 ≤ jw v7 then (f_X12_back_L199 n v3 v5 M) else (chk (jin v7 9) <| letv (v5 + (M 180 (jw v7).toNat)) fun y1 => letv (v7 + 1) fun y2 => (f_X12_back_L174 n k) v3 y1 y2 M)
set_option maxRecDepth 4000 in
theorem t_X12_back_L174 {g : JG} {ad : Nat → Nat} (hs : jStr g ad) (n : Nat) : ∀ (k : Nat) (v3 v5 v7 : Int) (M : JMem), jB g D_X12_back ad 174 [some (.ref 167), none, none, some (jl v3), none, some (jl v5), none, some (ji v7)] [] M (f_X12_back_L174 n k v3 v5 v7 M) := by
  intro k
  induction k with
  | zero => intro v3 v5 v7 M; exact jO.none
  | succ k ih =>
    intro v3 v5 v7 M
    rw [f_X12_back_L174]
    refine jo_iloadW 7 d_X12_back_174 rfl ?_
    refine jo_bipush 9 d_X12_back_176 (by decide) ?_
    refine jo_icmp_ge 199 d_X12_back_178 (by decide) ?_ ?_
    · skip
      exact jO.sub (t_X12_back_L199 hs n v3 v5 M) (And.intro rfl (And.intro rfl (And.intro rfl True.intro)))
    · skip
      refine jo_lloadW 5 d_X12_back_181 rfl ?_
      refine jo_aload 0 d_X12_back_183 rfl rfl ?_
      refine jo_getR (k := 29) cl_12 (Nat.le_of_ble_eq_true rfl) lk_X12_59 rfl kc_167 kr_167_29 d_X12_back_184 ?_
      refine jo_iloadW 7 d_X12_back_187 rfl ?_
      refine jo_lald (N := 9) kc_180 d_X12_back_189 ?_
      refine jo_ladd d_X12_back_190 ?_
      refine jo_lstoreW 5 d_X12_back_191 (Nat.le_of_ble_eq_true rfl) (fun y1 => ?_)
      refine jo_iinc 7 d_X12_back_193 rfl (Nat.le_of_ble_eq_true rfl) (fun y2 => ?_)
      refine jo_goto 174 d_X12_back_196 (by decide) ?_
      exact jO.sub (ih v3 y1 y2 M) (And.intro rfl (And.intro rfl (And.intro rfl (And.intro rfl True.intro))))
def f_X12_back_L168 (n : Nat) (v2 v3 : Int) (M : JMem) : Option (Int × JMem) := letv 0 fun y1 => letv v2 fun y2 => f_X12_back_L174 n n v3 y1 y2 M
set_option maxRecDepth 4000 in
theorem t_X12_back_L168 {g : JG} {ad : Nat → Nat} (hs : jStr g ad) (n : Nat) (v2 v3 : Int) (M : JMem) : jB g D_X12_back ad 168 [some (.ref 167), none, some (ji v2), some (jl v3), none, none, none, none] [] M (f_X12_back_L168 n v2 v3 M) := by
  unfold f_X12_back_L168
  refine jo_lconst0 d_X12_back_168 ?_
  refine jo_lstoreW 5 d_X12_back_169 (Nat.le_of_ble_eq_true rfl) (fun y1 => ?_)
  refine jo_iload 2 d_X12_back_171 rfl rfl ?_
  refine jo_istoreW 7 d_X12_back_172 (Nat.le_of_ble_eq_true rfl) (fun y2 => ?_)
  exact jO.sub (t_X12_back_L174 hs n n v3 y1 y2 M) (And.intro rfl (And.intro rfl (And.intro rfl (And.intro rfl True.intro))))
def f_X12_back_L64 (n : Nat) : Nat → Int → Int → Int → Int → JMem → Option (Int × JMem)
  | 0, _, _, _, _, _ => none
  | k + 1, v1, v2, v3, v5, M => chk (jin 2 3160) <| if jw (M 168 (jw 2).toNat) ≤ jw v5 then (f_X12_back_L168 n v2 v3 M) else (bnd (f_X12_isIn n v1 v5 M) fun r1 M2 => if jw r1 = 0 then (f_X12_back_L162 n (f_X12_back_L64 n k) v1 v2 v3 v5 M2) else (bnd (f_X12_beastOf n v5 1 M2) fun r3 M4 => letv r3 fun y5 => letv 8 fun y6 => f_X12_back_L101 n (f_X12_back_L64 n k) n v1 v2 v3 v5 y5 y6 M4))
set_option maxRecDepth 4000 in
theorem t_X12_back_L64 {g : JG} {ad : Nat → Nat} (hs : jStr g ad) (n : Nat) : ∀ (k : Nat) (v1 v2 v3 v5 : Int) (M : JMem), jB g D_X12_back ad 64 [some (.ref 167), some (ji v1), some (ji v2), some (jl v3), none, some (ji v5), none, none] [] M (f_X12_back_L64 n k v1 v2 v3 v5 M) := by
  intro k
  induction k with
  | zero => intro v1 v2 v3 v5 M; exact jO.none
  | succ k ih =>
    intro v1 v2 v3 v5 M
    rw [f_X12_back_L64]
    refine jo_iloadW 5 d_X12_back_64 rfl ?_
    refine jo_aload 0 d_X12_back_66 rfl rfl ?_
    refine jo_getR (k := 0) cl_12 (Nat.le_of_ble_eq_true rfl) lk_X12_7 rfl kc_167 kr_167_0 d_X12_back_67 ?_
    refine jo_iconst 2 d_X12_back_70 ?_
    refine jo_iald (N := 3160) kc_168 d_X12_back_71 ?_
    refine jo_icmp_ge 168 d_X12_back_72 (by decide) ?_ ?_
    · skip
      exact jO.sub (t_X12_back_L168 hs n v2 v3 M) (And.intro rfl (And.intro rfl (And.intro rfl True.intro)))
    · skip
      refine jo_aload 0 d_X12_back_75 rfl rfl ?_
      refine jo_iload 1 d_X12_back_76 rfl rfl ?_
      refine jo_iloadW 5 d_X12_back_77 rfl ?_
      refine jo_callV (st := []) (m_X12_isIn hs n v1 v5 M) ok_X12_isIn (And.intro (Nat.le_of_ble_eq_true rfl) (Nat.le_of_ble_eq_true rfl)) lm_X12_315 in_X12_isIn se_X12_isIn rfl kc_167 rfl rfl (And.intro (Nat.zero_le _) (Nat.zero_le _)) rfl (Nat.le_of_ble_eq_true rfl) d_X12_back_79 (fun r1 M2 => ?_)
      refine jo_if_ne 88 d_X12_back_82 (by decide) ?_ ?_
      · skip
        refine jo_aload 0 d_X12_back_88 rfl rfl ?_
        refine jo_iloadW 5 d_X12_back_89 rfl ?_
        refine jo_iconst 1 d_X12_back_91 ?_
        refine jo_callV (st := []) (m_X12_beastOf hs n v5 1 M2) ok_X12_beastOf (And.intro (Nat.le_of_ble_eq_true rfl) (Nat.le_of_ble_eq_true rfl)) lm_X12_276 in_X12_beastOf se_X12_beastOf rfl kc_167 rfl rfl (And.intro (Nat.zero_le _) (Nat.zero_le _)) rfl (Nat.le_of_ble_eq_true rfl) d_X12_back_92 (fun r3 M4 => ?_)
        refine jo_istoreW 6 d_X12_back_95 (Nat.le_of_ble_eq_true rfl) (fun y5 => ?_)
        refine jo_bipush 8 d_X12_back_97 (by decide) ?_
        refine jo_istoreW 7 d_X12_back_99 (Nat.le_of_ble_eq_true rfl) (fun y6 => ?_)
        exact jO.sub (t_X12_back_L101 hs n (f_X12_back_L64 n k) ih n v1 v2 v3 v5 y5 y6 M4) (And.intro rfl (And.intro rfl (And.intro rfl (And.intro rfl (And.intro rfl (And.intro rfl (And.intro rfl True.intro)))))))
      · skip
        refine jo_goto 162 d_X12_back_85 (by decide) ?_
        exact jO.sub (t_X12_back_L162 hs n (f_X12_back_L64 n k) ih v1 v2 v3 v5 M2) (And.intro rfl (And.intro rfl (And.intro rfl (And.intro rfl (And.intro rfl True.intro)))))
def f_X12_back_L61 (n : Nat) (v1 v2 v3 : Int) (M : JMem) : Option (Int × JMem) := letv 0 fun y1 => f_X12_back_L64 n n v1 v2 v3 y1 M
set_option maxRecDepth 4000 in
theorem t_X12_back_L61 {g : JG} {ad : Nat → Nat} (hs : jStr g ad) (n : Nat) (v1 v2 v3 : Int) (M : JMem) : jB g D_X12_back ad 61 [some (.ref 167), some (ji v1), some (ji v2), some (jl v3), none, none, none, none] [] M (f_X12_back_L61 n v1 v2 v3 M) := by
  unfold f_X12_back_L61
  refine jo_iconst 0 d_X12_back_61 ?_
  refine jo_istoreW 5 d_X12_back_62 (Nat.le_of_ble_eq_true rfl) (fun y1 => ?_)
  exact jO.sub (t_X12_back_L64 hs n n v1 v2 v3 y1 M) (And.intro rfl (And.intro rfl (And.intro rfl (And.intro rfl (And.intro rfl True.intro)))))
def f_X12_back_L31 (n : Nat) : Nat → Int → Int → Int → Int → JMem → Option (Int × JMem)
  | 0, _, _, _, _, _ => none
  | k + 1, v1, v2, v3, v5, M => if jw 9 ≤ jw v5 then (f_X12_back_L61 n v1 v2 v3 M) else (if jw v5 = 0 then (f_X12_back_L54 n (f_X12_back_L31 n k) v1 v2 v3 v5 v5 1 M) else (f_X12_back_L54 n (f_X12_back_L31 n k) v1 v2 v3 v5 v5 0 M))
set_option maxRecDepth 4000 in
theorem t_X12_back_L31 {g : JG} {ad : Nat → Nat} (hs : jStr g ad) (n : Nat) : ∀ (k : Nat) (v1 v2 v3 v5 : Int) (M : JMem), jB g D_X12_back ad 31 [some (.ref 167), some (ji v1), some (ji v2), some (jl v3), none, some (ji v5), none, none] [] M (f_X12_back_L31 n k v1 v2 v3 v5 M) := by
  intro k
  induction k with
  | zero => intro v1 v2 v3 v5 M; exact jO.none
  | succ k ih =>
    intro v1 v2 v3 v5 M
    rw [f_X12_back_L31]
    refine jo_iloadW 5 d_X12_back_31 rfl ?_
    refine jo_bipush 9 d_X12_back_33 (by decide) ?_
    refine jo_icmp_ge 61 d_X12_back_35 (by decide) ?_ ?_
    · skip
      exact jO.sub (t_X12_back_L61 hs n v1 v2 v3 M) (And.intro rfl (And.intro rfl (And.intro rfl (And.intro rfl True.intro))))
    · skip
      refine jo_aload 0 d_X12_back_38 rfl rfl ?_
      refine jo_getR (k := 29) cl_12 (Nat.le_of_ble_eq_true rfl) lk_X12_59 rfl kc_167 kr_167_29 d_X12_back_39 ?_
      refine jo_iloadW 5 d_X12_back_42 rfl ?_
      refine jo_iloadW 5 d_X12_back_44 rfl ?_
      refine jo_if_ne 53 d_X12_back_46 (by decide) ?_ ?_
      · skip
        refine jo_lconst0 d_X12_back_53 ?_
        exact jO.sub (t_X12_back_L54 hs n (f_X12_back_L31 n k) ih v1 v2 v3 v5 v5 0 M) (And.intro rfl (And.intro rfl (And.intro rfl (And.intro rfl (And.intro rfl True.intro)))))
      · skip
        refine jo_lconst1 d_X12_back_49 ?_
        refine jo_goto 54 d_X12_back_50 (by decide) ?_
        exact jO.sub (t_X12_back_L54 hs n (f_X12_back_L31 n k) ih v1 v2 v3 v5 v5 1 M) (And.intro rfl (And.intro rfl (And.intro rfl (And.intro rfl (And.intro rfl True.intro)))))
def f_X12_back (n : Nat) (x1 : Int) (x2 : Int) (M : JMem) : Option (Int × JMem) := bnd (f_X12_areBeasts n x1 M) fun r1 M2 => if jw r1 = 0 then (f_X12_back_L20 n M2) else (bnd (f_X12_isFrom n (jw x2) 0 8 M2) fun r3 M4 => if jw r3 = 0 then (f_X12_back_L20 n M4) else (letv 1 fun y5 => letv 0 fun y6 => f_X12_back_L31 n n x1 x2 y5 y6 M4))
set_option maxRecDepth 4000 in
theorem t_X12_back {g : JG} {ad : Nat → Nat} (hs : jStr g ad) (n : Nat) (x1 : Int) (x2 : Int) (M : JMem) : jB g D_X12_back ad 0 [some (.ref 167), some (ji x1), some (ji x2), none, none, none, none, none] [] M (f_X12_back n x1 x2 M) := by
  unfold f_X12_back
  refine jo_aload 0 d_X12_back_0 rfl rfl ?_
  refine jo_iload 1 d_X12_back_1 rfl rfl ?_
  refine jo_callV (st := []) (m_X12_areBeasts hs n x1 M) ok_X12_areBeasts (And.intro (Nat.le_of_ble_eq_true rfl) (Nat.le_of_ble_eq_true rfl)) lm_X12_366 in_X12_areBeasts se_X12_areBeasts rfl kc_167 rfl rfl (And.intro (Nat.zero_le _) (Nat.zero_le _)) rfl (Nat.le_of_ble_eq_true rfl) d_X12_back_2 (fun r1 M2 => ?_)
  refine jo_if_eq 20 d_X12_back_5 (by decide) ?_ ?_
  · skip
    exact jO.sub (t_X12_back_L20 hs n M2) (And.intro rfl True.intro)
  · skip
    refine jo_iload 2 d_X12_back_8 rfl rfl ?_
    refine jo_i2l d_X12_back_9 ?_
    refine jo_lconst0 d_X12_back_10 ?_
    refine jo_ldc2 8 lc_X12_400 d_X12_back_11 ?_
    refine jo_callS (st := []) (m_X12_isFrom hs n (jw x2) 0 8 M2) ok_X12_isFrom (And.intro (Nat.le_of_ble_eq_true rfl) (Nat.le_of_ble_eq_true rfl)) lm_X12_266 st_X12_isFrom rfl (And.intro (Nat.zero_le _) (Nat.zero_le _)) rfl (Nat.le_of_ble_eq_true rfl) d_X12_back_14 (fun r3 M4 => ?_)
    refine jo_if_ne 26 d_X12_back_17 (by decide) ?_ ?_
    · skip
      refine jo_lconst1 d_X12_back_26 ?_
      refine jo_lstore 3 d_X12_back_27 rfl (Nat.le_of_ble_eq_true rfl) (fun y5 => ?_)
      refine jo_iconst 0 d_X12_back_28 ?_
      refine jo_istoreW 5 d_X12_back_29 (Nat.le_of_ble_eq_true rfl) (fun y6 => ?_)
      exact jO.sub (t_X12_back_L31 hs n n x1 x2 y5 y6 M4) (And.intro rfl (And.intro rfl (And.intro rfl (And.intro rfl (And.intro rfl True.intro)))))
    · skip
      exact jO.sub (t_X12_back_L20 hs n M4) (And.intro rfl True.intro)
theorem m_X12_back {g : JG} {ad : Nat → Nat} (hs : jStr g ad) (n : Nat) (x1 : Int) (x2 : Int) (M : JMem) : jMet g jNN ad jR D_X12_back yX12_back [.ref 167, ji x1, ji x2] M (f_X12_back n x1 x2 M) :=
  jMet.of (lo0 := [some (.ref 167), some (ji x1), some (ji x2), none, none, none, none, none]) (by decide) rfl rfl (Nat.le_of_ble_eq_true rfl) (And.intro rfl (And.intro rfl (And.intro rfl True.intro))) (t_X12_back hs n x1 x2 M)
/-! CageLeaveModel.beast(II)I -/
def D_X12_beast : JD := (RX12, cX12_beast, 3, some .int, "beast", { frames := 2, cells := 0, slots := 0, locals := 42 })
theorem ok_X12_beast : jOk D_X12_beast yX12_beast 2 := ⟨jTW_mem (k := 1741) (by decide +kernel) rfl, jTW_mem (k := 151) (by decide +kernel) rfl, ⟨by decide +kernel, by decide +kernel⟩, by decide +kernel, rfl, rfl⟩
theorem in_X12_beast : Cond.instanceMethod yX12_beast ∈ jTW := jTW_mem (k := 1739) (by decide +kernel) rfl
theorem se_X12_beast : Cond.selects yX12_beast.cls yX12_beast yX12_beast ∈ jTW := jTW_mem (k := 1740) (by decide +kernel) rfl
theorem d_X12_beast_0 : decode (D_X12_beast).2.1 0 = .ok (.aload_n 0, 1) := by decide +kernel
theorem d_X12_beast_1 : decode (D_X12_beast).2.1 1 = .ok (.iload_n 1, 1) := by decide +kernel
theorem d_X12_beast_2 : decode (D_X12_beast).2.1 2 = .ok (.invokevirtual 263, 3) := by decide +kernel
theorem d_X12_beast_5 : decode (D_X12_beast).2.1 5 = .ok (.ifCond .eq 13, 3) := by decide +kernel
theorem d_X12_beast_8 : decode (D_X12_beast).2.1 8 = .ok (.iload_n 2, 1) := by decide +kernel
theorem d_X12_beast_9 : decode (D_X12_beast).2.1 9 = .ok (.ifCond .lt 9, 3) := by decide +kernel
theorem d_X12_beast_12 : decode (D_X12_beast).2.1 12 = .ok (.iload_n 2, 1) := by decide +kernel
theorem d_X12_beast_13 : decode (D_X12_beast).2.1 13 = .ok (.bipush 6, 2) := by decide +kernel
theorem d_X12_beast_15 : decode (D_X12_beast).2.1 15 = .ok (.if_icmp .le 9, 3) := by decide +kernel
theorem d_X12_beast_18 : decode (D_X12_beast).2.1 18 = .ok (.aload_n 0, 1) := by decide +kernel
theorem d_X12_beast_19 : decode (D_X12_beast).2.1 19 = .ok (.iconst 1, 1) := by decide +kernel
theorem d_X12_beast_20 : decode (D_X12_beast).2.1 20 = .ok (.invokevirtual 87, 3) := by decide +kernel
theorem d_X12_beast_23 : decode (D_X12_beast).2.1 23 = .ok (.ireturn, 1) := by decide +kernel
theorem d_X12_beast_24 : decode (D_X12_beast).2.1 24 = .ok (.aload_n 0, 1) := by decide +kernel
theorem d_X12_beast_25 : decode (D_X12_beast).2.1 25 = .ok (.aload_n 0, 1) := by decide +kernel
theorem d_X12_beast_26 : decode (D_X12_beast).2.1 26 = .ok (.iload_n 1, 1) := by decide +kernel
theorem d_X12_beast_27 : decode (D_X12_beast).2.1 27 = .ok (.iload_n 2, 1) := by decide +kernel
theorem d_X12_beast_28 : decode (D_X12_beast).2.1 28 = .ok (.invokevirtual 276, 3) := by decide +kernel
theorem d_X12_beast_31 : decode (D_X12_beast).2.1 31 = .ok (.invokevirtual 91, 3) := by decide +kernel
theorem d_X12_beast_34 : decode (D_X12_beast).2.1 34 = .ok (.ireturn, 1) := by decide +kernel
def f_X12_beast_L18 (n : Nat) (M : JMem) : Option (Int × JMem) := bnd (f_X12_refuse n 1 M) fun r1 M2 => some (r1, M2)
set_option maxRecDepth 4000 in
theorem t_X12_beast_L18 {g : JG} {ad : Nat → Nat} (hs : jStr g ad) (n : Nat) (M : JMem) : jB g D_X12_beast ad 18 [some (.ref 167), none, none] [] M (f_X12_beast_L18 n M) := by
  unfold f_X12_beast_L18
  refine jo_aload 0 d_X12_beast_18 rfl rfl ?_
  refine jo_iconst 1 d_X12_beast_19 ?_
  refine jo_callV (st := []) (m_X12_refuse hs n 1 M) ok_X12_refuse (And.intro (Nat.le_of_ble_eq_true rfl) (Nat.le_of_ble_eq_true rfl)) lm_X12_87 in_X12_refuse se_X12_refuse rfl kc_167 rfl rfl (And.intro (Nat.zero_le _) (Nat.zero_le _)) rfl (Nat.le_of_ble_eq_true rfl) d_X12_beast_20 (fun r1 M2 => ?_)
  exact jo_iret rfl d_X12_beast_23
def f_X12_beast (n : Nat) (x1 : Int) (x2 : Int) (M : JMem) : Option (Int × JMem) := bnd (f_X12_isBeast n x1 M) fun r1 M2 => if jw r1 = 0 then (f_X12_beast_L18 n M2) else (if jw x2 < 0 then (f_X12_beast_L18 n M2) else (if jw x2 ≤ jw 6 then (bnd (f_X12_beastOf n x1 x2 M2) fun r3 M4 => bnd (f_X12_gives n r3 M4) fun r5 M6 => some (r5, M6)) else (f_X12_beast_L18 n M2)))
set_option maxRecDepth 4000 in
theorem t_X12_beast {g : JG} {ad : Nat → Nat} (hs : jStr g ad) (n : Nat) (x1 : Int) (x2 : Int) (M : JMem) : jB g D_X12_beast ad 0 [some (.ref 167), some (ji x1), some (ji x2)] [] M (f_X12_beast n x1 x2 M) := by
  unfold f_X12_beast
  refine jo_aload 0 d_X12_beast_0 rfl rfl ?_
  refine jo_iload 1 d_X12_beast_1 rfl rfl ?_
  refine jo_callV (st := []) (m_X12_isBeast hs n x1 M) ok_X12_isBeast (And.intro (Nat.le_of_ble_eq_true rfl) (Nat.le_of_ble_eq_true rfl)) lm_X12_263 in_X12_isBeast se_X12_isBeast rfl kc_167 rfl rfl (And.intro (Nat.zero_le _) (Nat.zero_le _)) rfl (Nat.le_of_ble_eq_true rfl) d_X12_beast_2 (fun r1 M2 => ?_)
  refine jo_if_eq 18 d_X12_beast_5 (by decide) ?_ ?_
  · skip
    exact jO.sub (t_X12_beast_L18 hs n M2) (And.intro rfl True.intro)
  · skip
    refine jo_iload 2 d_X12_beast_8 rfl rfl ?_
    refine jo_if_lt 18 d_X12_beast_9 (by decide) ?_ ?_
    · skip
      exact jO.sub (t_X12_beast_L18 hs n M2) (And.intro rfl True.intro)
    · skip
      refine jo_iload 2 d_X12_beast_12 rfl rfl ?_
      refine jo_bipush 6 d_X12_beast_13 (by decide) ?_
      refine jo_icmp_le 24 d_X12_beast_15 (by decide) ?_ ?_
      · skip
        refine jo_aload 0 d_X12_beast_24 rfl rfl ?_
        refine jo_aload 0 d_X12_beast_25 rfl rfl ?_
        refine jo_iload 1 d_X12_beast_26 rfl rfl ?_
        refine jo_iload 2 d_X12_beast_27 rfl rfl ?_
        refine jo_callV (st := [.ref 167]) (m_X12_beastOf hs n x1 x2 M2) ok_X12_beastOf (And.intro (Nat.le_of_ble_eq_true rfl) (Nat.le_of_ble_eq_true rfl)) lm_X12_276 in_X12_beastOf se_X12_beastOf rfl kc_167 rfl rfl (And.intro (Nat.zero_le _) (Nat.zero_le _)) rfl (Nat.le_of_ble_eq_true rfl) d_X12_beast_28 (fun r3 M4 => ?_)
        refine jo_callV (st := []) (m_X12_gives hs n r3 M4) ok_X12_gives (And.intro (Nat.le_of_ble_eq_true rfl) (Nat.le_of_ble_eq_true rfl)) lm_X12_91 in_X12_gives se_X12_gives rfl kc_167 rfl rfl (And.intro (Nat.zero_le _) (Nat.zero_le _)) rfl (Nat.le_of_ble_eq_true rfl) d_X12_beast_31 (fun r5 M6 => ?_)
        exact jo_iret rfl d_X12_beast_34
      · skip
        exact jO.sub (t_X12_beast_L18 hs n M2) (And.intro rfl True.intro)
theorem m_X12_beast {g : JG} {ad : Nat → Nat} (hs : jStr g ad) (n : Nat) (x1 : Int) (x2 : Int) (M : JMem) : jMet g jNN ad jR D_X12_beast yX12_beast [.ref 167, ji x1, ji x2] M (f_X12_beast n x1 x2 M) :=
  jMet.of (lo0 := [some (.ref 167), some (ji x1), some (ji x2)]) (by decide) rfl rfl (Nat.le_of_ble_eq_true rfl) (And.intro rfl (And.intro rfl (And.intro rfl True.intro))) (t_X12_beast hs n x1 x2 M)
/-! CageLeaveModel.beastTo(I)Z -/
def D_X12_beastTo : JD := (RX12, cX12_beastTo, 2, some .boolean, "beastTo", { frames := 9, cells := 0, slots := 0, locals := 220 })
theorem ok_X12_beastTo : jOk D_X12_beastTo yX12_beastTo 1 := ⟨jTW_mem (k := 1679) (by decide +kernel) rfl, jTW_mem (k := 151) (by decide +kernel) rfl, ⟨by decide +kernel, by decide +kernel⟩, by decide +kernel, rfl, rfl⟩
theorem in_X12_beastTo : Cond.instanceMethod yX12_beastTo ∈ jTW := jTW_mem (k := 1678) (by decide +kernel) rfl
theorem se_X12_beastTo : Cond.selects yX12_beastTo.cls yX12_beastTo yX12_beastTo ∈ jTW := jTW_mem (k := 79) (by decide +kernel) rfl
theorem d_X12_beastTo_0 : decode (D_X12_beastTo).2.1 0 = .ok (.aload_n 0, 1) := by decide +kernel
theorem d_X12_beastTo_1 : decode (D_X12_beastTo).2.1 1 = .ok (.bipush 14, 2) := by decide +kernel
theorem d_X12_beastTo_3 : decode (D_X12_beastTo).2.1 3 = .ok (.aload_n 0, 1) := by decide +kernel
theorem d_X12_beastTo_4 : decode (D_X12_beastTo).2.1 4 = .ok (.getfield 7, 3) := by decide +kernel
theorem d_X12_beastTo_7 : decode (D_X12_beastTo).2.1 7 = .ok (.iconst 2, 1) := by decide +kernel
theorem d_X12_beastTo_8 : decode (D_X12_beastTo).2.1 8 = .ok (.iaload, 1) := by decide +kernel
theorem d_X12_beastTo_9 : decode (D_X12_beastTo).2.1 9 = .ok (.iload_n 1, 1) := by decide +kernel
theorem d_X12_beastTo_10 : decode (D_X12_beastTo).2.1 10 = .ok (.invokevirtual 189, 3) := by decide +kernel
theorem d_X12_beastTo_13 : decode (D_X12_beastTo).2.1 13 = .ok (.ireturn, 1) := by decide +kernel
def f_X12_beastTo (n : Nat) (x1 : Int) (M : JMem) : Option (Int × JMem) := chk (jin 2 3160) <| bnd (f_X12_oldOne n 14 (M 168 (jw 2).toNat) x1 M) fun r1 M2 => chk (jw r1 = 0 ∨ jw r1 = 1) (some (r1, M2))
set_option maxRecDepth 4000 in
theorem t_X12_beastTo {g : JG} {ad : Nat → Nat} (hs : jStr g ad) (n : Nat) (x1 : Int) (M : JMem) : jB g D_X12_beastTo ad 0 [some (.ref 167), some (ji x1)] [] M (f_X12_beastTo n x1 M) := by
  unfold f_X12_beastTo
  refine jo_aload 0 d_X12_beastTo_0 rfl rfl ?_
  refine jo_bipush 14 d_X12_beastTo_1 (by decide) ?_
  refine jo_aload 0 d_X12_beastTo_3 rfl rfl ?_
  refine jo_getR (k := 0) cl_12 (Nat.le_of_ble_eq_true rfl) lk_X12_7 rfl kc_167 kr_167_0 d_X12_beastTo_4 ?_
  refine jo_iconst 2 d_X12_beastTo_7 ?_
  refine jo_iald (N := 3160) kc_168 d_X12_beastTo_8 ?_
  refine jo_iload 1 d_X12_beastTo_9 rfl rfl ?_
  refine jo_callV (st := []) (m_X12_oldOne hs n 14 (M 168 (jw 2).toNat) x1 M) ok_X12_oldOne (And.intro (Nat.le_of_ble_eq_true rfl) (Nat.le_of_ble_eq_true rfl)) lm_X12_189 in_X12_oldOne se_X12_oldOne rfl kc_167 rfl rfl (And.intro (Nat.zero_le _) (Nat.zero_le _)) rfl (Nat.le_of_ble_eq_true rfl) d_X12_beastTo_10 (fun r1 M2 => ?_)
  exact jo_zretq rfl d_X12_beastTo_13
theorem m_X12_beastTo {g : JG} {ad : Nat → Nat} (hs : jStr g ad) (n : Nat) (x1 : Int) (M : JMem) : jMet g jNN ad jR D_X12_beastTo yX12_beastTo [.ref 167, ji x1] M (f_X12_beastTo n x1 M) :=
  jMet.of (lo0 := [some (.ref 167), some (ji x1)]) (by decide) rfl rfl (Nat.le_of_ble_eq_true rfl) (And.intro rfl (And.intro rfl True.intro)) (t_X12_beastTo hs n x1 M)
/-! CageLeaveModel.beastsAt(I)I -/
def D_X12_beastsAt : JD := (RX12, cX12_beastsAt, 4, some .int, "beastsAt", { frames := 4, cells := 0, slots := 0, locals := 84 })
theorem ok_X12_beastsAt : jOk D_X12_beastsAt yX12_beastsAt 1 := ⟨jTW_mem (k := 1710) (by decide +kernel) rfl, jTW_mem (k := 151) (by decide +kernel) rfl, ⟨by decide +kernel, by decide +kernel⟩, by decide +kernel, rfl, rfl⟩
theorem in_X12_beastsAt : Cond.instanceMethod yX12_beastsAt ∈ jTW := jTW_mem (k := 1709) (by decide +kernel) rfl
theorem se_X12_beastsAt : Cond.selects yX12_beastsAt.cls yX12_beastsAt yX12_beastsAt ∈ jTW := jTW_mem (k := 85) (by decide +kernel) rfl
theorem d_X12_beastsAt_0 : decode (D_X12_beastsAt).2.1 0 = .ok (.iconst 0, 1) := by decide +kernel
theorem d_X12_beastsAt_1 : decode (D_X12_beastsAt).2.1 1 = .ok (.istore_n 2, 1) := by decide +kernel
theorem d_X12_beastsAt_2 : decode (D_X12_beastsAt).2.1 2 = .ok (.iconst 0, 1) := by decide +kernel
theorem d_X12_beastsAt_3 : decode (D_X12_beastsAt).2.1 3 = .ok (.istore_n 3, 1) := by decide +kernel
theorem d_X12_beastsAt_4 : decode (D_X12_beastsAt).2.1 4 = .ok (.iload_n 3, 1) := by decide +kernel
theorem d_X12_beastsAt_5 : decode (D_X12_beastsAt).2.1 5 = .ok (.aload_n 0, 1) := by decide +kernel
theorem d_X12_beastsAt_6 : decode (D_X12_beastsAt).2.1 6 = .ok (.getfield 7, 3) := by decide +kernel
theorem d_X12_beastsAt_9 : decode (D_X12_beastsAt).2.1 9 = .ok (.iconst 2, 1) := by decide +kernel
theorem d_X12_beastsAt_10 : decode (D_X12_beastsAt).2.1 10 = .ok (.iaload, 1) := by decide +kernel
theorem d_X12_beastsAt_11 : decode (D_X12_beastsAt).2.1 11 = .ok (.if_icmp .ge 28, 3) := by decide +kernel
theorem d_X12_beastsAt_14 : decode (D_X12_beastsAt).2.1 14 = .ok (.iload_n 2, 1) := by decide +kernel
theorem d_X12_beastsAt_15 : decode (D_X12_beastsAt).2.1 15 = .ok (.aload_n 0, 1) := by decide +kernel
theorem d_X12_beastsAt_16 : decode (D_X12_beastsAt).2.1 16 = .ok (.iload_n 3, 1) := by decide +kernel
theorem d_X12_beastsAt_17 : decode (D_X12_beastsAt).2.1 17 = .ok (.invokevirtual 282, 3) := by decide +kernel
theorem d_X12_beastsAt_20 : decode (D_X12_beastsAt).2.1 20 = .ok (.iload_n 1, 1) := by decide +kernel
theorem d_X12_beastsAt_21 : decode (D_X12_beastsAt).2.1 21 = .ok (.if_icmp .ne 9, 3) := by decide +kernel
theorem d_X12_beastsAt_24 : decode (D_X12_beastsAt).2.1 24 = .ok (.iconst 1, 1) := by decide +kernel
theorem d_X12_beastsAt_25 : decode (D_X12_beastsAt).2.1 25 = .ok (.iload_n 3, 1) := by decide +kernel
theorem d_X12_beastsAt_26 : decode (D_X12_beastsAt).2.1 26 = .ok (.ishl, 1) := by decide +kernel
theorem d_X12_beastsAt_27 : decode (D_X12_beastsAt).2.1 27 = .ok (.goto 4, 3) := by decide +kernel
theorem d_X12_beastsAt_30 : decode (D_X12_beastsAt).2.1 30 = .ok (.iconst 0, 1) := by decide +kernel
theorem d_X12_beastsAt_31 : decode (D_X12_beastsAt).2.1 31 = .ok (.ior, 1) := by decide +kernel
theorem d_X12_beastsAt_32 : decode (D_X12_beastsAt).2.1 32 = .ok (.istore_n 2, 1) := by decide +kernel
theorem d_X12_beastsAt_33 : decode (D_X12_beastsAt).2.1 33 = .ok (.iinc 3 1, 3) := by decide +kernel
theorem d_X12_beastsAt_36 : decode (D_X12_beastsAt).2.1 36 = .ok (.goto (-32), 3) := by decide +kernel
theorem d_X12_beastsAt_39 : decode (D_X12_beastsAt).2.1 39 = .ok (.iload_n 2, 1) := by decide +kernel
theorem d_X12_beastsAt_40 : decode (D_X12_beastsAt).2.1 40 = .ok (.ireturn, 1) := by decide +kernel
def f_X12_beastsAt_L31 (n : Nat) (r4 : Int → Int → Int → JMem → Option (Int × JMem)) (v1 v3 w0 w1 : Int) (M : JMem) : Option (Int × JMem) := letv (jor w0 w1) fun y1 => letv (v3 + 1) fun y2 => r4 v1 y1 y2 M
set_option maxRecDepth 4000 in
theorem t_X12_beastsAt_L31 {g : JG} {ad : Nat → Nat} (hs : jStr g ad) (n : Nat) (r4 : Int → Int → Int → JMem → Option (Int × JMem)) (hr4 : ∀ (v1 v2 v3 : Int) (M : JMem), jB g D_X12_beastsAt ad 4 [some (.ref 167), some (ji v1), some (ji v2), some (ji v3)] [] M (r4 v1 v2 v3 M)) (v1 v3 w0 w1 : Int) (M : JMem) : jB g D_X12_beastsAt ad 31 [some (.ref 167), some (ji v1), none, some (ji v3)] [ji w1, ji w0] M (f_X12_beastsAt_L31 n r4 v1 v3 w0 w1 M) := by
  unfold f_X12_beastsAt_L31
  refine jo_ior d_X12_beastsAt_31 ?_
  refine jo_istore 2 d_X12_beastsAt_32 rfl (Nat.le_of_ble_eq_true rfl) (fun y1 => ?_)
  refine jo_iinc 3 d_X12_beastsAt_33 rfl (Nat.le_of_ble_eq_true rfl) (fun y2 => ?_)
  refine jo_goto 4 d_X12_beastsAt_36 (by decide) ?_
  exact jO.sub (hr4 v1 y1 y2 M) (And.intro rfl (And.intro rfl (And.intro rfl (And.intro rfl True.intro))))
def f_X12_beastsAt_L4 (n : Nat) : Nat → Int → Int → Int → JMem → Option (Int × JMem)
  | 0, _, _, _, _ => none
  | k + 1, v1, v2, v3, M => chk (jin 2 3160) <| if jw (M 168 (jw 2).toNat) ≤ jw v3 then (some (v2, M)) else (bnd (f_X12_whereOf n v3 M) fun r1 M2 => if jw r1 = jw v1 then (f_X12_beastsAt_L31 n (f_X12_beastsAt_L4 n k) v1 v3 v2 (jshl 1 v3) M2) else (f_X12_beastsAt_L31 n (f_X12_beastsAt_L4 n k) v1 v3 v2 0 M2))
set_option maxRecDepth 4000 in
theorem t_X12_beastsAt_L4 {g : JG} {ad : Nat → Nat} (hs : jStr g ad) (n : Nat) : ∀ (k : Nat) (v1 v2 v3 : Int) (M : JMem), jB g D_X12_beastsAt ad 4 [some (.ref 167), some (ji v1), some (ji v2), some (ji v3)] [] M (f_X12_beastsAt_L4 n k v1 v2 v3 M) := by
  intro k
  induction k with
  | zero => intro v1 v2 v3 M; exact jO.none
  | succ k ih =>
    intro v1 v2 v3 M
    rw [f_X12_beastsAt_L4]
    refine jo_iload 3 d_X12_beastsAt_4 rfl rfl ?_
    refine jo_aload 0 d_X12_beastsAt_5 rfl rfl ?_
    refine jo_getR (k := 0) cl_12 (Nat.le_of_ble_eq_true rfl) lk_X12_7 rfl kc_167 kr_167_0 d_X12_beastsAt_6 ?_
    refine jo_iconst 2 d_X12_beastsAt_9 ?_
    refine jo_iald (N := 3160) kc_168 d_X12_beastsAt_10 ?_
    refine jo_icmp_ge 39 d_X12_beastsAt_11 (by decide) ?_ ?_
    · skip
      refine jo_iload 2 d_X12_beastsAt_39 rfl rfl ?_
      exact jo_iret rfl d_X12_beastsAt_40
    · skip
      refine jo_iload 2 d_X12_beastsAt_14 rfl rfl ?_
      refine jo_aload 0 d_X12_beastsAt_15 rfl rfl ?_
      refine jo_iload 3 d_X12_beastsAt_16 rfl rfl ?_
      refine jo_callV (st := [ji v2]) (m_X12_whereOf hs n v3 M) ok_X12_whereOf (And.intro (Nat.le_of_ble_eq_true rfl) (Nat.le_of_ble_eq_true rfl)) lm_X12_282 in_X12_whereOf se_X12_whereOf rfl kc_167 rfl rfl (And.intro (Nat.zero_le _) (Nat.zero_le _)) rfl (Nat.le_of_ble_eq_true rfl) d_X12_beastsAt_17 (fun r1 M2 => ?_)
      refine jo_iload 1 d_X12_beastsAt_20 rfl rfl ?_
      refine jo_icmp_ne 30 d_X12_beastsAt_21 (by decide) ?_ ?_
      · skip
        refine jo_iconst 0 d_X12_beastsAt_30 ?_
        exact jO.sub (t_X12_beastsAt_L31 hs n (f_X12_beastsAt_L4 n k) ih v1 v3 v2 0 M2) (And.intro rfl (And.intro rfl (And.intro rfl True.intro)))
      · skip
        refine jo_iconst 1 d_X12_beastsAt_24 ?_
        refine jo_iload 3 d_X12_beastsAt_25 rfl rfl ?_
        refine jo_ishl d_X12_beastsAt_26 ?_
        refine jo_goto 31 d_X12_beastsAt_27 (by decide) ?_
        exact jO.sub (t_X12_beastsAt_L31 hs n (f_X12_beastsAt_L4 n k) ih v1 v3 v2 (jshl 1 v3) M2) (And.intro rfl (And.intro rfl (And.intro rfl True.intro)))
def f_X12_beastsAt (n : Nat) (x1 : Int) (M : JMem) : Option (Int × JMem) := letv 0 fun y1 => letv 0 fun y2 => f_X12_beastsAt_L4 n n x1 y1 y2 M
set_option maxRecDepth 4000 in
theorem t_X12_beastsAt {g : JG} {ad : Nat → Nat} (hs : jStr g ad) (n : Nat) (x1 : Int) (M : JMem) : jB g D_X12_beastsAt ad 0 [some (.ref 167), some (ji x1), none, none] [] M (f_X12_beastsAt n x1 M) := by
  unfold f_X12_beastsAt
  refine jo_iconst 0 d_X12_beastsAt_0 ?_
  refine jo_istore 2 d_X12_beastsAt_1 rfl (Nat.le_of_ble_eq_true rfl) (fun y1 => ?_)
  refine jo_iconst 0 d_X12_beastsAt_2 ?_
  refine jo_istore 3 d_X12_beastsAt_3 rfl (Nat.le_of_ble_eq_true rfl) (fun y2 => ?_)
  exact jO.sub (t_X12_beastsAt_L4 hs n n x1 y1 y2 M) (And.intro rfl (And.intro rfl (And.intro rfl (And.intro rfl True.intro))))
theorem m_X12_beastsAt {g : JG} {ad : Nat → Nat} (hs : jStr g ad) (n : Nat) (x1 : Int) (M : JMem) : jMet g jNN ad jR D_X12_beastsAt yX12_beastsAt [.ref 167, ji x1] M (f_X12_beastsAt n x1 M) :=
  jMet.of (lo0 := [some (.ref 167), some (ji x1), none, none]) (by decide) rfl rfl (Nat.le_of_ble_eq_true rfl) (And.intro rfl (And.intro rfl True.intro)) (t_X12_beastsAt hs n x1 M)
/-! CageLeaveModel.begins(II)Z -/
def D_X12_begins : JD := (RX12, cX12_begins, 4, some .boolean, "begins", { frames := 2, cells := 0, slots := 0, locals := 61 })
theorem ok_X12_begins : jOk D_X12_begins yX12_begins 2 := ⟨jTW_mem (k := 1556) (by decide +kernel) rfl, jTW_mem (k := 151) (by decide +kernel) rfl, ⟨by decide +kernel, by decide +kernel⟩, by decide +kernel, rfl, rfl⟩
theorem in_X12_begins : Cond.instanceMethod yX12_begins ∈ jTW := jTW_mem (k := 1555) (by decide +kernel) rfl
theorem se_X12_begins : Cond.selects yX12_begins.cls yX12_begins yX12_begins ∈ jTW := jTW_mem (k := 52) (by decide +kernel) rfl
theorem lk_X12_111 : Cond.fieldLink RX12 111 (TX12 10).1 (TX12 10).2.1 (TX12 10).2.2.1 ∈ jTW := jTW_mem (k := 1386) (by decide +kernel) rfl
theorem lk_X12_160 : Cond.fieldLink RX12 160 (TX12 19).1 (TX12 19).2.1 (TX12 19).2.2.1 ∈ jTW := jTW_mem (k := 1395) (by decide +kernel) rfl
theorem lk_X12_30 : Cond.fieldLink RX12 30 (TX12 8).1 (TX12 8).2.1 (TX12 8).2.2.1 ∈ jTW := jTW_mem (k := 1384) (by decide +kernel) rfl
theorem d_X12_begins_0 : decode (D_X12_begins).2.1 0 = .ok (.iload_n 1, 1) := by decide +kernel
theorem d_X12_begins_1 : decode (D_X12_begins).2.1 1 = .ok (.ifCond .lt 16, 3) := by decide +kernel
theorem d_X12_begins_4 : decode (D_X12_begins).2.1 4 = .ok (.iload_n 1, 1) := by decide +kernel
theorem d_X12_begins_5 : decode (D_X12_begins).2.1 5 = .ok (.aload_n 0, 1) := by decide +kernel
theorem d_X12_begins_6 : decode (D_X12_begins).2.1 6 = .ok (.getfield 111, 3) := by decide +kernel
theorem d_X12_begins_9 : decode (D_X12_begins).2.1 9 = .ok (.if_icmp .gt 8, 3) := by decide +kernel
theorem d_X12_begins_12 : decode (D_X12_begins).2.1 12 = .ok (.iload_n 1, 1) := by decide +kernel
theorem d_X12_begins_13 : decode (D_X12_begins).2.1 13 = .ok (.iload_n 2, 1) := by decide +kernel
theorem d_X12_begins_14 : decode (D_X12_begins).2.1 14 = .ok (.if_icmp .le 5, 3) := by decide +kernel
theorem d_X12_begins_17 : decode (D_X12_begins).2.1 17 = .ok (.iconst 0, 1) := by decide +kernel
theorem d_X12_begins_18 : decode (D_X12_begins).2.1 18 = .ok (.ireturn, 1) := by decide +kernel
theorem d_X12_begins_19 : decode (D_X12_begins).2.1 19 = .ok (.aload_n 0, 1) := by decide +kernel
theorem d_X12_begins_20 : decode (D_X12_begins).2.1 20 = .ok (.iload_n 1, 1) := by decide +kernel
theorem d_X12_begins_21 : decode (D_X12_begins).2.1 21 = .ok (.putfield 117, 3) := by decide +kernel
theorem d_X12_begins_24 : decode (D_X12_begins).2.1 24 = .ok (.iconst 0, 1) := by decide +kernel
theorem d_X12_begins_25 : decode (D_X12_begins).2.1 25 = .ok (.istore_n 3, 1) := by decide +kernel
theorem d_X12_begins_26 : decode (D_X12_begins).2.1 26 = .ok (.iload_n 3, 1) := by decide +kernel
theorem d_X12_begins_27 : decode (D_X12_begins).2.1 27 = .ok (.iload_n 1, 1) := by decide +kernel
theorem d_X12_begins_28 : decode (D_X12_begins).2.1 28 = .ok (.if_icmp .ge 21, 3) := by decide +kernel
theorem d_X12_begins_31 : decode (D_X12_begins).2.1 31 = .ok (.aload_n 0, 1) := by decide +kernel
theorem d_X12_begins_32 : decode (D_X12_begins).2.1 32 = .ok (.getfield 34, 3) := by decide +kernel
theorem d_X12_begins_35 : decode (D_X12_begins).2.1 35 = .ok (.iload_n 3, 1) := by decide +kernel
theorem d_X12_begins_36 : decode (D_X12_begins).2.1 36 = .ok (.aload_n 0, 1) := by decide +kernel
theorem d_X12_begins_37 : decode (D_X12_begins).2.1 37 = .ok (.getfield 30, 3) := by decide +kernel
theorem d_X12_begins_40 : decode (D_X12_begins).2.1 40 = .ok (.iload_n 3, 1) := by decide +kernel
theorem d_X12_begins_41 : decode (D_X12_begins).2.1 41 = .ok (.baload, 1) := by decide +kernel
theorem d_X12_begins_42 : decode (D_X12_begins).2.1 42 = .ok (.bastore, 1) := by decide +kernel
theorem d_X12_begins_43 : decode (D_X12_begins).2.1 43 = .ok (.iinc 3 1, 3) := by decide +kernel
theorem d_X12_begins_46 : decode (D_X12_begins).2.1 46 = .ok (.goto (-20), 3) := by decide +kernel
theorem d_X12_begins_49 : decode (D_X12_begins).2.1 49 = .ok (.aload_n 0, 1) := by decide +kernel
theorem d_X12_begins_50 : decode (D_X12_begins).2.1 50 = .ok (.iconst 0, 1) := by decide +kernel
theorem d_X12_begins_51 : decode (D_X12_begins).2.1 51 = .ok (.putfield 111, 3) := by decide +kernel
theorem d_X12_begins_54 : decode (D_X12_begins).2.1 54 = .ok (.aload_n 0, 1) := by decide +kernel
theorem d_X12_begins_55 : decode (D_X12_begins).2.1 55 = .ok (.iconst 0, 1) := by decide +kernel
theorem d_X12_begins_56 : decode (D_X12_begins).2.1 56 = .ok (.putfield 157, 3) := by decide +kernel
theorem d_X12_begins_59 : decode (D_X12_begins).2.1 59 = .ok (.aload_n 0, 1) := by decide +kernel
theorem d_X12_begins_60 : decode (D_X12_begins).2.1 60 = .ok (.iconst (-1), 1) := by decide +kernel
theorem d_X12_begins_61 : decode (D_X12_begins).2.1 61 = .ok (.putfield 41, 3) := by decide +kernel
theorem d_X12_begins_64 : decode (D_X12_begins).2.1 64 = .ok (.aload_n 0, 1) := by decide +kernel
theorem d_X12_begins_65 : decode (D_X12_begins).2.1 65 = .ok (.iconst 0, 1) := by decide +kernel
theorem d_X12_begins_66 : decode (D_X12_begins).2.1 66 = .ok (.putfield 120, 3) := by decide +kernel
theorem d_X12_begins_69 : decode (D_X12_begins).2.1 69 = .ok (.aload_n 0, 1) := by decide +kernel
theorem d_X12_begins_70 : decode (D_X12_begins).2.1 70 = .ok (.iconst 0, 1) := by decide +kernel
theorem d_X12_begins_71 : decode (D_X12_begins).2.1 71 = .ok (.putfield 160, 3) := by decide +kernel
theorem d_X12_begins_74 : decode (D_X12_begins).2.1 74 = .ok (.aload_n 0, 1) := by decide +kernel
theorem d_X12_begins_75 : decode (D_X12_begins).2.1 75 = .ok (.invokevirtual 163, 3) := by decide +kernel
theorem d_X12_begins_78 : decode (D_X12_begins).2.1 78 = .ok (.iconst 1, 1) := by decide +kernel
theorem d_X12_begins_79 : decode (D_X12_begins).2.1 79 = .ok (.ireturn, 1) := by decide +kernel
def f_X12_begins_L49 (n : Nat) (M : JMem) : Option (Int × JMem) := letm (jup M 167 10 0) fun M1 => letm (jup M1 167 18 0) fun M2 => letm (jup M2 167 17 (-1)) fun M3 => letm (jup M3 167 14 0) fun M4 => letm (jup M4 167 19 0) fun M5 => bnd (f_X12_ahead n M5) fun _ M7 => some (1, M7)
set_option maxRecDepth 4000 in
theorem t_X12_begins_L49 {g : JG} {ad : Nat → Nat} (hs : jStr g ad) (n : Nat) (M : JMem) : jB g D_X12_begins ad 49 [some (.ref 167), none, none, none] [] M (f_X12_begins_L49 n M) := by
  unfold f_X12_begins_L49
  refine jo_aload 0 d_X12_begins_49 rfl rfl ?_
  refine jo_iconst 0 d_X12_begins_50 ?_
  refine jo_putI (k := 10) cl_12 (Nat.le_of_ble_eq_true rfl) lk_X12_111 rfl rfl kc_167 d_X12_begins_51 (fun M1 => ?_)
  refine jo_aload 0 d_X12_begins_54 rfl rfl ?_
  refine jo_iconst 0 d_X12_begins_55 ?_
  refine jo_putI (k := 18) cl_12 (Nat.le_of_ble_eq_true rfl) lk_X12_157 rfl rfl kc_167 d_X12_begins_56 (fun M2 => ?_)
  refine jo_aload 0 d_X12_begins_59 rfl rfl ?_
  refine jo_iconst (-1) d_X12_begins_60 ?_
  refine jo_putI (k := 17) cl_12 (Nat.le_of_ble_eq_true rfl) lk_X12_41 rfl rfl kc_167 d_X12_begins_61 (fun M3 => ?_)
  refine jo_aload 0 d_X12_begins_64 rfl rfl ?_
  refine jo_iconst 0 d_X12_begins_65 ?_
  refine jo_putI (k := 14) cl_12 (Nat.le_of_ble_eq_true rfl) lk_X12_120 rfl rfl kc_167 d_X12_begins_66 (fun M4 => ?_)
  refine jo_aload 0 d_X12_begins_69 rfl rfl ?_
  refine jo_iconst 0 d_X12_begins_70 ?_
  refine jo_putI (k := 19) cl_12 (Nat.le_of_ble_eq_true rfl) lk_X12_160 rfl rfl kc_167 d_X12_begins_71 (fun M5 => ?_)
  refine jo_aload 0 d_X12_begins_74 rfl rfl ?_
  refine jo_callV (st := []) (m_X12_ahead hs n M5) ok_X12_ahead (And.intro (Nat.le_of_ble_eq_true rfl) (Nat.le_of_ble_eq_true rfl)) lm_X12_163 in_X12_ahead se_X12_ahead rfl kc_167 rfl rfl (And.intro (Nat.zero_le _) (Nat.zero_le _)) rfl (Nat.le_of_ble_eq_true rfl) d_X12_begins_75 (fun _ M7 => ?_)
  refine jo_iconst 1 d_X12_begins_78 ?_
  exact jo_zret rfl (by decide) d_X12_begins_79
def f_X12_begins_L26 (n : Nat) : Nat → Int → Int → JMem → Option (Int × JMem)
  | 0, _, _, _ => none
  | k + 1, v1, v3, M => if jw v1 ≤ jw v3 then (f_X12_begins_L49 n M) else (chk (jin v3 900) <| chk (jin v3 900) <| letm (jup M 174 (jw v3).toNat (jw8 (M 173 (jw v3).toNat))) fun M1 => letv (v3 + 1) fun y2 => (f_X12_begins_L26 n k) v1 y2 M1)
set_option maxRecDepth 4000 in
theorem t_X12_begins_L26 {g : JG} {ad : Nat → Nat} (hs : jStr g ad) (n : Nat) : ∀ (k : Nat) (v1 v3 : Int) (M : JMem), jB g D_X12_begins ad 26 [some (.ref 167), some (ji v1), none, some (ji v3)] [] M (f_X12_begins_L26 n k v1 v3 M) := by
  intro k
  induction k with
  | zero => intro v1 v3 M; exact jO.none
  | succ k ih =>
    intro v1 v3 M
    rw [f_X12_begins_L26]
    refine jo_iload 3 d_X12_begins_26 rfl rfl ?_
    refine jo_iload 1 d_X12_begins_27 rfl rfl ?_
    refine jo_icmp_ge 49 d_X12_begins_28 (by decide) ?_ ?_
    · skip
      exact jO.sub (t_X12_begins_L49 hs n M) (And.intro rfl True.intro)
    · skip
      refine jo_aload 0 d_X12_begins_31 rfl rfl ?_
      refine jo_getR (k := 9) cl_12 (Nat.le_of_ble_eq_true rfl) lk_X12_34 rfl kc_167 kr_167_9 d_X12_begins_32 ?_
      refine jo_iload 3 d_X12_begins_35 rfl rfl ?_
      refine jo_aload 0 d_X12_begins_36 rfl rfl ?_
      refine jo_getR (k := 8) cl_12 (Nat.le_of_ble_eq_true rfl) lk_X12_30 rfl kc_167 kr_167_8 d_X12_begins_37 ?_
      refine jo_iload 3 d_X12_begins_40 rfl rfl ?_
      refine jo_bald (N := 900) kc_173 d_X12_begins_41 ?_
      refine jo_bast (N := 900) kc_174 d_X12_begins_42 (fun M1 => ?_)
      refine jo_iinc 3 d_X12_begins_43 rfl (Nat.le_of_ble_eq_true rfl) (fun y2 => ?_)
      refine jo_goto 26 d_X12_begins_46 (by decide) ?_
      exact jO.sub (ih v1 y2 M1) (And.intro rfl (And.intro rfl (And.intro rfl True.intro)))
def f_X12_begins (n : Nat) (x1 : Int) (x2 : Int) (M : JMem) : Option (Int × JMem) := if jw x1 < 0 then (some (0, M)) else (if jw (M 167 10) < jw x1 then (some (0, M)) else (if jw x1 ≤ jw x2 then (letm (jup M 167 11 x1) fun M1 => letv 0 fun y2 => f_X12_begins_L26 n n x1 y2 M1) else (some (0, M))))
set_option maxRecDepth 4000 in
theorem t_X12_begins {g : JG} {ad : Nat → Nat} (hs : jStr g ad) (n : Nat) (x1 : Int) (x2 : Int) (M : JMem) : jB g D_X12_begins ad 0 [some (.ref 167), some (ji x1), some (ji x2), none] [] M (f_X12_begins n x1 x2 M) := by
  unfold f_X12_begins
  refine jo_iload 1 d_X12_begins_0 rfl rfl ?_
  refine jo_if_lt 17 d_X12_begins_1 (by decide) ?_ ?_
  · skip
    refine jo_iconst 0 d_X12_begins_17 ?_
    exact jo_zret rfl (by decide) d_X12_begins_18
  · skip
    refine jo_iload 1 d_X12_begins_4 rfl rfl ?_
    refine jo_aload 0 d_X12_begins_5 rfl rfl ?_
    refine jo_getI (k := 10) cl_12 (Nat.le_of_ble_eq_true rfl) lk_X12_111 (Or.inl rfl) kc_167 d_X12_begins_6 ?_
    refine jo_icmp_gt 17 d_X12_begins_9 (by decide) ?_ ?_
    · skip
      refine jo_iconst 0 d_X12_begins_17 ?_
      exact jo_zret rfl (by decide) d_X12_begins_18
    · skip
      refine jo_iload 1 d_X12_begins_12 rfl rfl ?_
      refine jo_iload 2 d_X12_begins_13 rfl rfl ?_
      refine jo_icmp_le 19 d_X12_begins_14 (by decide) ?_ ?_
      · skip
        refine jo_aload 0 d_X12_begins_19 rfl rfl ?_
        refine jo_iload 1 d_X12_begins_20 rfl rfl ?_
        refine jo_putI (k := 11) cl_12 (Nat.le_of_ble_eq_true rfl) lk_X12_117 rfl rfl kc_167 d_X12_begins_21 (fun M1 => ?_)
        refine jo_iconst 0 d_X12_begins_24 ?_
        refine jo_istore 3 d_X12_begins_25 rfl (Nat.le_of_ble_eq_true rfl) (fun y2 => ?_)
        exact jO.sub (t_X12_begins_L26 hs n n x1 y2 M1) (And.intro rfl (And.intro rfl (And.intro rfl True.intro)))
      · skip
        refine jo_iconst 0 d_X12_begins_17 ?_
        exact jo_zret rfl (by decide) d_X12_begins_18
theorem m_X12_begins {g : JG} {ad : Nat → Nat} (hs : jStr g ad) (n : Nat) (x1 : Int) (x2 : Int) (M : JMem) : jMet g jNN ad jR D_X12_begins yX12_begins [.ref 167, ji x1, ji x2] M (f_X12_begins n x1 x2 M) :=
  jMet.of (lo0 := [some (.ref 167), some (ji x1), some (ji x2), none]) (by decide) rfl rfl (Nat.le_of_ble_eq_true rfl) (And.intro rfl (And.intro rfl (And.intro rfl True.intro))) (t_X12_begins hs n x1 x2 M)
/-! CageLeaveModel.behindEnds(I)I -/
def D_X12_behindEnds : JD := (RX12, cX12_behindEnds, 5, some .int, "behindEnds", { frames := 0, cells := 0, slots := 0, locals := 0 })
theorem ok_X12_behindEnds : jOk D_X12_behindEnds yX12_behindEnds 1 := ⟨jTW_mem (k := 2076) (by decide +kernel) rfl, jTW_mem (k := 151) (by decide +kernel) rfl, ⟨by decide +kernel, by decide +kernel⟩, by decide +kernel, rfl, rfl⟩
theorem in_X12_behindEnds : Cond.instanceMethod yX12_behindEnds ∈ jTW := jTW_mem (k := 2075) (by decide +kernel) rfl
theorem se_X12_behindEnds : Cond.selects yX12_behindEnds.cls yX12_behindEnds yX12_behindEnds ∈ jTW := jTW_mem (k := 132) (by decide +kernel) rfl
theorem lk_X12_68 : Cond.fieldLink RX12 68 (TX12 34).1 (TX12 34).2.1 (TX12 34).2.2.1 ∈ jTW := jTW_mem (k := 1410) (by decide +kernel) rfl
theorem d_X12_behindEnds_0 : decode (D_X12_behindEnds).2.1 0 = .ok (.iload_n 1, 1) := by decide +kernel
theorem d_X12_behindEnds_1 : decode (D_X12_behindEnds).2.1 1 = .ok (.istore_n 2, 1) := by decide +kernel
theorem d_X12_behindEnds_2 : decode (D_X12_behindEnds).2.1 2 = .ok (.iload_n 2, 1) := by decide +kernel
theorem d_X12_behindEnds_3 : decode (D_X12_behindEnds).2.1 3 = .ok (.aload_n 0, 1) := by decide +kernel
theorem d_X12_behindEnds_4 : decode (D_X12_behindEnds).2.1 4 = .ok (.getfield 7, 3) := by decide +kernel
theorem d_X12_behindEnds_7 : decode (D_X12_behindEnds).2.1 7 = .ok (.bipush 7, 2) := by decide +kernel
theorem d_X12_behindEnds_9 : decode (D_X12_behindEnds).2.1 9 = .ok (.iaload, 1) := by decide +kernel
theorem d_X12_behindEnds_10 : decode (D_X12_behindEnds).2.1 10 = .ok (.if_icmp .ge 108, 3) := by decide +kernel
theorem d_X12_behindEnds_13 : decode (D_X12_behindEnds).2.1 13 = .ok (.aload_n 0, 1) := by decide +kernel
theorem d_X12_behindEnds_14 : decode (D_X12_behindEnds).2.1 14 = .ok (.getfield 7, 3) := by decide +kernel
theorem d_X12_behindEnds_17 : decode (D_X12_behindEnds).2.1 17 = .ok (.sipush 136, 3) := by decide +kernel
theorem d_X12_behindEnds_20 : decode (D_X12_behindEnds).2.1 20 = .ok (.bipush 6, 2) := by decide +kernel
theorem d_X12_behindEnds_22 : decode (D_X12_behindEnds).2.1 22 = .ok (.iload_n 2, 1) := by decide +kernel
theorem d_X12_behindEnds_23 : decode (D_X12_behindEnds).2.1 23 = .ok (.imul, 1) := by decide +kernel
theorem d_X12_behindEnds_24 : decode (D_X12_behindEnds).2.1 24 = .ok (.iadd, 1) := by decide +kernel
theorem d_X12_behindEnds_25 : decode (D_X12_behindEnds).2.1 25 = .ok (.iaload, 1) := by decide +kernel
theorem d_X12_behindEnds_26 : decode (D_X12_behindEnds).2.1 26 = .ok (.bipush 22, 2) := by decide +kernel
theorem d_X12_behindEnds_28 : decode (D_X12_behindEnds).2.1 28 = .ok (.if_icmp .ne 90, 3) := by decide +kernel
theorem d_X12_behindEnds_31 : decode (D_X12_behindEnds).2.1 31 = .ok (.aload_n 0, 1) := by decide +kernel
theorem d_X12_behindEnds_32 : decode (D_X12_behindEnds).2.1 32 = .ok (.getfield 7, 3) := by decide +kernel
theorem d_X12_behindEnds_35 : decode (D_X12_behindEnds).2.1 35 = .ok (.sipush 136, 3) := by decide +kernel
theorem d_X12_behindEnds_38 : decode (D_X12_behindEnds).2.1 38 = .ok (.bipush 6, 2) := by decide +kernel
theorem d_X12_behindEnds_40 : decode (D_X12_behindEnds).2.1 40 = .ok (.iload_n 2, 1) := by decide +kernel
theorem d_X12_behindEnds_41 : decode (D_X12_behindEnds).2.1 41 = .ok (.imul, 1) := by decide +kernel
theorem d_X12_behindEnds_42 : decode (D_X12_behindEnds).2.1 42 = .ok (.iadd, 1) := by decide +kernel
theorem d_X12_behindEnds_43 : decode (D_X12_behindEnds).2.1 43 = .ok (.iconst 4, 1) := by decide +kernel
theorem d_X12_behindEnds_44 : decode (D_X12_behindEnds).2.1 44 = .ok (.iadd, 1) := by decide +kernel
theorem d_X12_behindEnds_45 : decode (D_X12_behindEnds).2.1 45 = .ok (.iaload, 1) := by decide +kernel
theorem d_X12_behindEnds_46 : decode (D_X12_behindEnds).2.1 46 = .ok (.istore_n 3, 1) := by decide +kernel
theorem d_X12_behindEnds_47 : decode (D_X12_behindEnds).2.1 47 = .ok (.aload_n 0, 1) := by decide +kernel
theorem d_X12_behindEnds_48 : decode (D_X12_behindEnds).2.1 48 = .ok (.getfield 7, 3) := by decide +kernel
theorem d_X12_behindEnds_51 : decode (D_X12_behindEnds).2.1 51 = .ok (.sipush 136, 3) := by decide +kernel
theorem d_X12_behindEnds_54 : decode (D_X12_behindEnds).2.1 54 = .ok (.bipush 6, 2) := by decide +kernel
theorem d_X12_behindEnds_56 : decode (D_X12_behindEnds).2.1 56 = .ok (.iload_n 3, 1) := by decide +kernel
theorem d_X12_behindEnds_57 : decode (D_X12_behindEnds).2.1 57 = .ok (.imul, 1) := by decide +kernel
theorem d_X12_behindEnds_58 : decode (D_X12_behindEnds).2.1 58 = .ok (.iadd, 1) := by decide +kernel
theorem d_X12_behindEnds_59 : decode (D_X12_behindEnds).2.1 59 = .ok (.iaload, 1) := by decide +kernel
theorem d_X12_behindEnds_60 : decode (D_X12_behindEnds).2.1 60 = .ok (.bipush 21, 2) := by decide +kernel
theorem d_X12_behindEnds_62 : decode (D_X12_behindEnds).2.1 62 = .ok (.if_icmp .ne 16, 3) := by decide +kernel
theorem d_X12_behindEnds_65 : decode (D_X12_behindEnds).2.1 65 = .ok (.aload_n 0, 1) := by decide +kernel
theorem d_X12_behindEnds_66 : decode (D_X12_behindEnds).2.1 66 = .ok (.getfield 68, 3) := by decide +kernel
theorem d_X12_behindEnds_69 : decode (D_X12_behindEnds).2.1 69 = .ok (.iload_n 3, 1) := by decide +kernel
theorem d_X12_behindEnds_70 : decode (D_X12_behindEnds).2.1 70 = .ok (.iaload, 1) := by decide +kernel
theorem d_X12_behindEnds_71 : decode (D_X12_behindEnds).2.1 71 = .ok (.ifCond .le 7, 3) := by decide +kernel
theorem d_X12_behindEnds_74 : decode (D_X12_behindEnds).2.1 74 = .ok (.iconst 1, 1) := by decide +kernel
theorem d_X12_behindEnds_75 : decode (D_X12_behindEnds).2.1 75 = .ok (.goto 4, 3) := by decide +kernel
theorem d_X12_behindEnds_78 : decode (D_X12_behindEnds).2.1 78 = .ok (.iconst 0, 1) := by decide +kernel
theorem d_X12_behindEnds_79 : decode (D_X12_behindEnds).2.1 79 = .ok (.istore 4, 2) := by decide +kernel
theorem d_X12_behindEnds_81 : decode (D_X12_behindEnds).2.1 81 = .ok (.aload_n 0, 1) := by decide +kernel
theorem d_X12_behindEnds_82 : decode (D_X12_behindEnds).2.1 82 = .ok (.getfield 68, 3) := by decide +kernel
theorem d_X12_behindEnds_85 : decode (D_X12_behindEnds).2.1 85 = .ok (.iload_n 3, 1) := by decide +kernel
theorem d_X12_behindEnds_86 : decode (D_X12_behindEnds).2.1 86 = .ok (.dup2, 1) := by decide +kernel
theorem d_X12_behindEnds_87 : decode (D_X12_behindEnds).2.1 87 = .ok (.iaload, 1) := by decide +kernel
theorem d_X12_behindEnds_88 : decode (D_X12_behindEnds).2.1 88 = .ok (.iload 4, 2) := by decide +kernel
theorem d_X12_behindEnds_90 : decode (D_X12_behindEnds).2.1 90 = .ok (.ifCond .eq 7, 3) := by decide +kernel
theorem d_X12_behindEnds_93 : decode (D_X12_behindEnds).2.1 93 = .ok (.iconst 1, 1) := by decide +kernel
theorem d_X12_behindEnds_94 : decode (D_X12_behindEnds).2.1 94 = .ok (.goto 4, 3) := by decide +kernel
theorem d_X12_behindEnds_97 : decode (D_X12_behindEnds).2.1 97 = .ok (.iconst 0, 1) := by decide +kernel
theorem d_X12_behindEnds_98 : decode (D_X12_behindEnds).2.1 98 = .ok (.isub, 1) := by decide +kernel
theorem d_X12_behindEnds_99 : decode (D_X12_behindEnds).2.1 99 = .ok (.iastore, 1) := by decide +kernel
theorem d_X12_behindEnds_100 : decode (D_X12_behindEnds).2.1 100 = .ok (.iload 4, 2) := by decide +kernel
theorem d_X12_behindEnds_102 : decode (D_X12_behindEnds).2.1 102 = .ok (.ifCond .eq 9, 3) := by decide +kernel
theorem d_X12_behindEnds_105 : decode (D_X12_behindEnds).2.1 105 = .ok (.iload_n 3, 1) := by decide +kernel
theorem d_X12_behindEnds_106 : decode (D_X12_behindEnds).2.1 106 = .ok (.iconst 1, 1) := by decide +kernel
theorem d_X12_behindEnds_107 : decode (D_X12_behindEnds).2.1 107 = .ok (.iadd, 1) := by decide +kernel
theorem d_X12_behindEnds_108 : decode (D_X12_behindEnds).2.1 108 = .ok (.goto 6, 3) := by decide +kernel
theorem d_X12_behindEnds_111 : decode (D_X12_behindEnds).2.1 111 = .ok (.iload_n 2, 1) := by decide +kernel
theorem d_X12_behindEnds_112 : decode (D_X12_behindEnds).2.1 112 = .ok (.iconst 1, 1) := by decide +kernel
theorem d_X12_behindEnds_113 : decode (D_X12_behindEnds).2.1 113 = .ok (.iadd, 1) := by decide +kernel
theorem d_X12_behindEnds_114 : decode (D_X12_behindEnds).2.1 114 = .ok (.istore_n 2, 1) := by decide +kernel
theorem d_X12_behindEnds_115 : decode (D_X12_behindEnds).2.1 115 = .ok (.goto (-113), 3) := by decide +kernel
theorem d_X12_behindEnds_118 : decode (D_X12_behindEnds).2.1 118 = .ok (.iload_n 2, 1) := by decide +kernel
theorem d_X12_behindEnds_119 : decode (D_X12_behindEnds).2.1 119 = .ok (.ireturn, 1) := by decide +kernel
def f_X12_behindEnds_L114 (n : Nat) (r2 : Int → JMem → Option (Int × JMem)) (w0 : Int) (M : JMem) : Option (Int × JMem) := letv w0 fun y1 => r2 y1 M
set_option maxRecDepth 4000 in
theorem t_X12_behindEnds_L114 {g : JG} {ad : Nat → Nat} (hs : jStr g ad) (n : Nat) (r2 : Int → JMem → Option (Int × JMem)) (hr2 : ∀ (v2 : Int) (M : JMem), jB g D_X12_behindEnds ad 2 [some (.ref 167), none, some (ji v2), none, none] [] M (r2 v2 M)) (w0 : Int) (M : JMem) : jB g D_X12_behindEnds ad 114 [some (.ref 167), none, none, none, none] [ji w0] M (f_X12_behindEnds_L114 n r2 w0 M) := by
  unfold f_X12_behindEnds_L114
  refine jo_istore 2 d_X12_behindEnds_114 rfl (Nat.le_of_ble_eq_true rfl) (fun y1 => ?_)
  refine jo_goto 2 d_X12_behindEnds_115 (by decide) ?_
  exact jO.sub (hr2 y1 M) (And.intro rfl (And.intro rfl True.intro))
def f_X12_behindEnds_L98 (n : Nat) (r2 : Int → JMem → Option (Int × JMem)) (v2 v3 v4 w1 w2 w3 : Int) (M : JMem) : Option (Int × JMem) := chk (jin w1 80) <| letm (jup M 183 (jw w1).toNat (w2 - w3)) fun M1 => if jw v4 = 0 then (f_X12_behindEnds_L114 n r2 (v2 + 1) M1) else (f_X12_behindEnds_L114 n r2 (v3 + 1) M1)
set_option maxRecDepth 4000 in
theorem t_X12_behindEnds_L98 {g : JG} {ad : Nat → Nat} (hs : jStr g ad) (n : Nat) (r2 : Int → JMem → Option (Int × JMem)) (hr2 : ∀ (v2 : Int) (M : JMem), jB g D_X12_behindEnds ad 2 [some (.ref 167), none, some (ji v2), none, none] [] M (r2 v2 M)) (v2 v3 v4 w1 w2 w3 : Int) (M : JMem) : jB g D_X12_behindEnds ad 98 [some (.ref 167), none, some (ji v2), some (ji v3), some (ji v4)] [ji w3, ji w2, ji w1, .ref 183] M (f_X12_behindEnds_L98 n r2 v2 v3 v4 w1 w2 w3 M) := by
  unfold f_X12_behindEnds_L98
  refine jo_isub d_X12_behindEnds_98 ?_
  refine jo_iast (N := 80) kc_183 d_X12_behindEnds_99 (fun M1 => ?_)
  refine jo_iloadW 4 d_X12_behindEnds_100 rfl ?_
  refine jo_if_eq 111 d_X12_behindEnds_102 (by decide) ?_ ?_
  · skip
    refine jo_iload 2 d_X12_behindEnds_111 rfl rfl ?_
    refine jo_iconst 1 d_X12_behindEnds_112 ?_
    refine jo_iadd d_X12_behindEnds_113 ?_
    exact jO.sub (t_X12_behindEnds_L114 hs n r2 hr2 (v2 + 1) M1) (And.intro rfl True.intro)
  · skip
    refine jo_iload 3 d_X12_behindEnds_105 rfl rfl ?_
    refine jo_iconst 1 d_X12_behindEnds_106 ?_
    refine jo_iadd d_X12_behindEnds_107 ?_
    refine jo_goto 114 d_X12_behindEnds_108 (by decide) ?_
    exact jO.sub (t_X12_behindEnds_L114 hs n r2 hr2 (v3 + 1) M1) (And.intro rfl True.intro)
def f_X12_behindEnds_L79 (n : Nat) (r2 : Int → JMem → Option (Int × JMem)) (v2 v3 w0 : Int) (M : JMem) : Option (Int × JMem) := letv w0 fun y1 => chk (jin v3 80) <| if jw y1 = 0 then (f_X12_behindEnds_L98 n r2 v2 v3 y1 v3 (M 183 (jw v3).toNat) 0 M) else (f_X12_behindEnds_L98 n r2 v2 v3 y1 v3 (M 183 (jw v3).toNat) 1 M)
set_option maxRecDepth 4000 in
theorem t_X12_behindEnds_L79 {g : JG} {ad : Nat → Nat} (hs : jStr g ad) (n : Nat) (r2 : Int → JMem → Option (Int × JMem)) (hr2 : ∀ (v2 : Int) (M : JMem), jB g D_X12_behindEnds ad 2 [some (.ref 167), none, some (ji v2), none, none] [] M (r2 v2 M)) (v2 v3 w0 : Int) (M : JMem) : jB g D_X12_behindEnds ad 79 [some (.ref 167), none, some (ji v2), some (ji v3), none] [ji w0] M (f_X12_behindEnds_L79 n r2 v2 v3 w0 M) := by
  unfold f_X12_behindEnds_L79
  refine jo_istoreW 4 d_X12_behindEnds_79 (Nat.le_of_ble_eq_true rfl) (fun y1 => ?_)
  refine jo_aload 0 d_X12_behindEnds_81 rfl rfl ?_
  refine jo_getR (k := 34) cl_12 (Nat.le_of_ble_eq_true rfl) lk_X12_68 rfl kc_167 kr_167_34 d_X12_behindEnds_82 ?_
  refine jo_iload 3 d_X12_behindEnds_85 rfl rfl ?_
  refine jo_dup2 d_X12_behindEnds_86 rfl rfl ?_
  refine jo_iald (N := 80) kc_183 d_X12_behindEnds_87 ?_
  refine jo_iloadW 4 d_X12_behindEnds_88 rfl ?_
  refine jo_if_eq 97 d_X12_behindEnds_90 (by decide) ?_ ?_
  · skip
    refine jo_iconst 0 d_X12_behindEnds_97 ?_
    exact jO.sub (t_X12_behindEnds_L98 hs n r2 hr2 v2 v3 y1 v3 (M 183 (jw v3).toNat) 0 M) (And.intro rfl (And.intro rfl (And.intro rfl (And.intro rfl True.intro))))
  · skip
    refine jo_iconst 1 d_X12_behindEnds_93 ?_
    refine jo_goto 98 d_X12_behindEnds_94 (by decide) ?_
    exact jO.sub (t_X12_behindEnds_L98 hs n r2 hr2 v2 v3 y1 v3 (M 183 (jw v3).toNat) 1 M) (And.intro rfl (And.intro rfl (And.intro rfl (And.intro rfl True.intro))))
def f_X12_behindEnds_L78 (n : Nat) (r2 : Int → JMem → Option (Int × JMem)) (v2 v3 : Int) (M : JMem) : Option (Int × JMem) := f_X12_behindEnds_L79 n r2 v2 v3 0 M
set_option maxRecDepth 4000 in
theorem t_X12_behindEnds_L78 {g : JG} {ad : Nat → Nat} (hs : jStr g ad) (n : Nat) (r2 : Int → JMem → Option (Int × JMem)) (hr2 : ∀ (v2 : Int) (M : JMem), jB g D_X12_behindEnds ad 2 [some (.ref 167), none, some (ji v2), none, none] [] M (r2 v2 M)) (v2 v3 : Int) (M : JMem) : jB g D_X12_behindEnds ad 78 [some (.ref 167), none, some (ji v2), some (ji v3), none] [] M (f_X12_behindEnds_L78 n r2 v2 v3 M) := by
  unfold f_X12_behindEnds_L78
  refine jo_iconst 0 d_X12_behindEnds_78 ?_
  exact jO.sub (t_X12_behindEnds_L79 hs n r2 hr2 v2 v3 0 M) (And.intro rfl (And.intro rfl (And.intro rfl True.intro)))
def f_X12_behindEnds_L2 (n : Nat) : Nat → Int → JMem → Option (Int × JMem)
  | 0, _, _ => none
  | k + 1, v2, M => chk (jin 7 3160) <| if jw (M 168 (jw 7).toNat) ≤ jw v2 then (some (v2, M)) else (chk (jin (136 + (6 * v2)) 3160) <| if jw (M 168 (jw (136 + (6 * v2))).toNat) = jw 22 then (chk (jin ((136 + (6 * v2)) + 4) 3160) <| letv (M 168 (jw ((136 + (6 * v2)) + 4)).toNat) fun y1 => chk (jin (136 + (6 * y1)) 3160) <| if jw (M 168 (jw (136 + (6 * y1))).toNat) = jw 21 then (chk (jin y1 80) <| if jw (M 183 (jw y1).toNat) ≤ 0 then (f_X12_behindEnds_L78 n (f_X12_behindEnds_L2 n k) v2 y1 M) else (f_X12_behindEnds_L79 n (f_X12_behindEnds_L2 n k) v2 y1 1 M)) else (f_X12_behindEnds_L78 n (f_X12_behindEnds_L2 n k) v2 y1 M)) else (some (v2, M)))
set_option maxRecDepth 4000 in
theorem t_X12_behindEnds_L2 {g : JG} {ad : Nat → Nat} (hs : jStr g ad) (n : Nat) : ∀ (k : Nat) (v2 : Int) (M : JMem), jB g D_X12_behindEnds ad 2 [some (.ref 167), none, some (ji v2), none, none] [] M (f_X12_behindEnds_L2 n k v2 M) := by
  intro k
  induction k with
  | zero => intro v2 M; exact jO.none
  | succ k ih =>
    intro v2 M
    rw [f_X12_behindEnds_L2]
    refine jo_iload 2 d_X12_behindEnds_2 rfl rfl ?_
    refine jo_aload 0 d_X12_behindEnds_3 rfl rfl ?_
    refine jo_getR (k := 0) cl_12 (Nat.le_of_ble_eq_true rfl) lk_X12_7 rfl kc_167 kr_167_0 d_X12_behindEnds_4 ?_
    refine jo_bipush 7 d_X12_behindEnds_7 (by decide) ?_
    refine jo_iald (N := 3160) kc_168 d_X12_behindEnds_9 ?_
    refine jo_icmp_ge 118 d_X12_behindEnds_10 (by decide) ?_ ?_
    · skip
      refine jo_iload 2 d_X12_behindEnds_118 rfl rfl ?_
      exact jo_iret rfl d_X12_behindEnds_119
    · skip
      refine jo_aload 0 d_X12_behindEnds_13 rfl rfl ?_
      refine jo_getR (k := 0) cl_12 (Nat.le_of_ble_eq_true rfl) lk_X12_7 rfl kc_167 kr_167_0 d_X12_behindEnds_14 ?_
      refine jo_sipush 136 d_X12_behindEnds_17 (by decide) ?_
      refine jo_bipush 6 d_X12_behindEnds_20 (by decide) ?_
      refine jo_iload 2 d_X12_behindEnds_22 rfl rfl ?_
      refine jo_imul d_X12_behindEnds_23 ?_
      refine jo_iadd d_X12_behindEnds_24 ?_
      refine jo_iald (N := 3160) kc_168 d_X12_behindEnds_25 ?_
      refine jo_bipush 22 d_X12_behindEnds_26 (by decide) ?_
      refine jo_icmp_ne 118 d_X12_behindEnds_28 (by decide) ?_ ?_
      · skip
        refine jo_iload 2 d_X12_behindEnds_118 rfl rfl ?_
        exact jo_iret rfl d_X12_behindEnds_119
      · skip
        refine jo_aload 0 d_X12_behindEnds_31 rfl rfl ?_
        refine jo_getR (k := 0) cl_12 (Nat.le_of_ble_eq_true rfl) lk_X12_7 rfl kc_167 kr_167_0 d_X12_behindEnds_32 ?_
        refine jo_sipush 136 d_X12_behindEnds_35 (by decide) ?_
        refine jo_bipush 6 d_X12_behindEnds_38 (by decide) ?_
        refine jo_iload 2 d_X12_behindEnds_40 rfl rfl ?_
        refine jo_imul d_X12_behindEnds_41 ?_
        refine jo_iadd d_X12_behindEnds_42 ?_
        refine jo_iconst 4 d_X12_behindEnds_43 ?_
        refine jo_iadd d_X12_behindEnds_44 ?_
        refine jo_iald (N := 3160) kc_168 d_X12_behindEnds_45 ?_
        refine jo_istore 3 d_X12_behindEnds_46 rfl (Nat.le_of_ble_eq_true rfl) (fun y1 => ?_)
        refine jo_aload 0 d_X12_behindEnds_47 rfl rfl ?_
        refine jo_getR (k := 0) cl_12 (Nat.le_of_ble_eq_true rfl) lk_X12_7 rfl kc_167 kr_167_0 d_X12_behindEnds_48 ?_
        refine jo_sipush 136 d_X12_behindEnds_51 (by decide) ?_
        refine jo_bipush 6 d_X12_behindEnds_54 (by decide) ?_
        refine jo_iload 3 d_X12_behindEnds_56 rfl rfl ?_
        refine jo_imul d_X12_behindEnds_57 ?_
        refine jo_iadd d_X12_behindEnds_58 ?_
        refine jo_iald (N := 3160) kc_168 d_X12_behindEnds_59 ?_
        refine jo_bipush 21 d_X12_behindEnds_60 (by decide) ?_
        refine jo_icmp_ne 78 d_X12_behindEnds_62 (by decide) ?_ ?_
        · skip
          exact jO.sub (t_X12_behindEnds_L78 hs n (f_X12_behindEnds_L2 n k) ih v2 y1 M) (And.intro rfl (And.intro rfl (And.intro rfl True.intro)))
        · skip
          refine jo_aload 0 d_X12_behindEnds_65 rfl rfl ?_
          refine jo_getR (k := 34) cl_12 (Nat.le_of_ble_eq_true rfl) lk_X12_68 rfl kc_167 kr_167_34 d_X12_behindEnds_66 ?_
          refine jo_iload 3 d_X12_behindEnds_69 rfl rfl ?_
          refine jo_iald (N := 80) kc_183 d_X12_behindEnds_70 ?_
          refine jo_if_le 78 d_X12_behindEnds_71 (by decide) ?_ ?_
          · skip
            exact jO.sub (t_X12_behindEnds_L78 hs n (f_X12_behindEnds_L2 n k) ih v2 y1 M) (And.intro rfl (And.intro rfl (And.intro rfl True.intro)))
          · skip
            refine jo_iconst 1 d_X12_behindEnds_74 ?_
            refine jo_goto 79 d_X12_behindEnds_75 (by decide) ?_
            exact jO.sub (t_X12_behindEnds_L79 hs n (f_X12_behindEnds_L2 n k) ih v2 y1 1 M) (And.intro rfl (And.intro rfl (And.intro rfl True.intro)))
def f_X12_behindEnds (n : Nat) (x1 : Int) (M : JMem) : Option (Int × JMem) := letv x1 fun y1 => f_X12_behindEnds_L2 n n y1 M
set_option maxRecDepth 4000 in
theorem t_X12_behindEnds {g : JG} {ad : Nat → Nat} (hs : jStr g ad) (n : Nat) (x1 : Int) (M : JMem) : jB g D_X12_behindEnds ad 0 [some (.ref 167), some (ji x1), none, none, none] [] M (f_X12_behindEnds n x1 M) := by
  unfold f_X12_behindEnds
  refine jo_iload 1 d_X12_behindEnds_0 rfl rfl ?_
  refine jo_istore 2 d_X12_behindEnds_1 rfl (Nat.le_of_ble_eq_true rfl) (fun y1 => ?_)
  exact jO.sub (t_X12_behindEnds_L2 hs n n y1 M) (And.intro rfl (And.intro rfl True.intro))
theorem m_X12_behindEnds {g : JG} {ad : Nat → Nat} (hs : jStr g ad) (n : Nat) (x1 : Int) (M : JMem) : jMet g jNN ad jR D_X12_behindEnds yX12_behindEnds [.ref 167, ji x1] M (f_X12_behindEnds n x1 M) :=
  jMet.of (lo0 := [some (.ref 167), some (ji x1), none, none, none]) (by decide) rfl rfl (Nat.le_of_ble_eq_true rfl) (And.intro rfl (And.intro rfl True.intro)) (t_X12_behindEnds hs n x1 M)
/-! CageLeaveModel.bits(I)I -/
def D_X12_bits : JD := (RX12, cX12_bits, 3, some .int, "bits", { frames := 0, cells := 0, slots := 0, locals := 0 })
theorem ok_X12_bits : jOk D_X12_bits yX12_bits 1 := ⟨jTW_mem (k := 1824) (by decide +kernel) rfl, jTW_mem (k := 151) (by decide +kernel) rfl, ⟨by decide +kernel, by decide +kernel⟩, by decide +kernel, rfl, rfl⟩
theorem st_X12_bits : Cond.static yX12_bits ∈ jTW := jTW_mem (k := 1823) (by decide +kernel) rfl
theorem d_X12_bits_0 : decode (D_X12_bits).2.1 0 = .ok (.iconst 0, 1) := by decide +kernel
theorem d_X12_bits_1 : decode (D_X12_bits).2.1 1 = .ok (.istore_n 1, 1) := by decide +kernel
theorem d_X12_bits_2 : decode (D_X12_bits).2.1 2 = .ok (.iload_n 0, 1) := by decide +kernel
theorem d_X12_bits_3 : decode (D_X12_bits).2.1 3 = .ok (.istore_n 2, 1) := by decide +kernel
theorem d_X12_bits_4 : decode (D_X12_bits).2.1 4 = .ok (.iload_n 2, 1) := by decide +kernel
theorem d_X12_bits_5 : decode (D_X12_bits).2.1 5 = .ok (.ifCond .eq 15, 3) := by decide +kernel
theorem d_X12_bits_8 : decode (D_X12_bits).2.1 8 = .ok (.iinc 1 1, 3) := by decide +kernel
theorem d_X12_bits_11 : decode (D_X12_bits).2.1 11 = .ok (.iload_n 2, 1) := by decide +kernel
theorem d_X12_bits_12 : decode (D_X12_bits).2.1 12 = .ok (.iload_n 2, 1) := by decide +kernel
theorem d_X12_bits_13 : decode (D_X12_bits).2.1 13 = .ok (.iconst 1, 1) := by decide +kernel
theorem d_X12_bits_14 : decode (D_X12_bits).2.1 14 = .ok (.isub, 1) := by decide +kernel
theorem d_X12_bits_15 : decode (D_X12_bits).2.1 15 = .ok (.iand, 1) := by decide +kernel
theorem d_X12_bits_16 : decode (D_X12_bits).2.1 16 = .ok (.istore_n 2, 1) := by decide +kernel
theorem d_X12_bits_17 : decode (D_X12_bits).2.1 17 = .ok (.goto (-13), 3) := by decide +kernel
theorem d_X12_bits_20 : decode (D_X12_bits).2.1 20 = .ok (.iload_n 1, 1) := by decide +kernel
theorem d_X12_bits_21 : decode (D_X12_bits).2.1 21 = .ok (.ireturn, 1) := by decide +kernel
def f_X12_bits_L4 (n : Nat) : Nat → Int → Int → JMem → Option (Int × JMem)
  | 0, _, _, _ => none
  | k + 1, v1, v2, M => if jw v2 = 0 then (some (v1, M)) else (letv (v1 + 1) fun y1 => letv (jand v2 (v2 - 1)) fun y2 => (f_X12_bits_L4 n k) y1 y2 M)
set_option maxRecDepth 4000 in
theorem t_X12_bits_L4 {g : JG} {ad : Nat → Nat} (hs : jStr g ad) (n : Nat) : ∀ (k : Nat) (v1 v2 : Int) (M : JMem), jB g D_X12_bits ad 4 [none, some (ji v1), some (ji v2)] [] M (f_X12_bits_L4 n k v1 v2 M) := by
  intro k
  induction k with
  | zero => intro v1 v2 M; exact jO.none
  | succ k ih =>
    intro v1 v2 M
    rw [f_X12_bits_L4]
    refine jo_iload 2 d_X12_bits_4 rfl rfl ?_
    refine jo_if_eq 20 d_X12_bits_5 (by decide) ?_ ?_
    · skip
      refine jo_iload 1 d_X12_bits_20 rfl rfl ?_
      exact jo_iret rfl d_X12_bits_21
    · skip
      refine jo_iinc 1 d_X12_bits_8 rfl (Nat.le_of_ble_eq_true rfl) (fun y1 => ?_)
      refine jo_iload 2 d_X12_bits_11 rfl rfl ?_
      refine jo_iload 2 d_X12_bits_12 rfl rfl ?_
      refine jo_iconst 1 d_X12_bits_13 ?_
      refine jo_isub d_X12_bits_14 ?_
      refine jo_iand d_X12_bits_15 ?_
      refine jo_istore 2 d_X12_bits_16 rfl (Nat.le_of_ble_eq_true rfl) (fun y2 => ?_)
      refine jo_goto 4 d_X12_bits_17 (by decide) ?_
      exact jO.sub (ih y1 y2 M) (And.intro rfl (And.intro rfl True.intro))
def f_X12_bits (n : Nat) (x0 : Int) (M : JMem) : Option (Int × JMem) := letv 0 fun y1 => letv x0 fun y2 => f_X12_bits_L4 n n y1 y2 M
set_option maxRecDepth 4000 in
theorem t_X12_bits {g : JG} {ad : Nat → Nat} (hs : jStr g ad) (n : Nat) (x0 : Int) (M : JMem) : jB g D_X12_bits ad 0 [some (ji x0), none, none] [] M (f_X12_bits n x0 M) := by
  unfold f_X12_bits
  refine jo_iconst 0 d_X12_bits_0 ?_
  refine jo_istore 1 d_X12_bits_1 rfl (Nat.le_of_ble_eq_true rfl) (fun y1 => ?_)
  refine jo_iload 0 d_X12_bits_2 rfl rfl ?_
  refine jo_istore 2 d_X12_bits_3 rfl (Nat.le_of_ble_eq_true rfl) (fun y2 => ?_)
  exact jO.sub (t_X12_bits_L4 hs n n y1 y2 M) (And.intro rfl (And.intro rfl True.intro))
theorem m_X12_bits {g : JG} {ad : Nat → Nat} (hs : jStr g ad) (n : Nat) (x0 : Int) (M : JMem) : jMet g jNN ad jR D_X12_bits yX12_bits [ji x0] M (f_X12_bits n x0 M) :=
  jMet.of (lo0 := [some (ji x0), none, none]) (by decide) rfl rfl (Nat.le_of_ble_eq_true rfl) (And.intro rfl True.intro) (t_X12_bits hs n x0 M)
/-! CageLeaveModel.bottom()J -/
def D_X12_bottom : JD := (RX12, cX12_bottom, 1, some .long, "bottom", { frames := 0, cells := 0, slots := 0, locals := 0 })
theorem ok_X12_bottom : jOk D_X12_bottom yX12_bottom 0 := ⟨jTW_mem (k := 1505) (by decide +kernel) rfl, jTW_mem (k := 151) (by decide +kernel) rfl, ⟨by decide +kernel, by decide +kernel⟩, by decide +kernel, rfl, rfl⟩
theorem in_X12_bottom : Cond.instanceMethod yX12_bottom ∈ jTW := jTW_mem (k := 1503) (by decide +kernel) rfl
theorem se_X12_bottom : Cond.selects yX12_bottom.cls yX12_bottom yX12_bottom ∈ jTW := jTW_mem (k := 1504) (by decide +kernel) rfl
theorem d_X12_bottom_0 : decode (D_X12_bottom).2.1 0 = .ok (.aload_n 0, 1) := by decide +kernel
theorem d_X12_bottom_1 : decode (D_X12_bottom).2.1 1 = .ok (.getfield 17, 3) := by decide +kernel
theorem d_X12_bottom_4 : decode (D_X12_bottom).2.1 4 = .ok (.lreturn, 1) := by decide +kernel
def f_X12_bottom (n : Nat) (M : JMem) : Option (Int × JMem) := some ((M 167 4), M)
set_option maxRecDepth 4000 in
theorem t_X12_bottom {g : JG} {ad : Nat → Nat} (hs : jStr g ad) (n : Nat) (M : JMem) : jB g D_X12_bottom ad 0 [some (.ref 167)] [] M (f_X12_bottom n M) := by
  unfold f_X12_bottom
  refine jo_aload 0 d_X12_bottom_0 rfl rfl ?_
  refine jo_getL (k := 4) cl_12 (Nat.le_of_ble_eq_true rfl) lk_X12_17 rfl kc_167 d_X12_bottom_1 ?_
  exact jo_lret rfl d_X12_bottom_4
theorem m_X12_bottom {g : JG} {ad : Nat → Nat} (hs : jStr g ad) (n : Nat) (M : JMem) : jMet g jNN ad jR D_X12_bottom yX12_bottom [.ref 167] M (f_X12_bottom n M) :=
  jMet.of (lo0 := [some (.ref 167)]) (by decide) rfl rfl (Nat.le_of_ble_eq_true rfl) (And.intro rfl True.intro) (t_X12_bottom hs n M)
/-! CageLeaveModel.copies(II)V -/
def D_X12_copies : JD := (RX12, cX12_copies, 4, none, "copies", { frames := 0, cells := 0, slots := 0, locals := 0 })
theorem ok_X12_copies : jOk D_X12_copies yX12_copies 2 := ⟨jTW_mem (k := 2092) (by decide +kernel) rfl, jTW_mem (k := 151) (by decide +kernel) rfl, ⟨by decide +kernel, by decide +kernel⟩, by decide +kernel, rfl, rfl⟩
theorem in_X12_copies : Cond.instanceMethod yX12_copies ∈ jTW := jTW_mem (k := 2091) (by decide +kernel) rfl
theorem se_X12_copies : Cond.selects yX12_copies.cls yX12_copies yX12_copies ∈ jTW := jTW_mem (k := 133) (by decide +kernel) rfl
theorem d_X12_copies_0 : decode (D_X12_copies).2.1 0 = .ok (.iconst 0, 1) := by decide +kernel
theorem d_X12_copies_1 : decode (D_X12_copies).2.1 1 = .ok (.istore_n 3, 1) := by decide +kernel
theorem d_X12_copies_2 : decode (D_X12_copies).2.1 2 = .ok (.iload_n 3, 1) := by decide +kernel
theorem d_X12_copies_3 : decode (D_X12_copies).2.1 3 = .ok (.sipush 504, 3) := by decide +kernel
theorem d_X12_copies_6 : decode (D_X12_copies).2.1 6 = .ok (.if_icmp .ge 33, 3) := by decide +kernel
theorem d_X12_copies_9 : decode (D_X12_copies).2.1 9 = .ok (.aload_n 0, 1) := by decide +kernel
theorem d_X12_copies_10 : decode (D_X12_copies).2.1 10 = .ok (.getfield 7, 3) := by decide +kernel
theorem d_X12_copies_13 : decode (D_X12_copies).2.1 13 = .ok (.sipush 504, 3) := by decide +kernel
theorem d_X12_copies_16 : decode (D_X12_copies).2.1 16 = .ok (.iload_n 2, 1) := by decide +kernel
theorem d_X12_copies_17 : decode (D_X12_copies).2.1 17 = .ok (.imul, 1) := by decide +kernel
theorem d_X12_copies_18 : decode (D_X12_copies).2.1 18 = .ok (.iload_n 3, 1) := by decide +kernel
theorem d_X12_copies_19 : decode (D_X12_copies).2.1 19 = .ok (.iadd, 1) := by decide +kernel
theorem d_X12_copies_20 : decode (D_X12_copies).2.1 20 = .ok (.aload_n 0, 1) := by decide +kernel
theorem d_X12_copies_21 : decode (D_X12_copies).2.1 21 = .ok (.getfield 7, 3) := by decide +kernel
theorem d_X12_copies_24 : decode (D_X12_copies).2.1 24 = .ok (.sipush 504, 3) := by decide +kernel
theorem d_X12_copies_27 : decode (D_X12_copies).2.1 27 = .ok (.iload_n 1, 1) := by decide +kernel
theorem d_X12_copies_28 : decode (D_X12_copies).2.1 28 = .ok (.imul, 1) := by decide +kernel
theorem d_X12_copies_29 : decode (D_X12_copies).2.1 29 = .ok (.iload_n 3, 1) := by decide +kernel
theorem d_X12_copies_30 : decode (D_X12_copies).2.1 30 = .ok (.iadd, 1) := by decide +kernel
theorem d_X12_copies_31 : decode (D_X12_copies).2.1 31 = .ok (.iaload, 1) := by decide +kernel
theorem d_X12_copies_32 : decode (D_X12_copies).2.1 32 = .ok (.iastore, 1) := by decide +kernel
theorem d_X12_copies_33 : decode (D_X12_copies).2.1 33 = .ok (.iinc 3 1, 3) := by decide +kernel
theorem d_X12_copies_36 : decode (D_X12_copies).2.1 36 = .ok (.goto (-34), 3) := by decide +kernel
theorem d_X12_copies_39 : decode (D_X12_copies).2.1 39 = .ok (.iconst 0, 1) := by decide +kernel
theorem d_X12_copies_40 : decode (D_X12_copies).2.1 40 = .ok (.istore_n 3, 1) := by decide +kernel
theorem d_X12_copies_41 : decode (D_X12_copies).2.1 41 = .ok (.iload_n 3, 1) := by decide +kernel
theorem d_X12_copies_42 : decode (D_X12_copies).2.1 42 = .ok (.bipush 22, 2) := by decide +kernel
theorem d_X12_copies_44 : decode (D_X12_copies).2.1 44 = .ok (.if_icmp .ge 31, 3) := by decide +kernel
theorem d_X12_copies_47 : decode (D_X12_copies).2.1 47 = .ok (.aload_n 0, 1) := by decide +kernel
theorem d_X12_copies_48 : decode (D_X12_copies).2.1 48 = .ok (.getfield 13, 3) := by decide +kernel
theorem d_X12_copies_51 : decode (D_X12_copies).2.1 51 = .ok (.bipush 22, 2) := by decide +kernel
theorem d_X12_copies_53 : decode (D_X12_copies).2.1 53 = .ok (.iload_n 2, 1) := by decide +kernel
theorem d_X12_copies_54 : decode (D_X12_copies).2.1 54 = .ok (.imul, 1) := by decide +kernel
theorem d_X12_copies_55 : decode (D_X12_copies).2.1 55 = .ok (.iload_n 3, 1) := by decide +kernel
theorem d_X12_copies_56 : decode (D_X12_copies).2.1 56 = .ok (.iadd, 1) := by decide +kernel
theorem d_X12_copies_57 : decode (D_X12_copies).2.1 57 = .ok (.aload_n 0, 1) := by decide +kernel
theorem d_X12_copies_58 : decode (D_X12_copies).2.1 58 = .ok (.getfield 13, 3) := by decide +kernel
theorem d_X12_copies_61 : decode (D_X12_copies).2.1 61 = .ok (.bipush 22, 2) := by decide +kernel
theorem d_X12_copies_63 : decode (D_X12_copies).2.1 63 = .ok (.iload_n 1, 1) := by decide +kernel
theorem d_X12_copies_64 : decode (D_X12_copies).2.1 64 = .ok (.imul, 1) := by decide +kernel
theorem d_X12_copies_65 : decode (D_X12_copies).2.1 65 = .ok (.iload_n 3, 1) := by decide +kernel
theorem d_X12_copies_66 : decode (D_X12_copies).2.1 66 = .ok (.iadd, 1) := by decide +kernel
theorem d_X12_copies_67 : decode (D_X12_copies).2.1 67 = .ok (.laload, 1) := by decide +kernel
theorem d_X12_copies_68 : decode (D_X12_copies).2.1 68 = .ok (.lastore, 1) := by decide +kernel
theorem d_X12_copies_69 : decode (D_X12_copies).2.1 69 = .ok (.iinc 3 1, 3) := by decide +kernel
theorem d_X12_copies_72 : decode (D_X12_copies).2.1 72 = .ok (.goto (-31), 3) := by decide +kernel
theorem d_X12_copies_75 : decode (D_X12_copies).2.1 75 = .ok (.return_, 1) := by decide +kernel
def f_X12_copies_L41 (n : Nat) : Nat → Int → Int → Int → JMem → Option (Int × JMem)
  | 0, _, _, _, _ => none
  | k + 1, v1, v2, v3, M => if jw 22 ≤ jw v3 then (some (0, M)) else (chk (jin ((22 * v1) + v3) 132) <| chk (jin ((22 * v2) + v3) 132) <| letm (jup M 169 (jw ((22 * v2) + v3)).toNat (M 169 (jw ((22 * v1) + v3)).toNat)) fun M1 => letv (v3 + 1) fun y2 => (f_X12_copies_L41 n k) v1 v2 y2 M1)
set_option maxRecDepth 4000 in
theorem t_X12_copies_L41 {g : JG} {ad : Nat → Nat} (hs : jStr g ad) (n : Nat) : ∀ (k : Nat) (v1 v2 v3 : Int) (M : JMem), jB g D_X12_copies ad 41 [some (.ref 167), some (ji v1), some (ji v2), some (ji v3)] [] M (f_X12_copies_L41 n k v1 v2 v3 M) := by
  intro k
  induction k with
  | zero => intro v1 v2 v3 M; exact jO.none
  | succ k ih =>
    intro v1 v2 v3 M
    rw [f_X12_copies_L41]
    refine jo_iload 3 d_X12_copies_41 rfl rfl ?_
    refine jo_bipush 22 d_X12_copies_42 (by decide) ?_
    refine jo_icmp_ge 75 d_X12_copies_44 (by decide) ?_ ?_
    · skip
      exact jo_vret rfl d_X12_copies_75
    · skip
      refine jo_aload 0 d_X12_copies_47 rfl rfl ?_
      refine jo_getR (k := 1) cl_12 (Nat.le_of_ble_eq_true rfl) lk_X12_13 rfl kc_167 kr_167_1 d_X12_copies_48 ?_
      refine jo_bipush 22 d_X12_copies_51 (by decide) ?_
      refine jo_iload 2 d_X12_copies_53 rfl rfl ?_
      refine jo_imul d_X12_copies_54 ?_
      refine jo_iload 3 d_X12_copies_55 rfl rfl ?_
      refine jo_iadd d_X12_copies_56 ?_
      refine jo_aload 0 d_X12_copies_57 rfl rfl ?_
      refine jo_getR (k := 1) cl_12 (Nat.le_of_ble_eq_true rfl) lk_X12_13 rfl kc_167 kr_167_1 d_X12_copies_58 ?_
      refine jo_bipush 22 d_X12_copies_61 (by decide) ?_
      refine jo_iload 1 d_X12_copies_63 rfl rfl ?_
      refine jo_imul d_X12_copies_64 ?_
      refine jo_iload 3 d_X12_copies_65 rfl rfl ?_
      refine jo_iadd d_X12_copies_66 ?_
      refine jo_lald (N := 132) kc_169 d_X12_copies_67 ?_
      refine jo_last (N := 132) kc_169 d_X12_copies_68 (fun M1 => ?_)
      refine jo_iinc 3 d_X12_copies_69 rfl (Nat.le_of_ble_eq_true rfl) (fun y2 => ?_)
      refine jo_goto 41 d_X12_copies_72 (by decide) ?_
      exact jO.sub (ih v1 v2 y2 M1) (And.intro rfl (And.intro rfl (And.intro rfl (And.intro rfl True.intro))))
def f_X12_copies_L39 (n : Nat) (v1 v2 : Int) (M : JMem) : Option (Int × JMem) := letv 0 fun y1 => f_X12_copies_L41 n n v1 v2 y1 M
set_option maxRecDepth 4000 in
theorem t_X12_copies_L39 {g : JG} {ad : Nat → Nat} (hs : jStr g ad) (n : Nat) (v1 v2 : Int) (M : JMem) : jB g D_X12_copies ad 39 [some (.ref 167), some (ji v1), some (ji v2), none] [] M (f_X12_copies_L39 n v1 v2 M) := by
  unfold f_X12_copies_L39
  refine jo_iconst 0 d_X12_copies_39 ?_
  refine jo_istore 3 d_X12_copies_40 rfl (Nat.le_of_ble_eq_true rfl) (fun y1 => ?_)
  exact jO.sub (t_X12_copies_L41 hs n n v1 v2 y1 M) (And.intro rfl (And.intro rfl (And.intro rfl (And.intro rfl True.intro))))
def f_X12_copies_L2 (n : Nat) : Nat → Int → Int → Int → JMem → Option (Int × JMem)
  | 0, _, _, _, _ => none
  | k + 1, v1, v2, v3, M => if jw 504 ≤ jw v3 then (f_X12_copies_L39 n v1 v2 M) else (chk (jin ((504 * v1) + v3) 3160) <| chk (jin ((504 * v2) + v3) 3160) <| letm (jup M 168 (jw ((504 * v2) + v3)).toNat (M 168 (jw ((504 * v1) + v3)).toNat)) fun M1 => letv (v3 + 1) fun y2 => (f_X12_copies_L2 n k) v1 v2 y2 M1)
set_option maxRecDepth 4000 in
theorem t_X12_copies_L2 {g : JG} {ad : Nat → Nat} (hs : jStr g ad) (n : Nat) : ∀ (k : Nat) (v1 v2 v3 : Int) (M : JMem), jB g D_X12_copies ad 2 [some (.ref 167), some (ji v1), some (ji v2), some (ji v3)] [] M (f_X12_copies_L2 n k v1 v2 v3 M) := by
  intro k
  induction k with
  | zero => intro v1 v2 v3 M; exact jO.none
  | succ k ih =>
    intro v1 v2 v3 M
    rw [f_X12_copies_L2]
    refine jo_iload 3 d_X12_copies_2 rfl rfl ?_
    refine jo_sipush 504 d_X12_copies_3 (by decide) ?_
    refine jo_icmp_ge 39 d_X12_copies_6 (by decide) ?_ ?_
    · skip
      exact jO.sub (t_X12_copies_L39 hs n v1 v2 M) (And.intro rfl (And.intro rfl (And.intro rfl True.intro)))
    · skip
      refine jo_aload 0 d_X12_copies_9 rfl rfl ?_
      refine jo_getR (k := 0) cl_12 (Nat.le_of_ble_eq_true rfl) lk_X12_7 rfl kc_167 kr_167_0 d_X12_copies_10 ?_
      refine jo_sipush 504 d_X12_copies_13 (by decide) ?_
      refine jo_iload 2 d_X12_copies_16 rfl rfl ?_
      refine jo_imul d_X12_copies_17 ?_
      refine jo_iload 3 d_X12_copies_18 rfl rfl ?_
      refine jo_iadd d_X12_copies_19 ?_
      refine jo_aload 0 d_X12_copies_20 rfl rfl ?_
      refine jo_getR (k := 0) cl_12 (Nat.le_of_ble_eq_true rfl) lk_X12_7 rfl kc_167 kr_167_0 d_X12_copies_21 ?_
      refine jo_sipush 504 d_X12_copies_24 (by decide) ?_
      refine jo_iload 1 d_X12_copies_27 rfl rfl ?_
      refine jo_imul d_X12_copies_28 ?_
      refine jo_iload 3 d_X12_copies_29 rfl rfl ?_
      refine jo_iadd d_X12_copies_30 ?_
      refine jo_iald (N := 3160) kc_168 d_X12_copies_31 ?_
      refine jo_iast (N := 3160) kc_168 d_X12_copies_32 (fun M1 => ?_)
      refine jo_iinc 3 d_X12_copies_33 rfl (Nat.le_of_ble_eq_true rfl) (fun y2 => ?_)
      refine jo_goto 2 d_X12_copies_36 (by decide) ?_
      exact jO.sub (ih v1 v2 y2 M1) (And.intro rfl (And.intro rfl (And.intro rfl (And.intro rfl True.intro))))
def f_X12_copies (n : Nat) (x1 : Int) (x2 : Int) (M : JMem) : Option (Int × JMem) := letv 0 fun y1 => f_X12_copies_L2 n n x1 x2 y1 M
set_option maxRecDepth 4000 in
theorem t_X12_copies {g : JG} {ad : Nat → Nat} (hs : jStr g ad) (n : Nat) (x1 : Int) (x2 : Int) (M : JMem) : jB g D_X12_copies ad 0 [some (.ref 167), some (ji x1), some (ji x2), none] [] M (f_X12_copies n x1 x2 M) := by
  unfold f_X12_copies
  refine jo_iconst 0 d_X12_copies_0 ?_
  refine jo_istore 3 d_X12_copies_1 rfl (Nat.le_of_ble_eq_true rfl) (fun y1 => ?_)
  exact jO.sub (t_X12_copies_L2 hs n n x1 x2 y1 M) (And.intro rfl (And.intro rfl (And.intro rfl (And.intro rfl True.intro))))
theorem m_X12_copies {g : JG} {ad : Nat → Nat} (hs : jStr g ad) (n : Nat) (x1 : Int) (x2 : Int) (M : JMem) : jMet g jNN ad jR D_X12_copies yX12_copies [.ref 167, ji x1, ji x2] M (f_X12_copies n x1 x2 M) :=
  jMet.of (lo0 := [some (.ref 167), some (ji x1), some (ji x2), none]) (by decide) rfl rfl (Nat.le_of_ble_eq_true rfl) (And.intro rfl (And.intro rfl (And.intro rfl True.intro))) (t_X12_copies hs n x1 x2 M)
/-! CageLeaveModel.isTray(I)Z -/
def D_X12_isTray : JD := (RX12, cX12_isTray, 1, some .boolean, "isTray", { frames := 0, cells := 0, slots := 0, locals := 0 })
theorem ok_X12_isTray : jOk D_X12_isTray yX12_isTray 1 := ⟨jTW_mem (k := 1512) (by decide +kernel) rfl, jTW_mem (k := 151) (by decide +kernel) rfl, ⟨by decide +kernel, by decide +kernel⟩, by decide +kernel, rfl, rfl⟩
theorem st_X12_isTray : Cond.static yX12_isTray ∈ jTW := jTW_mem (k := 1511) (by decide +kernel) rfl
theorem d_X12_isTray_0 : decode (D_X12_isTray).2.1 0 = .ok (.iload_n 0, 1) := by decide +kernel
theorem d_X12_isTray_1 : decode (D_X12_isTray).2.1 1 = .ok (.ifCond .lt 12, 3) := by decide +kernel
theorem d_X12_isTray_4 : decode (D_X12_isTray).2.1 4 = .ok (.iload_n 0, 1) := by decide +kernel
theorem d_X12_isTray_5 : decode (D_X12_isTray).2.1 5 = .ok (.iconst 4, 1) := by decide +kernel
theorem d_X12_isTray_6 : decode (D_X12_isTray).2.1 6 = .ok (.if_icmp .ge 7, 3) := by decide +kernel
theorem d_X12_isTray_9 : decode (D_X12_isTray).2.1 9 = .ok (.iconst 1, 1) := by decide +kernel
theorem d_X12_isTray_10 : decode (D_X12_isTray).2.1 10 = .ok (.goto 4, 3) := by decide +kernel
theorem d_X12_isTray_13 : decode (D_X12_isTray).2.1 13 = .ok (.iconst 0, 1) := by decide +kernel
theorem d_X12_isTray_14 : decode (D_X12_isTray).2.1 14 = .ok (.ireturn, 1) := by decide +kernel
def f_X12_isTray (n : Nat) (x0 : Int) (M : JMem) : Option (Int × JMem) := if jw x0 < 0 then (some (0, M)) else (if jw 4 ≤ jw x0 then (some (0, M)) else (some (1, M)))
set_option maxRecDepth 4000 in
theorem t_X12_isTray {g : JG} {ad : Nat → Nat} (hs : jStr g ad) (n : Nat) (x0 : Int) (M : JMem) : jB g D_X12_isTray ad 0 [some (ji x0)] [] M (f_X12_isTray n x0 M) := by
  unfold f_X12_isTray
  refine jo_iload 0 d_X12_isTray_0 rfl rfl ?_
  refine jo_if_lt 13 d_X12_isTray_1 (by decide) ?_ ?_
  · skip
    refine jo_iconst 0 d_X12_isTray_13 ?_
    exact jo_zret rfl (by decide) d_X12_isTray_14
  · skip
    refine jo_iload 0 d_X12_isTray_4 rfl rfl ?_
    refine jo_iconst 4 d_X12_isTray_5 ?_
    refine jo_icmp_ge 13 d_X12_isTray_6 (by decide) ?_ ?_
    · skip
      refine jo_iconst 0 d_X12_isTray_13 ?_
      exact jo_zret rfl (by decide) d_X12_isTray_14
    · skip
      refine jo_iconst 1 d_X12_isTray_9 ?_
      refine jo_goto 14 d_X12_isTray_10 (by decide) ?_
      exact jo_zret rfl (by decide) d_X12_isTray_14
theorem m_X12_isTray {g : JG} {ad : Nat → Nat} (hs : jStr g ad) (n : Nat) (x0 : Int) (M : JMem) : jMet g jNN ad jR D_X12_isTray yX12_isTray [ji x0] M (f_X12_isTray n x0 M) :=
  jMet.of (lo0 := [some (ji x0)]) (by decide) rfl rfl (Nat.le_of_ble_eq_true rfl) (And.intro rfl True.intro) (t_X12_isTray hs n x0 M)
/-! CageLeaveModel.shrunk(JI)J -/
def D_X12_shrunk : JD := (RX12, cX12_shrunk, 3, some .long, "shrunk", { frames := 0, cells := 0, slots := 0, locals := 0 })
theorem ok_X12_shrunk : jOk D_X12_shrunk yX12_shrunk 2 := ⟨jTW_mem (k := 1527) (by decide +kernel) rfl, jTW_mem (k := 151) (by decide +kernel) rfl, ⟨by decide +kernel, by decide +kernel⟩, by decide +kernel, rfl, rfl⟩
theorem st_X12_shrunk : Cond.static yX12_shrunk ∈ jTW := jTW_mem (k := 1526) (by decide +kernel) rfl
theorem d_X12_shrunk_0 : decode (D_X12_shrunk).2.1 0 = .ok (.iload_n 2, 1) := by decide +kernel
theorem d_X12_shrunk_1 : decode (D_X12_shrunk).2.1 1 = .ok (.ifCond .ne 10, 3) := by decide +kernel
theorem d_X12_shrunk_4 : decode (D_X12_shrunk).2.1 4 = .ok (.lload_n 0, 1) := by decide +kernel
theorem d_X12_shrunk_5 : decode (D_X12_shrunk).2.1 5 = .ok (.l2i, 1) := by decide +kernel
theorem d_X12_shrunk_6 : decode (D_X12_shrunk).2.1 6 = .ok (.i2b, 1) := by decide +kernel
theorem d_X12_shrunk_7 : decode (D_X12_shrunk).2.1 7 = .ok (.i2l, 1) := by decide +kernel
theorem d_X12_shrunk_8 : decode (D_X12_shrunk).2.1 8 = .ok (.goto 27, 3) := by decide +kernel
theorem d_X12_shrunk_11 : decode (D_X12_shrunk).2.1 11 = .ok (.iload_n 2, 1) := by decide +kernel
theorem d_X12_shrunk_12 : decode (D_X12_shrunk).2.1 12 = .ok (.iconst 1, 1) := by decide +kernel
theorem d_X12_shrunk_13 : decode (D_X12_shrunk).2.1 13 = .ok (.if_icmp .ne 10, 3) := by decide +kernel
theorem d_X12_shrunk_16 : decode (D_X12_shrunk).2.1 16 = .ok (.lload_n 0, 1) := by decide +kernel
theorem d_X12_shrunk_17 : decode (D_X12_shrunk).2.1 17 = .ok (.l2i, 1) := by decide +kernel
theorem d_X12_shrunk_18 : decode (D_X12_shrunk).2.1 18 = .ok (.i2s, 1) := by decide +kernel
theorem d_X12_shrunk_19 : decode (D_X12_shrunk).2.1 19 = .ok (.i2l, 1) := by decide +kernel
theorem d_X12_shrunk_20 : decode (D_X12_shrunk).2.1 20 = .ok (.goto 15, 3) := by decide +kernel
theorem d_X12_shrunk_23 : decode (D_X12_shrunk).2.1 23 = .ok (.iload_n 2, 1) := by decide +kernel
theorem d_X12_shrunk_24 : decode (D_X12_shrunk).2.1 24 = .ok (.iconst 2, 1) := by decide +kernel
theorem d_X12_shrunk_25 : decode (D_X12_shrunk).2.1 25 = .ok (.if_icmp .ne 9, 3) := by decide +kernel
theorem d_X12_shrunk_28 : decode (D_X12_shrunk).2.1 28 = .ok (.lload_n 0, 1) := by decide +kernel
theorem d_X12_shrunk_29 : decode (D_X12_shrunk).2.1 29 = .ok (.l2i, 1) := by decide +kernel
theorem d_X12_shrunk_30 : decode (D_X12_shrunk).2.1 30 = .ok (.i2l, 1) := by decide +kernel
theorem d_X12_shrunk_31 : decode (D_X12_shrunk).2.1 31 = .ok (.goto 4, 3) := by decide +kernel
theorem d_X12_shrunk_34 : decode (D_X12_shrunk).2.1 34 = .ok (.lload_n 0, 1) := by decide +kernel
theorem d_X12_shrunk_35 : decode (D_X12_shrunk).2.1 35 = .ok (.lreturn, 1) := by decide +kernel
def f_X12_shrunk (n : Nat) (x0 : Int) (x2 : Int) (M : JMem) : Option (Int × JMem) := if jw x2 = 0 then (some ((jw (jw8 x0)), M)) else (if jw x2 = jw 1 then (some ((jw (jw16 x0)), M)) else (if jw x2 = jw 2 then (some ((jw x0), M)) else (some (x0, M))))
set_option maxRecDepth 4000 in
theorem t_X12_shrunk {g : JG} {ad : Nat → Nat} (hs : jStr g ad) (n : Nat) (x0 : Int) (x2 : Int) (M : JMem) : jB g D_X12_shrunk ad 0 [some (jl x0), none, some (ji x2)] [] M (f_X12_shrunk n x0 x2 M) := by
  unfold f_X12_shrunk
  refine jo_iload 2 d_X12_shrunk_0 rfl rfl ?_
  refine jo_if_ne 11 d_X12_shrunk_1 (by decide) ?_ ?_
  · skip
    refine jo_iload 2 d_X12_shrunk_11 rfl rfl ?_
    refine jo_iconst 1 d_X12_shrunk_12 ?_
    refine jo_icmp_ne 23 d_X12_shrunk_13 (by decide) ?_ ?_
    · skip
      refine jo_iload 2 d_X12_shrunk_23 rfl rfl ?_
      refine jo_iconst 2 d_X12_shrunk_24 ?_
      refine jo_icmp_ne 34 d_X12_shrunk_25 (by decide) ?_ ?_
      · skip
        refine jo_lload 0 d_X12_shrunk_34 rfl rfl ?_
        exact jo_lret rfl d_X12_shrunk_35
      · skip
        refine jo_lload 0 d_X12_shrunk_28 rfl rfl ?_
        refine jo_l2i d_X12_shrunk_29 ?_
        refine jo_i2l d_X12_shrunk_30 ?_
        refine jo_goto 35 d_X12_shrunk_31 (by decide) ?_
        exact jo_lret rfl d_X12_shrunk_35
    · skip
      refine jo_lload 0 d_X12_shrunk_16 rfl rfl ?_
      refine jo_l2i d_X12_shrunk_17 ?_
      refine jo_i2s d_X12_shrunk_18 ?_
      refine jo_i2l d_X12_shrunk_19 ?_
      refine jo_goto 35 d_X12_shrunk_20 (by decide) ?_
      exact jo_lret rfl d_X12_shrunk_35
  · skip
    refine jo_lload 0 d_X12_shrunk_4 rfl rfl ?_
    refine jo_l2i d_X12_shrunk_5 ?_
    refine jo_i2b d_X12_shrunk_6 ?_
    refine jo_i2l d_X12_shrunk_7 ?_
    refine jo_goto 35 d_X12_shrunk_8 (by decide) ?_
    exact jo_lret rfl d_X12_shrunk_35
theorem m_X12_shrunk {g : JG} {ad : Nat → Nat} (hs : jStr g ad) (n : Nat) (x0 : Int) (x2 : Int) (M : JMem) : jMet g jNN ad jR D_X12_shrunk yX12_shrunk [jl x0, ji x2] M (f_X12_shrunk n x0 x2 M) :=
  jMet.of (lo0 := [some (jl x0), none, some (ji x2)]) (by decide) rfl rfl (Nat.le_of_ble_eq_true rfl) (And.intro rfl (And.intro rfl True.intro)) (t_X12_shrunk hs n x0 x2 M)
end

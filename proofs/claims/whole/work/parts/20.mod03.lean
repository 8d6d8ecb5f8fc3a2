section
/-! CageLeaveModel.latestOf(III)I -/
def D_X12_latestOf : JD := (RX12, cX12_latestOf, 5, some .int, "latestOf", { frames := 4, cells := 0, slots := 0, locals := 84 })
theorem ok_X12_latestOf : jOk D_X12_latestOf yX12_latestOf 3 := ⟨jTW_mem (k := 1947) (by decide +kernel) rfl, jTW_mem (k := 151) (by decide +kernel) rfl, ⟨by decide +kernel, by decide +kernel⟩, by decide +kernel, rfl, rfl⟩
theorem in_X12_latestOf : Cond.instanceMethod yX12_latestOf ∈ jTW := jTW_mem (k := 1946) (by decide +kernel) rfl
theorem se_X12_latestOf : Cond.selects yX12_latestOf.cls yX12_latestOf yX12_latestOf ∈ jTW := jTW_mem (k := 115) (by decide +kernel) rfl
theorem d_X12_latestOf_0 : decode (D_X12_latestOf).2.1 0 = .ok (.iload_n 1, 1) := by decide +kernel
theorem d_X12_latestOf_1 : decode (D_X12_latestOf).2.1 1 = .ok (.iload_n 2, 1) := by decide +kernel
theorem d_X12_latestOf_2 : decode (D_X12_latestOf).2.1 2 = .ok (.if_icmp .ne 5, 3) := by decide +kernel
theorem d_X12_latestOf_5 : decode (D_X12_latestOf).2.1 5 = .ok (.iload_n 3, 1) := by decide +kernel
theorem d_X12_latestOf_6 : decode (D_X12_latestOf).2.1 6 = .ok (.ireturn, 1) := by decide +kernel
theorem d_X12_latestOf_7 : decode (D_X12_latestOf).2.1 7 = .ok (.iload_n 3, 1) := by decide +kernel
theorem d_X12_latestOf_8 : decode (D_X12_latestOf).2.1 8 = .ok (.bipush 63, 2) := by decide +kernel
theorem d_X12_latestOf_10 : decode (D_X12_latestOf).2.1 10 = .ok (.invokestatic 142, 3) := by decide +kernel
theorem d_X12_latestOf_13 : decode (D_X12_latestOf).2.1 13 = .ok (.istore 4, 2) := by decide +kernel
theorem d_X12_latestOf_15 : decode (D_X12_latestOf).2.1 15 = .ok (.iload 4, 2) := by decide +kernel
theorem d_X12_latestOf_17 : decode (D_X12_latestOf).2.1 17 = .ok (.ifCond .lt 33, 3) := by decide +kernel
theorem d_X12_latestOf_20 : decode (D_X12_latestOf).2.1 20 = .ok (.aload_n 0, 1) := by decide +kernel
theorem d_X12_latestOf_21 : decode (D_X12_latestOf).2.1 21 = .ok (.iload_n 1, 1) := by decide +kernel
theorem d_X12_latestOf_22 : decode (D_X12_latestOf).2.1 22 = .ok (.iload 4, 2) := by decide +kernel
theorem d_X12_latestOf_24 : decode (D_X12_latestOf).2.1 24 = .ok (.aload_n 0, 1) := by decide +kernel
theorem d_X12_latestOf_25 : decode (D_X12_latestOf).2.1 25 = .ok (.invokevirtual 379, 3) := by decide +kernel
theorem d_X12_latestOf_28 : decode (D_X12_latestOf).2.1 28 = .ok (.invokevirtual 382, 3) := by decide +kernel
theorem d_X12_latestOf_31 : decode (D_X12_latestOf).2.1 31 = .ok (.aload_n 0, 1) := by decide +kernel
theorem d_X12_latestOf_32 : decode (D_X12_latestOf).2.1 32 = .ok (.getfield 56, 3) := by decide +kernel
theorem d_X12_latestOf_35 : decode (D_X12_latestOf).2.1 35 = .ok (.iload_n 2, 1) := by decide +kernel
theorem d_X12_latestOf_36 : decode (D_X12_latestOf).2.1 36 = .ok (.iaload, 1) := by decide +kernel
theorem d_X12_latestOf_37 : decode (D_X12_latestOf).2.1 37 = .ok (.iload_n 3, 1) := by decide +kernel
theorem d_X12_latestOf_38 : decode (D_X12_latestOf).2.1 38 = .ok (.if_icmp .gt 6, 3) := by decide +kernel
theorem d_X12_latestOf_41 : decode (D_X12_latestOf).2.1 41 = .ok (.iload 4, 2) := by decide +kernel
theorem d_X12_latestOf_43 : decode (D_X12_latestOf).2.1 43 = .ok (.ireturn, 1) := by decide +kernel
theorem d_X12_latestOf_44 : decode (D_X12_latestOf).2.1 44 = .ok (.iinc 4 (-1), 3) := by decide +kernel
theorem d_X12_latestOf_47 : decode (D_X12_latestOf).2.1 47 = .ok (.goto (-32), 3) := by decide +kernel
theorem d_X12_latestOf_50 : decode (D_X12_latestOf).2.1 50 = .ok (.iconst (-1), 1) := by decide +kernel
theorem d_X12_latestOf_51 : decode (D_X12_latestOf).2.1 51 = .ok (.ireturn, 1) := by decide +kernel
def f_X12_latestOf_L41 (n : Nat) (v4 : Int) (M : JMem) : Option (Int × JMem) := some (v4, M)
set_option maxRecDepth 4000 in
theorem t_X12_latestOf_L41 {g : JG} {ad : Nat → Nat} (hs : jStr g ad) (n : Nat) (v4 : Int) (M : JMem) : jB g D_X12_latestOf ad 41 [none, none, none, none, some (ji v4)] [] M (f_X12_latestOf_L41 n v4 M) := by
  unfold f_X12_latestOf_L41
  refine jo_iloadW 4 d_X12_latestOf_41 rfl ?_
  exact jo_iret rfl d_X12_latestOf_43
def f_X12_latestOf_L15 (n : Nat) : Nat → Int → Int → Int → Int → JMem → Option (Int × JMem)
  | 0, _, _, _, _, _ => none
  | k + 1, v1, v2, v3, v4, M => if jw v4 < 0 then (some ((-1), M)) else (bnd (f_X12_going n M) fun r1 M2 => bnd (f_X12_laysSoon n v1 v4 r1 M2) fun _ M4 => chk (jin v2 6) <| if jw v3 < jw (M4 179 (jw v2).toNat) then (letv (v4 + (-1)) fun y5 => (f_X12_latestOf_L15 n k) v1 v2 v3 y5 M4) else (f_X12_latestOf_L41 n v4 M4))
set_option maxRecDepth 4000 in
theorem t_X12_latestOf_L15 {g : JG} {ad : Nat → Nat} (hs : jStr g ad) (n : Nat) : ∀ (k : Nat) (v1 v2 v3 v4 : Int) (M : JMem), jB g D_X12_latestOf ad 15 [some (.ref 167), some (ji v1), some (ji v2), some (ji v3), some (ji v4)] [] M (f_X12_latestOf_L15 n k v1 v2 v3 v4 M) := by
  intro k
  induction k with
  | zero => intro v1 v2 v3 v4 M; exact jO.none
  | succ k ih =>
    intro v1 v2 v3 v4 M
    rw [f_X12_latestOf_L15]
    refine jo_iloadW 4 d_X12_latestOf_15 rfl ?_
    refine jo_if_lt 50 d_X12_latestOf_17 (by decide) ?_ ?_
    · skip
      refine jo_iconst (-1) d_X12_latestOf_50 ?_
      exact jo_iret rfl d_X12_latestOf_51
    · skip
      refine jo_aload 0 d_X12_latestOf_20 rfl rfl ?_
      refine jo_iload 1 d_X12_latestOf_21 rfl rfl ?_
      refine jo_iloadW 4 d_X12_latestOf_22 rfl ?_
      refine jo_aload 0 d_X12_latestOf_24 rfl rfl ?_
      refine jo_callV (st := [ji v4, ji v1, .ref 167]) (m_X12_going hs n M) ok_X12_going (And.intro (Nat.le_of_ble_eq_true rfl) (Nat.le_of_ble_eq_true rfl)) lm_X12_379 in_X12_going se_X12_going rfl kc_167 rfl rfl (And.intro (Nat.zero_le _) (Nat.zero_le _)) rfl (Nat.le_of_ble_eq_true rfl) d_X12_latestOf_25 (fun r1 M2 => ?_)
      refine jo_callV (st := []) (m_X12_laysSoon hs n v1 v4 r1 M2) ok_X12_laysSoon (And.intro (Nat.le_of_ble_eq_true rfl) (Nat.le_of_ble_eq_true rfl)) lm_X12_382 in_X12_laysSoon se_X12_laysSoon rfl kc_167 rfl rfl (And.intro (Nat.zero_le _) (Nat.zero_le _)) rfl (Nat.le_of_ble_eq_true rfl) d_X12_latestOf_28 (fun _ M4 => ?_)
      refine jo_aload 0 d_X12_latestOf_31 rfl rfl ?_
      refine jo_getR (k := 28) cl_12 (Nat.le_of_ble_eq_true rfl) lk_X12_56 rfl kc_167 kr_167_28 d_X12_latestOf_32 ?_
      refine jo_iload 2 d_X12_latestOf_35 rfl rfl ?_
      refine jo_iald (N := 6) kc_179 d_X12_latestOf_36 ?_
      refine jo_iload 3 d_X12_latestOf_37 rfl rfl ?_
      refine jo_icmp_gt 44 d_X12_latestOf_38 (by decide) ?_ ?_
      · skip
        refine jo_iinc 4 d_X12_latestOf_44 rfl (Nat.le_of_ble_eq_true rfl) (fun y5 => ?_)
        refine jo_goto 15 d_X12_latestOf_47 (by decide) ?_
        exact jO.sub (ih v1 v2 v3 y5 M4) (And.intro rfl (And.intro rfl (And.intro rfl (And.intro rfl (And.intro rfl True.intro)))))
      · skip
        exact jO.sub (t_X12_latestOf_L41 hs n v4 M4) (And.intro rfl True.intro)
def f_X12_latestOf (n : Nat) (x1 : Int) (x2 : Int) (x3 : Int) (M : JMem) : Option (Int × JMem) := if jw x1 = jw x2 then (some (x3, M)) else (letv (jmin x3 63) fun y1 => f_X12_latestOf_L15 n n x1 x2 x3 y1 M)
set_option maxRecDepth 4000 in
theorem t_X12_latestOf {g : JG} {ad : Nat → Nat} (hs : jStr g ad) (n : Nat) (x1 : Int) (x2 : Int) (x3 : Int) (M : JMem) : jB g D_X12_latestOf ad 0 [some (.ref 167), some (ji x1), some (ji x2), some (ji x3), none] [] M (f_X12_latestOf n x1 x2 x3 M) := by
  unfold f_X12_latestOf
  refine jo_iload 1 d_X12_latestOf_0 rfl rfl ?_
  refine jo_iload 2 d_X12_latestOf_1 rfl rfl ?_
  refine jo_icmp_ne 7 d_X12_latestOf_2 (by decide) ?_ ?_
  · skip
    refine jo_iload 3 d_X12_latestOf_7 rfl rfl ?_
    refine jo_bipush 63 d_X12_latestOf_8 (by decide) ?_
    refine jo_mmin lm_X12_142 (Nat.le_of_ble_eq_true rfl) (Nat.le_of_ble_eq_true rfl) (And.intro (Nat.zero_le _) (Nat.zero_le _)) d_X12_latestOf_10 ?_
    refine jo_istoreW 4 d_X12_latestOf_13 (Nat.le_of_ble_eq_true rfl) (fun y1 => ?_)
    exact jO.sub (t_X12_latestOf_L15 hs n n x1 x2 x3 y1 M) (And.intro rfl (And.intro rfl (And.intro rfl (And.intro rfl (And.intro rfl True.intro)))))
  · skip
    refine jo_iload 3 d_X12_latestOf_5 rfl rfl ?_
    exact jo_iret rfl d_X12_latestOf_6
theorem m_X12_latestOf {g : JG} {ad : Nat → Nat} (hs : jStr g ad) (n : Nat) (x1 : Int) (x2 : Int) (x3 : Int) (M : JMem) : jMet g jNN ad jR D_X12_latestOf yX12_latestOf [.ref 167, ji x1, ji x2, ji x3] M (f_X12_latestOf n x1 x2 x3 M) :=
  jMet.of (lo0 := [some (.ref 167), some (ji x1), some (ji x2), some (ji x3), none]) (by decide) rfl rfl (Nat.le_of_ble_eq_true rfl) (And.intro rfl (And.intro rfl (And.intro rfl (And.intro rfl True.intro)))) (t_X12_latestOf hs n x1 x2 x3 M)
/-! CageLeaveModel.latest(III)I -/
def D_X12_latest : JD := (RX12, cX12_latest, 4, some .int, "latest", { frames := 5, cells := 0, slots := 0, locals := 108 })
theorem ok_X12_latest : jOk D_X12_latest yX12_latest 3 := ⟨jTW_mem (k := 1943) (by decide +kernel) rfl, jTW_mem (k := 151) (by decide +kernel) rfl, ⟨by decide +kernel, by decide +kernel⟩, by decide +kernel, rfl, rfl⟩
theorem in_X12_latest : Cond.instanceMethod yX12_latest ∈ jTW := jTW_mem (k := 1941) (by decide +kernel) rfl
theorem se_X12_latest : Cond.selects yX12_latest.cls yX12_latest yX12_latest ∈ jTW := jTW_mem (k := 1942) (by decide +kernel) rfl
theorem lm_X12_386 : Cond.methodLink RX12 386 yX12_latestOf ∈ jTW := jTW_mem (k := 1944) (by decide +kernel) rfl
theorem d_X12_latest_0 : decode (D_X12_latest).2.1 0 = .ok (.aload_n 0, 1) := by decide +kernel
theorem d_X12_latest_1 : decode (D_X12_latest).2.1 1 = .ok (.iload_n 1, 1) := by decide +kernel
theorem d_X12_latest_2 : decode (D_X12_latest).2.1 2 = .ok (.invokevirtual 306, 3) := by decide +kernel
theorem d_X12_latest_5 : decode (D_X12_latest).2.1 5 = .ok (.ifCond .eq 37, 3) := by decide +kernel
theorem d_X12_latest_8 : decode (D_X12_latest).2.1 8 = .ok (.aload_n 0, 1) := by decide +kernel
theorem d_X12_latest_9 : decode (D_X12_latest).2.1 9 = .ok (.iload_n 2, 1) := by decide +kernel
theorem d_X12_latest_10 : decode (D_X12_latest).2.1 10 = .ok (.invokevirtual 306, 3) := by decide +kernel
theorem d_X12_latest_13 : decode (D_X12_latest).2.1 13 = .ok (.ifCond .eq 29, 3) := by decide +kernel
theorem d_X12_latest_16 : decode (D_X12_latest).2.1 16 = .ok (.iload_n 3, 1) := by decide +kernel
theorem d_X12_latest_17 : decode (D_X12_latest).2.1 17 = .ok (.i2l, 1) := by decide +kernel
theorem d_X12_latest_18 : decode (D_X12_latest).2.1 18 = .ok (.lconst 0, 1) := by decide +kernel
theorem d_X12_latest_19 : decode (D_X12_latest).2.1 19 = .ok (.ldc2_w 330, 3) := by decide +kernel
theorem d_X12_latest_22 : decode (D_X12_latest).2.1 22 = .ok (.invokestatic 266, 3) := by decide +kernel
theorem d_X12_latest_25 : decode (D_X12_latest).2.1 25 = .ok (.ifCond .eq 17, 3) := by decide +kernel
theorem d_X12_latest_28 : decode (D_X12_latest).2.1 28 = .ok (.aload_n 0, 1) := by decide +kernel
theorem d_X12_latest_29 : decode (D_X12_latest).2.1 29 = .ok (.aload_n 0, 1) := by decide +kernel
theorem d_X12_latest_30 : decode (D_X12_latest).2.1 30 = .ok (.iload_n 1, 1) := by decide +kernel
theorem d_X12_latest_31 : decode (D_X12_latest).2.1 31 = .ok (.iload_n 2, 1) := by decide +kernel
theorem d_X12_latest_32 : decode (D_X12_latest).2.1 32 = .ok (.iload_n 3, 1) := by decide +kernel
theorem d_X12_latest_33 : decode (D_X12_latest).2.1 33 = .ok (.invokevirtual 386, 3) := by decide +kernel
theorem d_X12_latest_36 : decode (D_X12_latest).2.1 36 = .ok (.invokevirtual 303, 3) := by decide +kernel
theorem d_X12_latest_39 : decode (D_X12_latest).2.1 39 = .ok (.goto 8, 3) := by decide +kernel
theorem d_X12_latest_42 : decode (D_X12_latest).2.1 42 = .ok (.aload_n 0, 1) := by decide +kernel
theorem d_X12_latest_43 : decode (D_X12_latest).2.1 43 = .ok (.iconst 1, 1) := by decide +kernel
theorem d_X12_latest_44 : decode (D_X12_latest).2.1 44 = .ok (.invokevirtual 87, 3) := by decide +kernel
theorem d_X12_latest_47 : decode (D_X12_latest).2.1 47 = .ok (.ireturn, 1) := by decide +kernel
def f_X12_latest_L42 (n : Nat) (M : JMem) : Option (Int × JMem) := bnd (f_X12_refuse n 1 M) fun r1 M2 => some (r1, M2)
set_option maxRecDepth 4000 in
theorem t_X12_latest_L42 {g : JG} {ad : Nat → Nat} (hs : jStr g ad) (n : Nat) (M : JMem) : jB g D_X12_latest ad 42 [some (.ref 167), none, none, none] [] M (f_X12_latest_L42 n M) := by
  unfold f_X12_latest_L42
  refine jo_aload 0 d_X12_latest_42 rfl rfl ?_
  refine jo_iconst 1 d_X12_latest_43 ?_
  refine jo_callV (st := []) (m_X12_refuse hs n 1 M) ok_X12_refuse (And.intro (Nat.le_of_ble_eq_true rfl) (Nat.le_of_ble_eq_true rfl)) lm_X12_87 in_X12_refuse se_X12_refuse rfl kc_167 rfl rfl (And.intro (Nat.zero_le _) (Nat.zero_le _)) rfl (Nat.le_of_ble_eq_true rfl) d_X12_latest_44 (fun r1 M2 => ?_)
  exact jo_iret rfl d_X12_latest_47
def f_X12_latest (n : Nat) (x1 : Int) (x2 : Int) (x3 : Int) (M : JMem) : Option (Int × JMem) := bnd (f_X12_isPlace n x1 M) fun r1 M2 => if jw r1 = 0 then (f_X12_latest_L42 n M2) else (bnd (f_X12_isPlace n x2 M2) fun r3 M4 => if jw r3 = 0 then (f_X12_latest_L42 n M4) else (bnd (f_X12_isFrom n (jw x3) 0 64 M4) fun r5 M6 => if jw r5 = 0 then (f_X12_latest_L42 n M6) else (bnd (f_X12_latestOf n x1 x2 x3 M6) fun r7 M8 => bnd (f_X12_orNone n r7 M8) fun r9 M10 => some (r9, M10))))
set_option maxRecDepth 4000 in
theorem t_X12_latest {g : JG} {ad : Nat → Nat} (hs : jStr g ad) (n : Nat) (x1 : Int) (x2 : Int) (x3 : Int) (M : JMem) : jB g D_X12_latest ad 0 [some (.ref 167), some (ji x1), some (ji x2), some (ji x3)] [] M (f_X12_latest n x1 x2 x3 M) := by
  unfold f_X12_latest
  refine jo_aload 0 d_X12_latest_0 rfl rfl ?_
  refine jo_iload 1 d_X12_latest_1 rfl rfl ?_
  refine jo_callV (st := []) (m_X12_isPlace hs n x1 M) ok_X12_isPlace (And.intro (Nat.le_of_ble_eq_true rfl) (Nat.le_of_ble_eq_true rfl)) lm_X12_306 in_X12_isPlace se_X12_isPlace rfl kc_167 rfl rfl (And.intro (Nat.zero_le _) (Nat.zero_le _)) rfl (Nat.le_of_ble_eq_true rfl) d_X12_latest_2 (fun r1 M2 => ?_)
  refine jo_if_eq 42 d_X12_latest_5 (by decide) ?_ ?_
  · skip
    exact jO.sub (t_X12_latest_L42 hs n M2) (And.intro rfl True.intro)
  · skip
    refine jo_aload 0 d_X12_latest_8 rfl rfl ?_
    refine jo_iload 2 d_X12_latest_9 rfl rfl ?_
    refine jo_callV (st := []) (m_X12_isPlace hs n x2 M2) ok_X12_isPlace (And.intro (Nat.le_of_ble_eq_true rfl) (Nat.le_of_ble_eq_true rfl)) lm_X12_306 in_X12_isPlace se_X12_isPlace rfl kc_167 rfl rfl (And.intro (Nat.zero_le _) (Nat.zero_le _)) rfl (Nat.le_of_ble_eq_true rfl) d_X12_latest_10 (fun r3 M4 => ?_)
    refine jo_if_eq 42 d_X12_latest_13 (by decide) ?_ ?_
    · skip
      exact jO.sub (t_X12_latest_L42 hs n M4) (And.intro rfl True.intro)
    · skip
      refine jo_iload 3 d_X12_latest_16 rfl rfl ?_
      refine jo_i2l d_X12_latest_17 ?_
      refine jo_lconst0 d_X12_latest_18 ?_
      refine jo_ldc2 64 lc_X12_330 d_X12_latest_19 ?_
      refine jo_callS (st := []) (m_X12_isFrom hs n (jw x3) 0 64 M4) ok_X12_isFrom (And.intro (Nat.le_of_ble_eq_true rfl) (Nat.le_of_ble_eq_true rfl)) lm_X12_266 st_X12_isFrom rfl (And.intro (Nat.zero_le _) (Nat.zero_le _)) rfl (Nat.le_of_ble_eq_true rfl) d_X12_latest_22 (fun r5 M6 => ?_)
      refine jo_if_eq 42 d_X12_latest_25 (by decide) ?_ ?_
      · skip
        exact jO.sub (t_X12_latest_L42 hs n M6) (And.intro rfl True.intro)
      · skip
        refine jo_aload 0 d_X12_latest_28 rfl rfl ?_
        refine jo_aload 0 d_X12_latest_29 rfl rfl ?_
        refine jo_iload 1 d_X12_latest_30 rfl rfl ?_
        refine jo_iload 2 d_X12_latest_31 rfl rfl ?_
        refine jo_iload 3 d_X12_latest_32 rfl rfl ?_
        refine jo_callV (st := [.ref 167]) (m_X12_latestOf hs n x1 x2 x3 M6) ok_X12_latestOf (And.intro (Nat.le_of_ble_eq_true rfl) (Nat.le_of_ble_eq_true rfl)) lm_X12_386 in_X12_latestOf se_X12_latestOf rfl kc_167 rfl rfl (And.intro (Nat.zero_le _) (Nat.zero_le _)) rfl (Nat.le_of_ble_eq_true rfl) d_X12_latest_33 (fun r7 M8 => ?_)
        refine jo_callV (st := []) (m_X12_orNone hs n r7 M8) ok_X12_orNone (And.intro (Nat.le_of_ble_eq_true rfl) (Nat.le_of_ble_eq_true rfl)) lm_X12_303 in_X12_orNone se_X12_orNone rfl kc_167 rfl rfl (And.intro (Nat.zero_le _) (Nat.zero_le _)) rfl (Nat.le_of_ble_eq_true rfl) d_X12_latest_36 (fun r9 M10 => ?_)
        refine jo_goto 47 d_X12_latest_39 (by decide) ?_
        exact jo_iret rfl d_X12_latest_47
theorem m_X12_latest {g : JG} {ad : Nat → Nat} (hs : jStr g ad) (n : Nat) (x1 : Int) (x2 : Int) (x3 : Int) (M : JMem) : jMet g jNN ad jR D_X12_latest yX12_latest [.ref 167, ji x1, ji x2, ji x3] M (f_X12_latest n x1 x2 x3 M) :=
  jMet.of (lo0 := [some (.ref 167), some (ji x1), some (ji x2), some (ji x3)]) (by decide) rfl rfl (Nat.le_of_ble_eq_true rfl) (And.intro rfl (And.intro rfl (And.intro rfl (And.intro rfl True.intro)))) (t_X12_latest hs n x1 x2 x3 M)
/-! CageLeaveModel.laysSlips(II)V -/
def D_X12_laysSlips : JD := (RX12, cX12_laysSlips, 7, none, "laysSlips", { frames := 9, cells := 0, slots := 0, locals := 197 })
theorem ok_X12_laysSlips : jOk D_X12_laysSlips yX12_laysSlips 2 := ⟨jTW_mem (k := 2018) (by decide +kernel) rfl, jTW_mem (k := 151) (by decide +kernel) rfl, ⟨by decide +kernel, by decide +kernel⟩, by decide +kernel, rfl, rfl⟩
theorem in_X12_laysSlips : Cond.instanceMethod yX12_laysSlips ∈ jTW := jTW_mem (k := 2017) (by decide +kernel) rfl
theorem se_X12_laysSlips : Cond.selects yX12_laysSlips.cls yX12_laysSlips yX12_laysSlips ∈ jTW := jTW_mem (k := 122) (by decide +kernel) rfl
theorem lk_X12_65 : Cond.fieldLink RX12 65 (TX12 31).1 (TX12 31).2.1 (TX12 31).2.2.1 ∈ jTW := jTW_mem (k := 1407) (by decide +kernel) rfl
theorem d_X12_laysSlips_0 : decode (D_X12_laysSlips).2.1 0 = .ok (.iconst 0, 1) := by decide +kernel
theorem d_X12_laysSlips_1 : decode (D_X12_laysSlips).2.1 1 = .ok (.istore_n 3, 1) := by decide +kernel
theorem d_X12_laysSlips_2 : decode (D_X12_laysSlips).2.1 2 = .ok (.iload_n 3, 1) := by decide +kernel
theorem d_X12_laysSlips_3 : decode (D_X12_laysSlips).2.1 3 = .ok (.iconst 1, 1) := by decide +kernel
theorem d_X12_laysSlips_4 : decode (D_X12_laysSlips).2.1 4 = .ok (.aload_n 0, 1) := by decide +kernel
theorem d_X12_laysSlips_5 : decode (D_X12_laysSlips).2.1 5 = .ok (.getfield 7, 3) := by decide +kernel
theorem d_X12_laysSlips_8 : decode (D_X12_laysSlips).2.1 8 = .ok (.iconst 2, 1) := by decide +kernel
theorem d_X12_laysSlips_9 : decode (D_X12_laysSlips).2.1 9 = .ok (.iaload, 1) := by decide +kernel
theorem d_X12_laysSlips_10 : decode (D_X12_laysSlips).2.1 10 = .ok (.ishl, 1) := by decide +kernel
theorem d_X12_laysSlips_11 : decode (D_X12_laysSlips).2.1 11 = .ok (.if_icmp .ge 134, 3) := by decide +kernel
theorem d_X12_laysSlips_14 : decode (D_X12_laysSlips).2.1 14 = .ok (.aload_n 0, 1) := by decide +kernel
theorem d_X12_laysSlips_15 : decode (D_X12_laysSlips).2.1 15 = .ok (.getfield 65, 3) := by decide +kernel
theorem d_X12_laysSlips_18 : decode (D_X12_laysSlips).2.1 18 = .ok (.iload_n 3, 1) := by decide +kernel
theorem d_X12_laysSlips_19 : decode (D_X12_laysSlips).2.1 19 = .ok (.ldc_w 375, 3) := by decide +kernel
theorem d_X12_laysSlips_22 : decode (D_X12_laysSlips).2.1 22 = .ok (.iastore, 1) := by decide +kernel
theorem d_X12_laysSlips_23 : decode (D_X12_laysSlips).2.1 23 = .ok (.aload_n 0, 1) := by decide +kernel
theorem d_X12_laysSlips_24 : decode (D_X12_laysSlips).2.1 24 = .ok (.iload_n 3, 1) := by decide +kernel
theorem d_X12_laysSlips_25 : decode (D_X12_laysSlips).2.1 25 = .ok (.invokevirtual 369, 3) := by decide +kernel
theorem d_X12_laysSlips_28 : decode (D_X12_laysSlips).2.1 28 = .ok (.ifCond .ne 6, 3) := by decide +kernel
theorem d_X12_laysSlips_31 : decode (D_X12_laysSlips).2.1 31 = .ok (.goto 108, 3) := by decide +kernel
theorem d_X12_laysSlips_34 : decode (D_X12_laysSlips).2.1 34 = .ok (.aload_n 0, 1) := by decide +kernel
theorem d_X12_laysSlips_35 : decode (D_X12_laysSlips).2.1 35 = .ok (.iload_n 3, 1) := by decide +kernel
theorem d_X12_laysSlips_36 : decode (D_X12_laysSlips).2.1 36 = .ok (.invokevirtual 372, 3) := by decide +kernel
theorem d_X12_laysSlips_39 : decode (D_X12_laysSlips).2.1 39 = .ok (.pop, 1) := by decide +kernel
theorem d_X12_laysSlips_40 : decode (D_X12_laysSlips).2.1 40 = .ok (.aload_n 0, 1) := by decide +kernel
theorem d_X12_laysSlips_41 : decode (D_X12_laysSlips).2.1 41 = .ok (.getfield 65, 3) := by decide +kernel
theorem d_X12_laysSlips_44 : decode (D_X12_laysSlips).2.1 44 = .ok (.iload_n 3, 1) := by decide +kernel
theorem d_X12_laysSlips_45 : decode (D_X12_laysSlips).2.1 45 = .ok (.iconst 0, 1) := by decide +kernel
theorem d_X12_laysSlips_46 : decode (D_X12_laysSlips).2.1 46 = .ok (.iastore, 1) := by decide +kernel
theorem d_X12_laysSlips_47 : decode (D_X12_laysSlips).2.1 47 = .ok (.iconst 0, 1) := by decide +kernel
theorem d_X12_laysSlips_48 : decode (D_X12_laysSlips).2.1 48 = .ok (.istore 4, 2) := by decide +kernel
theorem d_X12_laysSlips_50 : decode (D_X12_laysSlips).2.1 50 = .ok (.iload 4, 2) := by decide +kernel
theorem d_X12_laysSlips_52 : decode (D_X12_laysSlips).2.1 52 = .ok (.iload_n 2, 1) := by decide +kernel
theorem d_X12_laysSlips_53 : decode (D_X12_laysSlips).2.1 53 = .ok (.if_icmp .ge 86, 3) := by decide +kernel
theorem d_X12_laysSlips_56 : decode (D_X12_laysSlips).2.1 56 = .ok (.bipush 60, 2) := by decide +kernel
theorem d_X12_laysSlips_58 : decode (D_X12_laysSlips).2.1 58 = .ok (.iload_n 1, 1) := by decide +kernel
theorem d_X12_laysSlips_59 : decode (D_X12_laysSlips).2.1 59 = .ok (.imul, 1) := by decide +kernel
theorem d_X12_laysSlips_60 : decode (D_X12_laysSlips).2.1 60 = .ok (.iconst 3, 1) := by decide +kernel
theorem d_X12_laysSlips_61 : decode (D_X12_laysSlips).2.1 61 = .ok (.iload 4, 2) := by decide +kernel
theorem d_X12_laysSlips_63 : decode (D_X12_laysSlips).2.1 63 = .ok (.imul, 1) := by decide +kernel
theorem d_X12_laysSlips_64 : decode (D_X12_laysSlips).2.1 64 = .ok (.iadd, 1) := by decide +kernel
theorem d_X12_laysSlips_65 : decode (D_X12_laysSlips).2.1 65 = .ok (.istore 5, 2) := by decide +kernel
theorem d_X12_laysSlips_67 : decode (D_X12_laysSlips).2.1 67 = .ok (.aload_n 0, 1) := by decide +kernel
theorem d_X12_laysSlips_68 : decode (D_X12_laysSlips).2.1 68 = .ok (.getfield 47, 3) := by decide +kernel
theorem d_X12_laysSlips_71 : decode (D_X12_laysSlips).2.1 71 = .ok (.bipush 8, 2) := by decide +kernel
theorem d_X12_laysSlips_73 : decode (D_X12_laysSlips).2.1 73 = .ok (.aload_n 0, 1) := by decide +kernel
theorem d_X12_laysSlips_74 : decode (D_X12_laysSlips).2.1 74 = .ok (.getfield 27, 3) := by decide +kernel
theorem d_X12_laysSlips_77 : decode (D_X12_laysSlips).2.1 77 = .ok (.iload 5, 2) := by decide +kernel
theorem d_X12_laysSlips_79 : decode (D_X12_laysSlips).2.1 79 = .ok (.laload, 1) := by decide +kernel
theorem d_X12_laysSlips_80 : decode (D_X12_laysSlips).2.1 80 = .ok (.l2i, 1) := by decide +kernel
theorem d_X12_laysSlips_81 : decode (D_X12_laysSlips).2.1 81 = .ok (.imul, 1) := by decide +kernel
theorem d_X12_laysSlips_82 : decode (D_X12_laysSlips).2.1 82 = .ok (.aload_n 0, 1) := by decide +kernel
theorem d_X12_laysSlips_83 : decode (D_X12_laysSlips).2.1 83 = .ok (.getfield 27, 3) := by decide +kernel
theorem d_X12_laysSlips_86 : decode (D_X12_laysSlips).2.1 86 = .ok (.iload 5, 2) := by decide +kernel
theorem d_X12_laysSlips_88 : decode (D_X12_laysSlips).2.1 88 = .ok (.iconst 2, 1) := by decide +kernel
theorem d_X12_laysSlips_89 : decode (D_X12_laysSlips).2.1 89 = .ok (.iadd, 1) := by decide +kernel
theorem d_X12_laysSlips_90 : decode (D_X12_laysSlips).2.1 90 = .ok (.laload, 1) := by decide +kernel
theorem d_X12_laysSlips_91 : decode (D_X12_laysSlips).2.1 91 = .ok (.l2i, 1) := by decide +kernel
theorem d_X12_laysSlips_92 : decode (D_X12_laysSlips).2.1 92 = .ok (.iadd, 1) := by decide +kernel
theorem d_X12_laysSlips_93 : decode (D_X12_laysSlips).2.1 93 = .ok (.iaload, 1) := by decide +kernel
theorem d_X12_laysSlips_94 : decode (D_X12_laysSlips).2.1 94 = .ok (.aload_n 0, 1) := by decide +kernel
theorem d_X12_laysSlips_95 : decode (D_X12_laysSlips).2.1 95 = .ok (.getfield 27, 3) := by decide +kernel
theorem d_X12_laysSlips_98 : decode (D_X12_laysSlips).2.1 98 = .ok (.iload 5, 2) := by decide +kernel
theorem d_X12_laysSlips_100 : decode (D_X12_laysSlips).2.1 100 = .ok (.iconst 1, 1) := by decide +kernel
theorem d_X12_laysSlips_101 : decode (D_X12_laysSlips).2.1 101 = .ok (.iadd, 1) := by decide +kernel
theorem d_X12_laysSlips_102 : decode (D_X12_laysSlips).2.1 102 = .ok (.laload, 1) := by decide +kernel
theorem d_X12_laysSlips_103 : decode (D_X12_laysSlips).2.1 103 = .ok (.l2i, 1) := by decide +kernel
theorem d_X12_laysSlips_104 : decode (D_X12_laysSlips).2.1 104 = .ok (.if_icmp .ne 7, 3) := by decide +kernel
theorem d_X12_laysSlips_107 : decode (D_X12_laysSlips).2.1 107 = .ok (.iconst 1, 1) := by decide +kernel
theorem d_X12_laysSlips_108 : decode (D_X12_laysSlips).2.1 108 = .ok (.goto 4, 3) := by decide +kernel
theorem d_X12_laysSlips_111 : decode (D_X12_laysSlips).2.1 111 = .ok (.iconst 0, 1) := by decide +kernel
theorem d_X12_laysSlips_112 : decode (D_X12_laysSlips).2.1 112 = .ok (.istore 6, 2) := by decide +kernel
theorem d_X12_laysSlips_114 : decode (D_X12_laysSlips).2.1 114 = .ok (.aload_n 0, 1) := by decide +kernel
theorem d_X12_laysSlips_115 : decode (D_X12_laysSlips).2.1 115 = .ok (.getfield 65, 3) := by decide +kernel
theorem d_X12_laysSlips_118 : decode (D_X12_laysSlips).2.1 118 = .ok (.iload_n 3, 1) := by decide +kernel
theorem d_X12_laysSlips_119 : decode (D_X12_laysSlips).2.1 119 = .ok (.dup2, 1) := by decide +kernel
theorem d_X12_laysSlips_120 : decode (D_X12_laysSlips).2.1 120 = .ok (.iaload, 1) := by decide +kernel
theorem d_X12_laysSlips_121 : decode (D_X12_laysSlips).2.1 121 = .ok (.iload 6, 2) := by decide +kernel
theorem d_X12_laysSlips_123 : decode (D_X12_laysSlips).2.1 123 = .ok (.ifCond .eq 7, 3) := by decide +kernel
theorem d_X12_laysSlips_126 : decode (D_X12_laysSlips).2.1 126 = .ok (.iconst 0, 1) := by decide +kernel
theorem d_X12_laysSlips_127 : decode (D_X12_laysSlips).2.1 127 = .ok (.goto 4, 3) := by decide +kernel
theorem d_X12_laysSlips_130 : decode (D_X12_laysSlips).2.1 130 = .ok (.iconst 1, 1) := by decide +kernel
theorem d_X12_laysSlips_131 : decode (D_X12_laysSlips).2.1 131 = .ok (.iadd, 1) := by decide +kernel
theorem d_X12_laysSlips_132 : decode (D_X12_laysSlips).2.1 132 = .ok (.iastore, 1) := by decide +kernel
theorem d_X12_laysSlips_133 : decode (D_X12_laysSlips).2.1 133 = .ok (.iinc 4 1, 3) := by decide +kernel
theorem d_X12_laysSlips_136 : decode (D_X12_laysSlips).2.1 136 = .ok (.goto (-86), 3) := by decide +kernel
theorem d_X12_laysSlips_139 : decode (D_X12_laysSlips).2.1 139 = .ok (.iinc 3 1, 3) := by decide +kernel
theorem d_X12_laysSlips_142 : decode (D_X12_laysSlips).2.1 142 = .ok (.goto (-140), 3) := by decide +kernel
theorem d_X12_laysSlips_145 : decode (D_X12_laysSlips).2.1 145 = .ok (.return_, 1) := by decide +kernel
def f_X12_laysSlips_L131 (n : Nat) (r2 : Int → Int → Int → JMem → Option (Int × JMem)) (r50 : Int → Int → Int → Int → JMem → Option (Int × JMem)) (v1 v2 v3 v4 w1 w2 w3 : Int) (M : JMem) : Option (Int × JMem) := chk (jin w1 256) <| letm (jup M 182 (jw w1).toNat (w2 + w3)) fun M1 => letv (v4 + 1) fun y2 => r50 v1 v2 v3 y2 M1
set_option maxRecDepth 4000 in
theorem t_X12_laysSlips_L131 {g : JG} {ad : Nat → Nat} (hs : jStr g ad) (n : Nat) (r2 : Int → Int → Int → JMem → Option (Int × JMem)) (r50 : Int → Int → Int → Int → JMem → Option (Int × JMem)) (hr2 : ∀ (v1 v2 v3 : Int) (M : JMem), jB g D_X12_laysSlips ad 2 [some (.ref 167), some (ji v1), some (ji v2), some (ji v3), none, none, none] [] M (r2 v1 v2 v3 M)) (hr50 : ∀ (v1 v2 v3 v4 : Int) (M : JMem), jB g D_X12_laysSlips ad 50 [some (.ref 167), some (ji v1), some (ji v2), some (ji v3), some (ji v4), none, none] [] M (r50 v1 v2 v3 v4 M)) (v1 v2 v3 v4 w1 w2 w3 : Int) (M : JMem) : jB g D_X12_laysSlips ad 131 [some (.ref 167), some (ji v1), some (ji v2), some (ji v3), some (ji v4), none, none] [ji w3, ji w2, ji w1, .ref 182] M (f_X12_laysSlips_L131 n r2 r50 v1 v2 v3 v4 w1 w2 w3 M) := by
  unfold f_X12_laysSlips_L131
  refine jo_iadd d_X12_laysSlips_131 ?_
  refine jo_iast (N := 256) kc_182 d_X12_laysSlips_132 (fun M1 => ?_)
  refine jo_iinc 4 d_X12_laysSlips_133 rfl (Nat.le_of_ble_eq_true rfl) (fun y2 => ?_)
  refine jo_goto 50 d_X12_laysSlips_136 (by decide) ?_
  exact jO.sub (hr50 v1 v2 v3 y2 M1) (And.intro rfl (And.intro rfl (And.intro rfl (And.intro rfl (And.intro rfl True.intro)))))
def f_X12_laysSlips_L112 (n : Nat) (r2 : Int → Int → Int → JMem → Option (Int × JMem)) (r50 : Int → Int → Int → Int → JMem → Option (Int × JMem)) (v1 v2 v3 v4 w0 : Int) (M : JMem) : Option (Int × JMem) := letv w0 fun y1 => chk (jin v3 256) <| if jw y1 = 0 then (f_X12_laysSlips_L131 n r2 r50 v1 v2 v3 v4 v3 (M 182 (jw v3).toNat) 1 M) else (f_X12_laysSlips_L131 n r2 r50 v1 v2 v3 v4 v3 (M 182 (jw v3).toNat) 0 M)
set_option maxRecDepth 4000 in
theorem t_X12_laysSlips_L112 {g : JG} {ad : Nat → Nat} (hs : jStr g ad) (n : Nat) (r2 : Int → Int → Int → JMem → Option (Int × JMem)) (r50 : Int → Int → Int → Int → JMem → Option (Int × JMem)) (hr2 : ∀ (v1 v2 v3 : Int) (M : JMem), jB g D_X12_laysSlips ad 2 [some (.ref 167), some (ji v1), some (ji v2), some (ji v3), none, none, none] [] M (r2 v1 v2 v3 M)) (hr50 : ∀ (v1 v2 v3 v4 : Int) (M : JMem), jB g D_X12_laysSlips ad 50 [some (.ref 167), some (ji v1), some (ji v2), some (ji v3), some (ji v4), none, none] [] M (r50 v1 v2 v3 v4 M)) (v1 v2 v3 v4 w0 : Int) (M : JMem) : jB g D_X12_laysSlips ad 112 [some (.ref 167), some (ji v1), some (ji v2), some (ji v3), some (ji v4), none, none] [ji w0] M (f_X12_laysSlips_L112 n r2 r50 v1 v2 v3 v4 w0 M) := by
  unfold f_X12_laysSlips_L112
  refine jo_istoreW 6 d_X12_laysSlips_112 (Nat.le_of_ble_eq_true rfl) (fun y1 => ?_)
  refine jo_aload 0 d_X12_laysSlips_114 rfl rfl ?_
  refine jo_getR (k := 31) cl_12 (Nat.le_of_ble_eq_true rfl) lk_X12_65 rfl kc_167 kr_167_31 d_X12_laysSlips_115 ?_
  refine jo_iload 3 d_X12_laysSlips_118 rfl rfl ?_
  refine jo_dup2 d_X12_laysSlips_119 rfl rfl ?_
  refine jo_iald (N := 256) kc_182 d_X12_laysSlips_120 ?_
  refine jo_iloadW 6 d_X12_laysSlips_121 rfl ?_
  refine jo_if_eq 130 d_X12_laysSlips_123 (by decide) ?_ ?_
  · skip
    refine jo_iconst 1 d_X12_laysSlips_130 ?_
    exact jO.sub (t_X12_laysSlips_L131 hs n r2 r50 hr2 hr50 v1 v2 v3 v4 v3 (M 182 (jw v3).toNat) 1 M) (And.intro rfl (And.intro rfl (And.intro rfl (And.intro rfl (And.intro rfl True.intro)))))
  · skip
    refine jo_iconst 0 d_X12_laysSlips_126 ?_
    refine jo_goto 131 d_X12_laysSlips_127 (by decide) ?_
    exact jO.sub (t_X12_laysSlips_L131 hs n r2 r50 hr2 hr50 v1 v2 v3 v4 v3 (M 182 (jw v3).toNat) 0 M) (And.intro rfl (And.intro rfl (And.intro rfl (And.intro rfl (And.intro rfl True.intro)))))
def f_X12_laysSlips_L139 (n : Nat) (r2 : Int → Int → Int → JMem → Option (Int × JMem)) (v1 v2 v3 : Int) (M : JMem) : Option (Int × JMem) := letv (v3 + 1) fun y1 => r2 v1 v2 y1 M
set_option maxRecDepth 4000 in
theorem t_X12_laysSlips_L139 {g : JG} {ad : Nat → Nat} (hs : jStr g ad) (n : Nat) (r2 : Int → Int → Int → JMem → Option (Int × JMem)) (hr2 : ∀ (v1 v2 v3 : Int) (M : JMem), jB g D_X12_laysSlips ad 2 [some (.ref 167), some (ji v1), some (ji v2), some (ji v3), none, none, none] [] M (r2 v1 v2 v3 M)) (v1 v2 v3 : Int) (M : JMem) : jB g D_X12_laysSlips ad 139 [some (.ref 167), some (ji v1), some (ji v2), some (ji v3), none, none, none] [] M (f_X12_laysSlips_L139 n r2 v1 v2 v3 M) := by
  unfold f_X12_laysSlips_L139
  refine jo_iinc 3 d_X12_laysSlips_139 rfl (Nat.le_of_ble_eq_true rfl) (fun y1 => ?_)
  refine jo_goto 2 d_X12_laysSlips_142 (by decide) ?_
  exact jO.sub (hr2 v1 v2 y1 M) (And.intro rfl (And.intro rfl (And.intro rfl (And.intro rfl True.intro))))
def f_X12_laysSlips_L50 (n : Nat) (r2 : Int → Int → Int → JMem → Option (Int × JMem)) : Nat → Int → Int → Int → Int → JMem → Option (Int × JMem)
  | 0, _, _, _, _, _ => none
  | k + 1, v1, v2, v3, v4, M => if jw v2 ≤ jw v4 then (f_X12_laysSlips_L139 n r2 v1 v2 v3 M) else (letv ((60 * v1) + (3 * v4)) fun y1 => chk (jin y1 240) <| chk (jin (y1 + 2) 240) <| chk (jin ((8 * (M 172 (jw y1).toNat)) + (M 172 (jw (y1 + 2)).toNat)) 520) <| chk (jin (y1 + 1) 240) <| if jw (M 176 (jw ((8 * (M 172 (jw y1).toNat)) + (M 172 (jw (y1 + 2)).toNat))).toNat) = jw (M 172 (jw (y1 + 1)).toNat) then (f_X12_laysSlips_L112 n r2 (f_X12_laysSlips_L50 n r2 k) v1 v2 v3 v4 1 M) else (f_X12_laysSlips_L112 n r2 (f_X12_laysSlips_L50 n r2 k) v1 v2 v3 v4 0 M))
set_option maxRecDepth 4000 in
theorem t_X12_laysSlips_L50 {g : JG} {ad : Nat → Nat} (hs : jStr g ad) (n : Nat) (r2 : Int → Int → Int → JMem → Option (Int × JMem)) (hr2 : ∀ (v1 v2 v3 : Int) (M : JMem), jB g D_X12_laysSlips ad 2 [some (.ref 167), some (ji v1), some (ji v2), some (ji v3), none, none, none] [] M (r2 v1 v2 v3 M)) : ∀ (k : Nat) (v1 v2 v3 v4 : Int) (M : JMem), jB g D_X12_laysSlips ad 50 [some (.ref 167), some (ji v1), some (ji v2), some (ji v3), some (ji v4), none, none] [] M (f_X12_laysSlips_L50 n r2 k v1 v2 v3 v4 M) := by
  intro k
  induction k with
  | zero => intro v1 v2 v3 v4 M; exact jO.none
  | succ k ih =>
    intro v1 v2 v3 v4 M
    rw [f_X12_laysSlips_L50]
    refine jo_iloadW 4 d_X12_laysSlips_50 rfl ?_
    refine jo_iload 2 d_X12_laysSlips_52 rfl rfl ?_
    refine jo_icmp_ge 139 d_X12_laysSlips_53 (by decide) ?_ ?_
    · skip
      exact jO.sub (t_X12_laysSlips_L139 hs n r2 hr2 v1 v2 v3 M) (And.intro rfl (And.intro rfl (And.intro rfl (And.intro rfl True.intro))))
    · skip
      refine jo_bipush 60 d_X12_laysSlips_56 (by decide) ?_
      refine jo_iload 1 d_X12_laysSlips_58 rfl rfl ?_
      refine jo_imul d_X12_laysSlips_59 ?_
      refine jo_iconst 3 d_X12_laysSlips_60 ?_
      refine jo_iloadW 4 d_X12_laysSlips_61 rfl ?_
      refine jo_imul d_X12_laysSlips_63 ?_
      refine jo_iadd d_X12_laysSlips_64 ?_
      refine jo_istoreW 5 d_X12_laysSlips_65 (Nat.le_of_ble_eq_true rfl) (fun y1 => ?_)
      refine jo_aload 0 d_X12_laysSlips_67 rfl rfl ?_
      refine jo_getR (k := 24) cl_12 (Nat.le_of_ble_eq_true rfl) lk_X12_47 rfl kc_167 kr_167_24 d_X12_laysSlips_68 ?_
      refine jo_bipush 8 d_X12_laysSlips_71 (by decide) ?_
      refine jo_aload 0 d_X12_laysSlips_73 rfl rfl ?_
      refine jo_getR (k := 7) cl_12 (Nat.le_of_ble_eq_true rfl) lk_X12_27 rfl kc_167 kr_167_7 d_X12_laysSlips_74 ?_
      refine jo_iloadW 5 d_X12_laysSlips_77 rfl ?_
      refine jo_lald (N := 240) kc_172 d_X12_laysSlips_79 ?_
      refine jo_l2i d_X12_laysSlips_80 ?_
      refine jo_imul d_X12_laysSlips_81 ?_
      refine jo_aload 0 d_X12_laysSlips_82 rfl rfl ?_
      refine jo_getR (k := 7) cl_12 (Nat.le_of_ble_eq_true rfl) lk_X12_27 rfl kc_167 kr_167_7 d_X12_laysSlips_83 ?_
      refine jo_iloadW 5 d_X12_laysSlips_86 rfl ?_
      refine jo_iconst 2 d_X12_laysSlips_88 ?_
      refine jo_iadd d_X12_laysSlips_89 ?_
      refine jo_lald (N := 240) kc_172 d_X12_laysSlips_90 ?_
      refine jo_l2i d_X12_laysSlips_91 ?_
      refine jo_iadd d_X12_laysSlips_92 ?_
      refine jo_iald (N := 520) kc_176 d_X12_laysSlips_93 ?_
      refine jo_aload 0 d_X12_laysSlips_94 rfl rfl ?_
      refine jo_getR (k := 7) cl_12 (Nat.le_of_ble_eq_true rfl) lk_X12_27 rfl kc_167 kr_167_7 d_X12_laysSlips_95 ?_
      refine jo_iloadW 5 d_X12_laysSlips_98 rfl ?_
      refine jo_iconst 1 d_X12_laysSlips_100 ?_
      refine jo_iadd d_X12_laysSlips_101 ?_
      refine jo_lald (N := 240) kc_172 d_X12_laysSlips_102 ?_
      refine jo_l2i d_X12_laysSlips_103 ?_
      refine jo_icmp_ne 111 d_X12_laysSlips_104 (by decide) ?_ ?_
      · skip
        refine jo_iconst 0 d_X12_laysSlips_111 ?_
        exact jO.sub (t_X12_laysSlips_L112 hs n r2 (f_X12_laysSlips_L50 n r2 k) hr2 ih v1 v2 v3 v4 0 M) (And.intro rfl (And.intro rfl (And.intro rfl (And.intro rfl (And.intro rfl True.intro)))))
      · skip
        refine jo_iconst 1 d_X12_laysSlips_107 ?_
        refine jo_goto 112 d_X12_laysSlips_108 (by decide) ?_
        exact jO.sub (t_X12_laysSlips_L112 hs n r2 (f_X12_laysSlips_L50 n r2 k) hr2 ih v1 v2 v3 v4 1 M) (And.intro rfl (And.intro rfl (And.intro rfl (And.intro rfl (And.intro rfl True.intro)))))
def f_X12_laysSlips_L2 (n : Nat) : Nat → Int → Int → Int → JMem → Option (Int × JMem)
  | 0, _, _, _, _ => none
  | k + 1, v1, v2, v3, M => chk (jin 2 3160) <| if jw (jshl 1 (M 168 (jw 2).toNat)) ≤ jw v3 then (some (0, M)) else (chk (jin v3 256) <| letm (jup M 182 (jw v3).toNat 1000000) fun M1 => bnd (f_X12_areAlive n v3 M1) fun r2 M3 => if jw r2 = 0 then (f_X12_laysSlips_L139 n (f_X12_laysSlips_L2 n k) v1 v2 v3 M3) else (bnd (f_X12_lettingOut n v3 M3) fun r4 M5 => chk (jin v3 256) <| letm (jup M5 182 (jw v3).toNat 0) fun M6 => letv 0 fun y7 => f_X12_laysSlips_L50 n (f_X12_laysSlips_L2 n k) n v1 v2 v3 y7 M6))
set_option maxRecDepth 4000 in
theorem t_X12_laysSlips_L2 {g : JG} {ad : Nat → Nat} (hs : jStr g ad) (n : Nat) : ∀ (k : Nat) (v1 v2 v3 : Int) (M : JMem), jB g D_X12_laysSlips ad 2 [some (.ref 167), some (ji v1), some (ji v2), some (ji v3), none, none, none] [] M (f_X12_laysSlips_L2 n k v1 v2 v3 M) := by
  intro k
  induction k with
  | zero => intro v1 v2 v3 M; exact jO.none
  | succ k ih =>
    intro v1 v2 v3 M
    rw [f_X12_laysSlips_L2]
    refine jo_iload 3 d_X12_laysSlips_2 rfl rfl ?_
    refine jo_iconst 1 d_X12_laysSlips_3 ?_
    refine jo_aload 0 d_X12_laysSlips_4 rfl rfl ?_
    refine jo_getR (k := 0) cl_12 (Nat.le_of_ble_eq_true rfl) lk_X12_7 rfl kc_167 kr_167_0 d_X12_laysSlips_5 ?_
    refine jo_iconst 2 d_X12_laysSlips_8 ?_
    refine jo_iald (N := 3160) kc_168 d_X12_laysSlips_9 ?_
    refine jo_ishl d_X12_laysSlips_10 ?_
    refine jo_icmp_ge 145 d_X12_laysSlips_11 (by decide) ?_ ?_
    · skip
      exact jo_vret rfl d_X12_laysSlips_145
    · skip
      refine jo_aload 0 d_X12_laysSlips_14 rfl rfl ?_
      refine jo_getR (k := 31) cl_12 (Nat.le_of_ble_eq_true rfl) lk_X12_65 rfl kc_167 kr_167_31 d_X12_laysSlips_15 ?_
      refine jo_iload 3 d_X12_laysSlips_18 rfl rfl ?_
      refine jo_ldcw 1000000 lc_X12_375 d_X12_laysSlips_19 ?_
      refine jo_iast (N := 256) kc_182 d_X12_laysSlips_22 (fun M1 => ?_)
      refine jo_aload 0 d_X12_laysSlips_23 rfl rfl ?_
      refine jo_iload 3 d_X12_laysSlips_24 rfl rfl ?_
      refine jo_callV (st := []) (m_X12_areAlive hs n v3 M1) ok_X12_areAlive (And.intro (Nat.le_of_ble_eq_true rfl) (Nat.le_of_ble_eq_true rfl)) lm_X12_369 in_X12_areAlive se_X12_areAlive rfl kc_167 rfl rfl (And.intro (Nat.zero_le _) (Nat.zero_le _)) rfl (Nat.le_of_ble_eq_true rfl) d_X12_laysSlips_25 (fun r2 M3 => ?_)
      refine jo_if_ne 34 d_X12_laysSlips_28 (by decide) ?_ ?_
      · skip
        refine jo_aload 0 d_X12_laysSlips_34 rfl rfl ?_
        refine jo_iload 3 d_X12_laysSlips_35 rfl rfl ?_
        refine jo_callV (st := []) (m_X12_lettingOut hs n v3 M3) ok_X12_lettingOut (And.intro (Nat.le_of_ble_eq_true rfl) (Nat.le_of_ble_eq_true rfl)) lm_X12_372 in_X12_lettingOut se_X12_lettingOut rfl kc_167 rfl rfl (And.intro (Nat.zero_le _) (Nat.zero_le _)) rfl (Nat.le_of_ble_eq_true rfl) d_X12_laysSlips_36 (fun r4 M5 => ?_)
        refine jo_pop d_X12_laysSlips_39 rfl ?_
        refine jo_aload 0 d_X12_laysSlips_40 rfl rfl ?_
        refine jo_getR (k := 31) cl_12 (Nat.le_of_ble_eq_true rfl) lk_X12_65 rfl kc_167 kr_167_31 d_X12_laysSlips_41 ?_
        refine jo_iload 3 d_X12_laysSlips_44 rfl rfl ?_
        refine jo_iconst 0 d_X12_laysSlips_45 ?_
        refine jo_iast (N := 256) kc_182 d_X12_laysSlips_46 (fun M6 => ?_)
        refine jo_iconst 0 d_X12_laysSlips_47 ?_
        refine jo_istoreW 4 d_X12_laysSlips_48 (Nat.le_of_ble_eq_true rfl) (fun y7 => ?_)
        exact jO.sub (t_X12_laysSlips_L50 hs n (f_X12_laysSlips_L2 n k) ih n v1 v2 v3 y7 M6) (And.intro rfl (And.intro rfl (And.intro rfl (And.intro rfl (And.intro rfl True.intro)))))
      · skip
        refine jo_goto 139 d_X12_laysSlips_31 (by decide) ?_
        exact jO.sub (t_X12_laysSlips_L139 hs n (f_X12_laysSlips_L2 n k) ih v1 v2 v3 M3) (And.intro rfl (And.intro rfl (And.intro rfl (And.intro rfl True.intro))))
def f_X12_laysSlips (n : Nat) (x1 : Int) (x2 : Int) (M : JMem) : Option (Int × JMem) := letv 0 fun y1 => f_X12_laysSlips_L2 n n x1 x2 y1 M
set_option maxRecDepth 4000 in
theorem t_X12_laysSlips {g : JG} {ad : Nat → Nat} (hs : jStr g ad) (n : Nat) (x1 : Int) (x2 : Int) (M : JMem) : jB g D_X12_laysSlips ad 0 [some (.ref 167), some (ji x1), some (ji x2), none, none, none, none] [] M (f_X12_laysSlips n x1 x2 M) := by
  unfold f_X12_laysSlips
  refine jo_iconst 0 d_X12_laysSlips_0 ?_
  refine jo_istore 3 d_X12_laysSlips_1 rfl (Nat.le_of_ble_eq_true rfl) (fun y1 => ?_)
  exact jO.sub (t_X12_laysSlips_L2 hs n n x1 x2 y1 M) (And.intro rfl (And.intro rfl (And.intro rfl (And.intro rfl True.intro))))
theorem m_X12_laysSlips {g : JG} {ad : Nat → Nat} (hs : jStr g ad) (n : Nat) (x1 : Int) (x2 : Int) (M : JMem) : jMet g jNN ad jR D_X12_laysSlips yX12_laysSlips [.ref 167, ji x1, ji x2] M (f_X12_laysSlips n x1 x2 M) :=
  jMet.of (lo0 := [some (.ref 167), some (ji x1), some (ji x2), none, none, none, none]) (by decide) rfl rfl (Nat.le_of_ble_eq_true rfl) (And.intro rfl (And.intro rfl (And.intro rfl True.intro))) (t_X12_laysSlips hs n x1 x2 M)
/-! CageLeaveModel.let(IZ)Z -/
def D_X12_let : JD := (RX12, cX12_let, 3, some .boolean, "let", { frames := 3, cells := 0, slots := 0, locals := 63 })
theorem ok_X12_let : jOk D_X12_let yX12_let 2 := ⟨jTW_mem (k := 1832) (by decide +kernel) rfl, jTW_mem (k := 151) (by decide +kernel) rfl, ⟨by decide +kernel, by decide +kernel⟩, by decide +kernel, rfl, rfl⟩
theorem in_X12_let : Cond.instanceMethod yX12_let ∈ jTW := jTW_mem (k := 1830) (by decide +kernel) rfl
theorem se_X12_let : Cond.selects yX12_let.cls yX12_let yX12_let ∈ jTW := jTW_mem (k := 1831) (by decide +kernel) rfl
theorem d_X12_let_0 : decode (D_X12_let).2.1 0 = .ok (.aload_n 0, 1) := by decide +kernel
theorem d_X12_let_1 : decode (D_X12_let).2.1 1 = .ok (.iload_n 1, 1) := by decide +kernel
theorem d_X12_let_2 : decode (D_X12_let).2.1 2 = .ok (.invokevirtual 263, 3) := by decide +kernel
theorem d_X12_let_5 : decode (D_X12_let).2.1 5 = .ok (.ifCond .ne 9, 3) := by decide +kernel
theorem d_X12_let_8 : decode (D_X12_let).2.1 8 = .ok (.aload_n 0, 1) := by decide +kernel
theorem d_X12_let_9 : decode (D_X12_let).2.1 9 = .ok (.iconst 1, 1) := by decide +kernel
theorem d_X12_let_10 : decode (D_X12_let).2.1 10 = .ok (.invokevirtual 94, 3) := by decide +kernel
theorem d_X12_let_13 : decode (D_X12_let).2.1 13 = .ok (.ireturn, 1) := by decide +kernel
theorem d_X12_let_14 : decode (D_X12_let).2.1 14 = .ok (.aload_n 0, 1) := by decide +kernel
theorem d_X12_let_15 : decode (D_X12_let).2.1 15 = .ok (.iload_n 1, 1) := by decide +kernel
theorem d_X12_let_16 : decode (D_X12_let).2.1 16 = .ok (.invokevirtual 279, 3) := by decide +kernel
theorem d_X12_let_19 : decode (D_X12_let).2.1 19 = .ok (.ifCond .ne 22, 3) := by decide +kernel
theorem d_X12_let_22 : decode (D_X12_let).2.1 22 = .ok (.aload_n 0, 1) := by decide +kernel
theorem d_X12_let_23 : decode (D_X12_let).2.1 23 = .ok (.iload_n 1, 1) := by decide +kernel
theorem d_X12_let_24 : decode (D_X12_let).2.1 24 = .ok (.iconst 2, 1) := by decide +kernel
theorem d_X12_let_25 : decode (D_X12_let).2.1 25 = .ok (.invokevirtual 276, 3) := by decide +kernel
theorem d_X12_let_28 : decode (D_X12_let).2.1 28 = .ok (.iconst 1, 1) := by decide +kernel
theorem d_X12_let_29 : decode (D_X12_let).2.1 29 = .ok (.if_icmp .ne 7, 3) := by decide +kernel
theorem d_X12_let_32 : decode (D_X12_let).2.1 32 = .ok (.iconst 1, 1) := by decide +kernel
theorem d_X12_let_33 : decode (D_X12_let).2.1 33 = .ok (.goto 4, 3) := by decide +kernel
theorem d_X12_let_36 : decode (D_X12_let).2.1 36 = .ok (.iconst 0, 1) := by decide +kernel
theorem d_X12_let_37 : decode (D_X12_let).2.1 37 = .ok (.iload_n 2, 1) := by decide +kernel
theorem d_X12_let_38 : decode (D_X12_let).2.1 38 = .ok (.if_icmp .ne 10, 3) := by decide +kernel
theorem d_X12_let_41 : decode (D_X12_let).2.1 41 = .ok (.aload_n 0, 1) := by decide +kernel
theorem d_X12_let_42 : decode (D_X12_let).2.1 42 = .ok (.bipush 7, 2) := by decide +kernel
theorem d_X12_let_44 : decode (D_X12_let).2.1 44 = .ok (.invokevirtual 94, 3) := by decide +kernel
theorem d_X12_let_47 : decode (D_X12_let).2.1 47 = .ok (.ireturn, 1) := by decide +kernel
theorem d_X12_let_48 : decode (D_X12_let).2.1 48 = .ok (.aload_n 0, 1) := by decide +kernel
theorem d_X12_let_49 : decode (D_X12_let).2.1 49 = .ok (.getfield 7, 3) := by decide +kernel
theorem d_X12_let_52 : decode (D_X12_let).2.1 52 = .ok (.iload_n 1, 1) := by decide +kernel
theorem d_X12_let_53 : decode (D_X12_let).2.1 53 = .ok (.invokestatic 270, 3) := by decide +kernel
theorem d_X12_let_56 : decode (D_X12_let).2.1 56 = .ok (.iconst 2, 1) := by decide +kernel
theorem d_X12_let_57 : decode (D_X12_let).2.1 57 = .ok (.iadd, 1) := by decide +kernel
theorem d_X12_let_58 : decode (D_X12_let).2.1 58 = .ok (.iload_n 2, 1) := by decide +kernel
theorem d_X12_let_59 : decode (D_X12_let).2.1 59 = .ok (.ifCond .eq 7, 3) := by decide +kernel
theorem d_X12_let_62 : decode (D_X12_let).2.1 62 = .ok (.iconst 1, 1) := by decide +kernel
theorem d_X12_let_63 : decode (D_X12_let).2.1 63 = .ok (.goto 4, 3) := by decide +kernel
theorem d_X12_let_66 : decode (D_X12_let).2.1 66 = .ok (.iconst 0, 1) := by decide +kernel
theorem d_X12_let_67 : decode (D_X12_let).2.1 67 = .ok (.iastore, 1) := by decide +kernel
theorem d_X12_let_68 : decode (D_X12_let).2.1 68 = .ok (.aload_n 0, 1) := by decide +kernel
theorem d_X12_let_69 : decode (D_X12_let).2.1 69 = .ok (.iconst 0, 1) := by decide +kernel
theorem d_X12_let_70 : decode (D_X12_let).2.1 70 = .ok (.invokevirtual 94, 3) := by decide +kernel
theorem d_X12_let_73 : decode (D_X12_let).2.1 73 = .ok (.ireturn, 1) := by decide +kernel
def f_X12_let_L41 (n : Nat) (M : JMem) : Option (Int × JMem) := bnd (f_X12_is n 7 M) fun r1 M2 => chk (jw r1 = 0 ∨ jw r1 = 1) (some (r1, M2))
set_option maxRecDepth 4000 in
theorem t_X12_let_L41 {g : JG} {ad : Nat → Nat} (hs : jStr g ad) (n : Nat) (M : JMem) : jB g D_X12_let ad 41 [some (.ref 167), none, none] [] M (f_X12_let_L41 n M) := by
  unfold f_X12_let_L41
  refine jo_aload 0 d_X12_let_41 rfl rfl ?_
  refine jo_bipush 7 d_X12_let_42 (by decide) ?_
  refine jo_callV (st := []) (m_X12_is hs n 7 M) ok_X12_is (And.intro (Nat.le_of_ble_eq_true rfl) (Nat.le_of_ble_eq_true rfl)) lm_X12_94 in_X12_is se_X12_is rfl kc_167 rfl rfl (And.intro (Nat.zero_le _) (Nat.zero_le _)) rfl (Nat.le_of_ble_eq_true rfl) d_X12_let_44 (fun r1 M2 => ?_)
  exact jo_zretq rfl d_X12_let_47
def f_X12_let_L67 (n : Nat) (w1 w2 : Int) (M : JMem) : Option (Int × JMem) := chk (jin w1 3160) <| letm (jup M 168 (jw w1).toNat w2) fun M1 => bnd (f_X12_is n 0 M1) fun r2 M3 => chk (jw r2 = 0 ∨ jw r2 = 1) (some (r2, M3))
set_option maxRecDepth 4000 in
theorem t_X12_let_L67 {g : JG} {ad : Nat → Nat} (hs : jStr g ad) (n : Nat) (w1 w2 : Int) (M : JMem) : jB g D_X12_let ad 67 [some (.ref 167), none, none] [ji w2, ji w1, .ref 168] M (f_X12_let_L67 n w1 w2 M) := by
  unfold f_X12_let_L67
  refine jo_iast (N := 3160) kc_168 d_X12_let_67 (fun M1 => ?_)
  refine jo_aload 0 d_X12_let_68 rfl rfl ?_
  refine jo_iconst 0 d_X12_let_69 ?_
  refine jo_callV (st := []) (m_X12_is hs n 0 M1) ok_X12_is (And.intro (Nat.le_of_ble_eq_true rfl) (Nat.le_of_ble_eq_true rfl)) lm_X12_94 in_X12_is se_X12_is rfl kc_167 rfl rfl (And.intro (Nat.zero_le _) (Nat.zero_le _)) rfl (Nat.le_of_ble_eq_true rfl) d_X12_let_70 (fun r2 M3 => ?_)
  exact jo_zretq rfl d_X12_let_73
def f_X12_let_L37 (n : Nat) (v1 v2 w0 : Int) (M : JMem) : Option (Int × JMem) := if jw w0 = jw v2 then (f_X12_let_L41 n M) else (bnd (f_X12_beastRow n v1 M) fun r1 M2 => if jw v2 = 0 then (f_X12_let_L67 n (r1 + 2) 0 M2) else (f_X12_let_L67 n (r1 + 2) 1 M2))
set_option maxRecDepth 4000 in
theorem t_X12_let_L37 {g : JG} {ad : Nat → Nat} (hs : jStr g ad) (n : Nat) (v1 v2 w0 : Int) (M : JMem) : jB g D_X12_let ad 37 [some (.ref 167), some (ji v1), some (ji v2)] [ji w0] M (f_X12_let_L37 n v1 v2 w0 M) := by
  unfold f_X12_let_L37
  refine jo_iload 2 d_X12_let_37 rfl rfl ?_
  refine jo_icmp_ne 48 d_X12_let_38 (by decide) ?_ ?_
  · skip
    refine jo_aload 0 d_X12_let_48 rfl rfl ?_
    refine jo_getR (k := 0) cl_12 (Nat.le_of_ble_eq_true rfl) lk_X12_7 rfl kc_167 kr_167_0 d_X12_let_49 ?_
    refine jo_iload 1 d_X12_let_52 rfl rfl ?_
    refine jo_callS (st := [.ref 168]) (m_X12_beastRow hs n v1 M) ok_X12_beastRow (And.intro (Nat.le_of_ble_eq_true rfl) (Nat.le_of_ble_eq_true rfl)) lm_X12_270 st_X12_beastRow rfl (And.intro (Nat.zero_le _) (Nat.zero_le _)) rfl (Nat.le_of_ble_eq_true rfl) d_X12_let_53 (fun r1 M2 => ?_)
    refine jo_iconst 2 d_X12_let_56 ?_
    refine jo_iadd d_X12_let_57 ?_
    refine jo_iload 2 d_X12_let_58 rfl rfl ?_
    refine jo_if_eq 66 d_X12_let_59 (by decide) ?_ ?_
    · skip
      refine jo_iconst 0 d_X12_let_66 ?_
      exact jO.sub (t_X12_let_L67 hs n (r1 + 2) 0 M2) (And.intro rfl True.intro)
    · skip
      refine jo_iconst 1 d_X12_let_62 ?_
      refine jo_goto 67 d_X12_let_63 (by decide) ?_
      exact jO.sub (t_X12_let_L67 hs n (r1 + 2) 1 M2) (And.intro rfl True.intro)
  · skip
    exact jO.sub (t_X12_let_L41 hs n M) (And.intro rfl True.intro)
def f_X12_let (n : Nat) (x1 : Int) (x2 : Int) (M : JMem) : Option (Int × JMem) := bnd (f_X12_isBeast n x1 M) fun r1 M2 => if jw r1 = 0 then (bnd (f_X12_is n 1 M2) fun r7 M8 => chk (jw r7 = 0 ∨ jw r7 = 1) (some (r7, M8))) else (bnd (f_X12_isEaten n x1 M2) fun r3 M4 => if jw r3 = 0 then (bnd (f_X12_beastOf n x1 2 M4) fun r5 M6 => if jw r5 = jw 1 then (f_X12_let_L37 n x1 x2 1 M6) else (f_X12_let_L37 n x1 x2 0 M6)) else (f_X12_let_L41 n M4))
set_option maxRecDepth 4000 in
theorem t_X12_let {g : JG} {ad : Nat → Nat} (hs : jStr g ad) (n : Nat) (x1 : Int) (x2 : Int) (M : JMem) : jB g D_X12_let ad 0 [some (.ref 167), some (ji x1), some (ji x2)] [] M (f_X12_let n x1 x2 M) := by
  unfold f_X12_let
  refine jo_aload 0 d_X12_let_0 rfl rfl ?_
  refine jo_iload 1 d_X12_let_1 rfl rfl ?_
  refine jo_callV (st := []) (m_X12_isBeast hs n x1 M) ok_X12_isBeast (And.intro (Nat.le_of_ble_eq_true rfl) (Nat.le_of_ble_eq_true rfl)) lm_X12_263 in_X12_isBeast se_X12_isBeast rfl kc_167 rfl rfl (And.intro (Nat.zero_le _) (Nat.zero_le _)) rfl (Nat.le_of_ble_eq_true rfl) d_X12_let_2 (fun r1 M2 => ?_)
  refine jo_if_ne 14 d_X12_let_5 (by decide) ?_ ?_
  · skip
    refine jo_aload 0 d_X12_let_14 rfl rfl ?_
    refine jo_iload 1 d_X12_let_15 rfl rfl ?_
    refine jo_callV (st := []) (m_X12_isEaten hs n x1 M2) ok_X12_isEaten (And.intro (Nat.le_of_ble_eq_true rfl) (Nat.le_of_ble_eq_true rfl)) lm_X12_279 in_X12_isEaten se_X12_isEaten rfl kc_167 rfl rfl (And.intro (Nat.zero_le _) (Nat.zero_le _)) rfl (Nat.le_of_ble_eq_true rfl) d_X12_let_16 (fun r3 M4 => ?_)
    refine jo_if_ne 41 d_X12_let_19 (by decide) ?_ ?_
    · skip
      exact jO.sub (t_X12_let_L41 hs n M4) (And.intro rfl True.intro)
    · skip
      refine jo_aload 0 d_X12_let_22 rfl rfl ?_
      refine jo_iload 1 d_X12_let_23 rfl rfl ?_
      refine jo_iconst 2 d_X12_let_24 ?_
      refine jo_callV (st := []) (m_X12_beastOf hs n x1 2 M4) ok_X12_beastOf (And.intro (Nat.le_of_ble_eq_true rfl) (Nat.le_of_ble_eq_true rfl)) lm_X12_276 in_X12_beastOf se_X12_beastOf rfl kc_167 rfl rfl (And.intro (Nat.zero_le _) (Nat.zero_le _)) rfl (Nat.le_of_ble_eq_true rfl) d_X12_let_25 (fun r5 M6 => ?_)
      refine jo_iconst 1 d_X12_let_28 ?_
      refine jo_icmp_ne 36 d_X12_let_29 (by decide) ?_ ?_
      · skip
        refine jo_iconst 0 d_X12_let_36 ?_
        exact jO.sub (t_X12_let_L37 hs n x1 x2 0 M6) (And.intro rfl (And.intro rfl (And.intro rfl True.intro)))
      · skip
        refine jo_iconst 1 d_X12_let_32 ?_
        refine jo_goto 37 d_X12_let_33 (by decide) ?_
        exact jO.sub (t_X12_let_L37 hs n x1 x2 1 M6) (And.intro rfl (And.intro rfl (And.intro rfl True.intro)))
  · skip
    refine jo_aload 0 d_X12_let_8 rfl rfl ?_
    refine jo_iconst 1 d_X12_let_9 ?_
    refine jo_callV (st := []) (m_X12_is hs n 1 M2) ok_X12_is (And.intro (Nat.le_of_ble_eq_true rfl) (Nat.le_of_ble_eq_true rfl)) lm_X12_94 in_X12_is se_X12_is rfl kc_167 rfl rfl (And.intro (Nat.zero_le _) (Nat.zero_le _)) rfl (Nat.le_of_ble_eq_true rfl) d_X12_let_10 (fun r7 M8 => ?_)
    exact jo_zretq rfl d_X12_let_13
theorem m_X12_let {g : JG} {ad : Nat → Nat} (hs : jStr g ad) (n : Nat) (x1 : Int) (x2 : Int) (M : JMem) : jMet g jNN ad jR D_X12_let yX12_let [.ref 167, ji x1, ji x2] M (f_X12_let n x1 x2 M) :=
  jMet.of (lo0 := [some (.ref 167), some (ji x1), some (ji x2)]) (by decide) rfl rfl (Nat.le_of_ble_eq_true rfl) (And.intro rfl (And.intro rfl (And.intro rfl True.intro))) (t_X12_let hs n x1 x2 M)
/-! CageLeaveModel.lives(I)V -/
def D_X12_lives : JD := (RX12, cX12_lives, 4, none, "lives", { frames := 10, cells := 0, slots := 0, locals := 217 })
theorem ok_X12_lives : jOk D_X12_lives yX12_lives 1 := ⟨jTW_mem (k := 2039) (by decide +kernel) rfl, jTW_mem (k := 151) (by decide +kernel) rfl, ⟨by decide +kernel, by decide +kernel⟩, by decide +kernel, rfl, rfl⟩
theorem in_X12_lives : Cond.instanceMethod yX12_lives ∈ jTW := jTW_mem (k := 2038) (by decide +kernel) rfl
theorem se_X12_lives : Cond.selects yX12_lives.cls yX12_lives yX12_lives ∈ jTW := jTW_mem (k := 123) (by decide +kernel) rfl
theorem lk_X12_441 : Cond.fieldLink RX12 441 (TX12 33).1 (TX12 33).2.1 (TX12 33).2.2.1 ∈ jTW := jTW_mem (k := 1409) (by decide +kernel) rfl
theorem lm_X12_444 : Cond.methodLink RX12 444 yX12_does ∈ jTW := jTW_mem (k := 2040) (by decide +kernel) rfl
theorem lm_X12_447 : Cond.methodLink RX12 447 yX12_holds ∈ jTW := jTW_mem (k := 2069) (by decide +kernel) rfl
theorem lm_X12_450 : Cond.methodLink RX12 450 yX12_behindEnds ∈ jTW := jTW_mem (k := 2073) (by decide +kernel) rfl
theorem d_X12_lives_0 : decode (D_X12_lives).2.1 0 = .ok (.aload_n 0, 1) := by decide +kernel
theorem d_X12_lives_1 : decode (D_X12_lives).2.1 1 = .ok (.iload_n 1, 1) := by decide +kernel
theorem d_X12_lives_2 : decode (D_X12_lives).2.1 2 = .ok (.putfield 419, 3) := by decide +kernel
theorem d_X12_lives_5 : decode (D_X12_lives).2.1 5 = .ok (.aload_n 0, 1) := by decide +kernel
theorem d_X12_lives_6 : decode (D_X12_lives).2.1 6 = .ok (.iconst 0, 1) := by decide +kernel
theorem d_X12_lives_7 : decode (D_X12_lives).2.1 7 = .ok (.putfield 441, 3) := by decide +kernel
theorem d_X12_lives_10 : decode (D_X12_lives).2.1 10 = .ok (.iconst 0, 1) := by decide +kernel
theorem d_X12_lives_11 : decode (D_X12_lives).2.1 11 = .ok (.istore_n 2, 1) := by decide +kernel
theorem d_X12_lives_12 : decode (D_X12_lives).2.1 12 = .ok (.iload_n 2, 1) := by decide +kernel
theorem d_X12_lives_13 : decode (D_X12_lives).2.1 13 = .ok (.iconst 5, 1) := by decide +kernel
theorem d_X12_lives_14 : decode (D_X12_lives).2.1 14 = .ok (.if_icmp .ge 16, 3) := by decide +kernel
theorem d_X12_lives_17 : decode (D_X12_lives).2.1 17 = .ok (.aload_n 0, 1) := by decide +kernel
theorem d_X12_lives_18 : decode (D_X12_lives).2.1 18 = .ok (.getfield 71, 3) := by decide +kernel
theorem d_X12_lives_21 : decode (D_X12_lives).2.1 21 = .ok (.iload_n 2, 1) := by decide +kernel
theorem d_X12_lives_22 : decode (D_X12_lives).2.1 22 = .ok (.iconst 0, 1) := by decide +kernel
theorem d_X12_lives_23 : decode (D_X12_lives).2.1 23 = .ok (.iastore, 1) := by decide +kernel
theorem d_X12_lives_24 : decode (D_X12_lives).2.1 24 = .ok (.iinc 2 1, 3) := by decide +kernel
theorem d_X12_lives_27 : decode (D_X12_lives).2.1 27 = .ok (.goto (-15), 3) := by decide +kernel
theorem d_X12_lives_30 : decode (D_X12_lives).2.1 30 = .ok (.iconst 0, 1) := by decide +kernel
theorem d_X12_lives_31 : decode (D_X12_lives).2.1 31 = .ok (.istore_n 2, 1) := by decide +kernel
theorem d_X12_lives_32 : decode (D_X12_lives).2.1 32 = .ok (.iload_n 2, 1) := by decide +kernel
theorem d_X12_lives_33 : decode (D_X12_lives).2.1 33 = .ok (.aload_n 0, 1) := by decide +kernel
theorem d_X12_lives_34 : decode (D_X12_lives).2.1 34 = .ok (.getfield 7, 3) := by decide +kernel
theorem d_X12_lives_37 : decode (D_X12_lives).2.1 37 = .ok (.bipush 7, 2) := by decide +kernel
theorem d_X12_lives_39 : decode (D_X12_lives).2.1 39 = .ok (.iaload, 1) := by decide +kernel
theorem d_X12_lives_40 : decode (D_X12_lives).2.1 40 = .ok (.if_icmp .ge 145, 3) := by decide +kernel
theorem d_X12_lives_43 : decode (D_X12_lives).2.1 43 = .ok (.aload_n 0, 1) := by decide +kernel
theorem d_X12_lives_44 : decode (D_X12_lives).2.1 44 = .ok (.getfield 441, 3) := by decide +kernel
theorem d_X12_lives_47 : decode (D_X12_lives).2.1 47 = .ok (.sipush 300, 3) := by decide +kernel
theorem d_X12_lives_50 : decode (D_X12_lives).2.1 50 = .ok (.if_icmp .ne 11, 3) := by decide +kernel
theorem d_X12_lives_53 : decode (D_X12_lives).2.1 53 = .ok (.aload_n 0, 1) := by decide +kernel
theorem d_X12_lives_54 : decode (D_X12_lives).2.1 54 = .ok (.getfield 71, 3) := by decide +kernel
theorem d_X12_lives_57 : decode (D_X12_lives).2.1 57 = .ok (.iconst 4, 1) := by decide +kernel
theorem d_X12_lives_58 : decode (D_X12_lives).2.1 58 = .ok (.iconst 1, 1) := by decide +kernel
theorem d_X12_lives_59 : decode (D_X12_lives).2.1 59 = .ok (.iastore, 1) := by decide +kernel
theorem d_X12_lives_60 : decode (D_X12_lives).2.1 60 = .ok (.return_, 1) := by decide +kernel
theorem d_X12_lives_61 : decode (D_X12_lives).2.1 61 = .ok (.sipush 136, 3) := by decide +kernel
theorem d_X12_lives_64 : decode (D_X12_lives).2.1 64 = .ok (.bipush 6, 2) := by decide +kernel
theorem d_X12_lives_66 : decode (D_X12_lives).2.1 66 = .ok (.iload_n 2, 1) := by decide +kernel
theorem d_X12_lives_67 : decode (D_X12_lives).2.1 67 = .ok (.imul, 1) := by decide +kernel
theorem d_X12_lives_68 : decode (D_X12_lives).2.1 68 = .ok (.iadd, 1) := by decide +kernel
theorem d_X12_lives_69 : decode (D_X12_lives).2.1 69 = .ok (.istore_n 3, 1) := by decide +kernel
theorem d_X12_lives_70 : decode (D_X12_lives).2.1 70 = .ok (.aload_n 0, 1) := by decide +kernel
theorem d_X12_lives_71 : decode (D_X12_lives).2.1 71 = .ok (.dup, 1) := by decide +kernel
theorem d_X12_lives_72 : decode (D_X12_lives).2.1 72 = .ok (.getfield 441, 3) := by decide +kernel
theorem d_X12_lives_75 : decode (D_X12_lives).2.1 75 = .ok (.iconst 1, 1) := by decide +kernel
theorem d_X12_lives_76 : decode (D_X12_lives).2.1 76 = .ok (.iadd, 1) := by decide +kernel
theorem d_X12_lives_77 : decode (D_X12_lives).2.1 77 = .ok (.putfield 441, 3) := by decide +kernel
theorem d_X12_lives_80 : decode (D_X12_lives).2.1 80 = .ok (.aload_n 0, 1) := by decide +kernel
theorem d_X12_lives_81 : decode (D_X12_lives).2.1 81 = .ok (.getfield 7, 3) := by decide +kernel
theorem d_X12_lives_84 : decode (D_X12_lives).2.1 84 = .ok (.iload_n 3, 1) := by decide +kernel
theorem d_X12_lives_85 : decode (D_X12_lives).2.1 85 = .ok (.iaload, 1) := by decide +kernel
theorem d_X12_lives_86 : decode (D_X12_lives).2.1 86 = .ok (.bipush 23, 2) := by decide +kernel
theorem d_X12_lives_88 : decode (D_X12_lives).2.1 88 = .ok (.if_icmp .ne 4, 3) := by decide +kernel
theorem d_X12_lives_91 : decode (D_X12_lives).2.1 91 = .ok (.return_, 1) := by decide +kernel
theorem d_X12_lives_92 : decode (D_X12_lives).2.1 92 = .ok (.aload_n 0, 1) := by decide +kernel
theorem d_X12_lives_93 : decode (D_X12_lives).2.1 93 = .ok (.getfield 71, 3) := by decide +kernel
theorem d_X12_lives_96 : decode (D_X12_lives).2.1 96 = .ok (.iconst 0, 1) := by decide +kernel
theorem d_X12_lives_97 : decode (D_X12_lives).2.1 97 = .ok (.dup2, 1) := by decide +kernel
theorem d_X12_lives_98 : decode (D_X12_lives).2.1 98 = .ok (.iaload, 1) := by decide +kernel
theorem d_X12_lives_99 : decode (D_X12_lives).2.1 99 = .ok (.aload_n 0, 1) := by decide +kernel
theorem d_X12_lives_100 : decode (D_X12_lives).2.1 100 = .ok (.iload_n 3, 1) := by decide +kernel
theorem d_X12_lives_101 : decode (D_X12_lives).2.1 101 = .ok (.invokevirtual 444, 3) := by decide +kernel
theorem d_X12_lives_104 : decode (D_X12_lives).2.1 104 = .ok (.ifCond .eq 7, 3) := by decide +kernel
theorem d_X12_lives_107 : decode (D_X12_lives).2.1 107 = .ok (.iconst 0, 1) := by decide +kernel
theorem d_X12_lives_108 : decode (D_X12_lives).2.1 108 = .ok (.goto 4, 3) := by decide +kernel
theorem d_X12_lives_111 : decode (D_X12_lives).2.1 111 = .ok (.iconst 1, 1) := by decide +kernel
theorem d_X12_lives_112 : decode (D_X12_lives).2.1 112 = .ok (.iadd, 1) := by decide +kernel
theorem d_X12_lives_113 : decode (D_X12_lives).2.1 113 = .ok (.iastore, 1) := by decide +kernel
theorem d_X12_lives_114 : decode (D_X12_lives).2.1 114 = .ok (.aload_n 0, 1) := by decide +kernel
theorem d_X12_lives_115 : decode (D_X12_lives).2.1 115 = .ok (.getfield 7, 3) := by decide +kernel
theorem d_X12_lives_118 : decode (D_X12_lives).2.1 118 = .ok (.iload_n 3, 1) := by decide +kernel
theorem d_X12_lives_119 : decode (D_X12_lives).2.1 119 = .ok (.iaload, 1) := by decide +kernel
theorem d_X12_lives_120 : decode (D_X12_lives).2.1 120 = .ok (.bipush 21, 2) := by decide +kernel
theorem d_X12_lives_122 : decode (D_X12_lives).2.1 122 = .ok (.if_icmp .ne 19, 3) := by decide +kernel
theorem d_X12_lives_125 : decode (D_X12_lives).2.1 125 = .ok (.aload_n 0, 1) := by decide +kernel
theorem d_X12_lives_126 : decode (D_X12_lives).2.1 126 = .ok (.getfield 68, 3) := by decide +kernel
theorem d_X12_lives_129 : decode (D_X12_lives).2.1 129 = .ok (.iload_n 2, 1) := by decide +kernel
theorem d_X12_lives_130 : decode (D_X12_lives).2.1 130 = .ok (.aload_n 0, 1) := by decide +kernel
theorem d_X12_lives_131 : decode (D_X12_lives).2.1 131 = .ok (.getfield 7, 3) := by decide +kernel
theorem d_X12_lives_134 : decode (D_X12_lives).2.1 134 = .ok (.iload_n 3, 1) := by decide +kernel
theorem d_X12_lives_135 : decode (D_X12_lives).2.1 135 = .ok (.iconst 1, 1) := by decide +kernel
theorem d_X12_lives_136 : decode (D_X12_lives).2.1 136 = .ok (.iadd, 1) := by decide +kernel
theorem d_X12_lives_137 : decode (D_X12_lives).2.1 137 = .ok (.iaload, 1) := by decide +kernel
theorem d_X12_lives_138 : decode (D_X12_lives).2.1 138 = .ok (.iconst 1, 1) := by decide +kernel
theorem d_X12_lives_139 : decode (D_X12_lives).2.1 139 = .ok (.isub, 1) := by decide +kernel
theorem d_X12_lives_140 : decode (D_X12_lives).2.1 140 = .ok (.iastore, 1) := by decide +kernel
theorem d_X12_lives_141 : decode (D_X12_lives).2.1 141 = .ok (.aload_n 0, 1) := by decide +kernel
theorem d_X12_lives_142 : decode (D_X12_lives).2.1 142 = .ok (.aload_n 0, 1) := by decide +kernel
theorem d_X12_lives_143 : decode (D_X12_lives).2.1 143 = .ok (.getfield 7, 3) := by decide +kernel
theorem d_X12_lives_146 : decode (D_X12_lives).2.1 146 = .ok (.iload_n 3, 1) := by decide +kernel
theorem d_X12_lives_147 : decode (D_X12_lives).2.1 147 = .ok (.iaload, 1) := by decide +kernel
theorem d_X12_lives_148 : decode (D_X12_lives).2.1 148 = .ok (.sipush 2000, 3) := by decide +kernel
theorem d_X12_lives_151 : decode (D_X12_lives).2.1 151 = .ok (.if_icmp .lt 24, 3) := by decide +kernel
theorem d_X12_lives_154 : decode (D_X12_lives).2.1 154 = .ok (.aload_n 0, 1) := by decide +kernel
theorem d_X12_lives_155 : decode (D_X12_lives).2.1 155 = .ok (.iload_n 3, 1) := by decide +kernel
theorem d_X12_lives_156 : decode (D_X12_lives).2.1 156 = .ok (.invokevirtual 447, 3) := by decide +kernel
theorem d_X12_lives_159 : decode (D_X12_lives).2.1 159 = .ok (.ifCond .ne 16, 3) := by decide +kernel
theorem d_X12_lives_162 : decode (D_X12_lives).2.1 162 = .ok (.aload_n 0, 1) := by decide +kernel
theorem d_X12_lives_163 : decode (D_X12_lives).2.1 163 = .ok (.getfield 7, 3) := by decide +kernel
theorem d_X12_lives_166 : decode (D_X12_lives).2.1 166 = .ok (.iload_n 3, 1) := by decide +kernel
theorem d_X12_lives_167 : decode (D_X12_lives).2.1 167 = .ok (.iconst 4, 1) := by decide +kernel
theorem d_X12_lives_168 : decode (D_X12_lives).2.1 168 = .ok (.iadd, 1) := by decide +kernel
theorem d_X12_lives_169 : decode (D_X12_lives).2.1 169 = .ok (.iaload, 1) := by decide +kernel
theorem d_X12_lives_170 : decode (D_X12_lives).2.1 170 = .ok (.iconst 1, 1) := by decide +kernel
theorem d_X12_lives_171 : decode (D_X12_lives).2.1 171 = .ok (.iadd, 1) := by decide +kernel
theorem d_X12_lives_172 : decode (D_X12_lives).2.1 172 = .ok (.goto 6, 3) := by decide +kernel
theorem d_X12_lives_175 : decode (D_X12_lives).2.1 175 = .ok (.iload_n 2, 1) := by decide +kernel
theorem d_X12_lives_176 : decode (D_X12_lives).2.1 176 = .ok (.iconst 1, 1) := by decide +kernel
theorem d_X12_lives_177 : decode (D_X12_lives).2.1 177 = .ok (.iadd, 1) := by decide +kernel
theorem d_X12_lives_178 : decode (D_X12_lives).2.1 178 = .ok (.invokevirtual 450, 3) := by decide +kernel
theorem d_X12_lives_181 : decode (D_X12_lives).2.1 181 = .ok (.istore_n 2, 1) := by decide +kernel
theorem d_X12_lives_182 : decode (D_X12_lives).2.1 182 = .ok (.goto (-150), 3) := by decide +kernel
theorem d_X12_lives_185 : decode (D_X12_lives).2.1 185 = .ok (.return_, 1) := by decide +kernel
def f_X12_lives_L53 (n : Nat) (M : JMem) : Option (Int × JMem) := chk (jin 4 5) <| letm (jup M 184 (jw 4).toNat 1) fun M1 => some (0, M1)
set_option maxRecDepth 4000 in
theorem t_X12_lives_L53 {g : JG} {ad : Nat → Nat} (hs : jStr g ad) (n : Nat) (M : JMem) : jB g D_X12_lives ad 53 [some (.ref 167), none, none, none] [] M (f_X12_lives_L53 n M) := by
  unfold f_X12_lives_L53
  refine jo_aload 0 d_X12_lives_53 rfl rfl ?_
  refine jo_getR (k := 35) cl_12 (Nat.le_of_ble_eq_true rfl) lk_X12_71 rfl kc_167 kr_167_35 d_X12_lives_54 ?_
  refine jo_iconst 4 d_X12_lives_57 ?_
  refine jo_iconst 1 d_X12_lives_58 ?_
  refine jo_iast (N := 5) kc_184 d_X12_lives_59 (fun M1 => ?_)
  exact jo_vret rfl d_X12_lives_60
def f_X12_lives_L178 (n : Nat) (r32 : Int → JMem → Option (Int × JMem)) (w1 : Int) (M : JMem) : Option (Int × JMem) := bnd (f_X12_behindEnds n w1 M) fun r1 M2 => letv r1 fun y3 => r32 y3 M2
set_option maxRecDepth 4000 in
theorem t_X12_lives_L178 {g : JG} {ad : Nat → Nat} (hs : jStr g ad) (n : Nat) (r32 : Int → JMem → Option (Int × JMem)) (hr32 : ∀ (v2 : Int) (M : JMem), jB g D_X12_lives ad 32 [some (.ref 167), none, some (ji v2), none] [] M (r32 v2 M)) (w1 : Int) (M : JMem) : jB g D_X12_lives ad 178 [some (.ref 167), none, none, none] [ji w1, .ref 167] M (f_X12_lives_L178 n r32 w1 M) := by
  unfold f_X12_lives_L178
  refine jo_callV (st := []) (m_X12_behindEnds hs n w1 M) ok_X12_behindEnds (And.intro (Nat.le_of_ble_eq_true rfl) (Nat.le_of_ble_eq_true rfl)) lm_X12_450 in_X12_behindEnds se_X12_behindEnds rfl kc_167 rfl rfl (And.intro (Nat.zero_le _) (Nat.zero_le _)) rfl (Nat.le_of_ble_eq_true rfl) d_X12_lives_178 (fun r1 M2 => ?_)
  refine jo_istore 2 d_X12_lives_181 rfl (Nat.le_of_ble_eq_true rfl) (fun y3 => ?_)
  refine jo_goto 32 d_X12_lives_182 (by decide) ?_
  exact jO.sub (hr32 y3 M2) (And.intro rfl (And.intro rfl True.intro))
def f_X12_lives_L175 (n : Nat) (r32 : Int → JMem → Option (Int × JMem)) (v2 : Int) (M : JMem) : Option (Int × JMem) := f_X12_lives_L178 n r32 (v2 + 1) M
set_option maxRecDepth 4000 in
theorem t_X12_lives_L175 {g : JG} {ad : Nat → Nat} (hs : jStr g ad) (n : Nat) (r32 : Int → JMem → Option (Int × JMem)) (hr32 : ∀ (v2 : Int) (M : JMem), jB g D_X12_lives ad 32 [some (.ref 167), none, some (ji v2), none] [] M (r32 v2 M)) (v2 : Int) (M : JMem) : jB g D_X12_lives ad 175 [some (.ref 167), none, some (ji v2), none] [.ref 167] M (f_X12_lives_L175 n r32 v2 M) := by
  unfold f_X12_lives_L175
  refine jo_iload 2 d_X12_lives_175 rfl rfl ?_
  refine jo_iconst 1 d_X12_lives_176 ?_
  refine jo_iadd d_X12_lives_177 ?_
  exact jO.sub (t_X12_lives_L178 hs n r32 hr32 (v2 + 1) M) (And.intro rfl True.intro)
def f_X12_lives_L141 (n : Nat) (r32 : Int → JMem → Option (Int × JMem)) (v2 v3 : Int) (M : JMem) : Option (Int × JMem) := chk (jin v3 3160) <| if jw (M 168 (jw v3).toNat) < jw 2000 then (f_X12_lives_L175 n r32 v2 M) else (bnd (f_X12_holds n v3 M) fun r1 M2 => if jw r1 = 0 then (chk (jin (v3 + 4) 3160) <| f_X12_lives_L178 n r32 ((M2 168 (jw (v3 + 4)).toNat) + 1) M2) else (f_X12_lives_L175 n r32 v2 M2))
set_option maxRecDepth 4000 in
theorem t_X12_lives_L141 {g : JG} {ad : Nat → Nat} (hs : jStr g ad) (n : Nat) (r32 : Int → JMem → Option (Int × JMem)) (hr32 : ∀ (v2 : Int) (M : JMem), jB g D_X12_lives ad 32 [some (.ref 167), none, some (ji v2), none] [] M (r32 v2 M)) (v2 v3 : Int) (M : JMem) : jB g D_X12_lives ad 141 [some (.ref 167), none, some (ji v2), some (ji v3)] [] M (f_X12_lives_L141 n r32 v2 v3 M) := by
  unfold f_X12_lives_L141
  refine jo_aload 0 d_X12_lives_141 rfl rfl ?_
  refine jo_aload 0 d_X12_lives_142 rfl rfl ?_
  refine jo_getR (k := 0) cl_12 (Nat.le_of_ble_eq_true rfl) lk_X12_7 rfl kc_167 kr_167_0 d_X12_lives_143 ?_
  refine jo_iload 3 d_X12_lives_146 rfl rfl ?_
  refine jo_iald (N := 3160) kc_168 d_X12_lives_147 ?_
  refine jo_sipush 2000 d_X12_lives_148 (by decide) ?_
  refine jo_icmp_lt 175 d_X12_lives_151 (by decide) ?_ ?_
  · skip
    exact jO.sub (t_X12_lives_L175 hs n r32 hr32 v2 M) (And.intro rfl (And.intro rfl True.intro))
  · skip
    refine jo_aload 0 d_X12_lives_154 rfl rfl ?_
    refine jo_iload 3 d_X12_lives_155 rfl rfl ?_
    refine jo_callV (st := [.ref 167]) (m_X12_holds hs n v3 M) ok_X12_holds (And.intro (Nat.le_of_ble_eq_true rfl) (Nat.le_of_ble_eq_true rfl)) lm_X12_447 in_X12_holds se_X12_holds rfl kc_167 rfl rfl (And.intro (Nat.zero_le _) (Nat.zero_le _)) rfl (Nat.le_of_ble_eq_true rfl) d_X12_lives_156 (fun r1 M2 => ?_)
    refine jo_if_ne 175 d_X12_lives_159 (by decide) ?_ ?_
    · skip
      exact jO.sub (t_X12_lives_L175 hs n r32 hr32 v2 M2) (And.intro rfl (And.intro rfl True.intro))
    · skip
      refine jo_aload 0 d_X12_lives_162 rfl rfl ?_
      refine jo_getR (k := 0) cl_12 (Nat.le_of_ble_eq_true rfl) lk_X12_7 rfl kc_167 kr_167_0 d_X12_lives_163 ?_
      refine jo_iload 3 d_X12_lives_166 rfl rfl ?_
      refine jo_iconst 4 d_X12_lives_167 ?_
      refine jo_iadd d_X12_lives_168 ?_
      refine jo_iald (N := 3160) kc_168 d_X12_lives_169 ?_
      refine jo_iconst 1 d_X12_lives_170 ?_
      refine jo_iadd d_X12_lives_171 ?_
      refine jo_goto 178 d_X12_lives_172 (by decide) ?_
      exact jO.sub (t_X12_lives_L178 hs n r32 hr32 ((M2 168 (jw (v3 + 4)).toNat) + 1) M2) (And.intro rfl True.intro)
def f_X12_lives_L112 (n : Nat) (r32 : Int → JMem → Option (Int × JMem)) (v2 v3 w1 w2 w3 : Int) (M : JMem) : Option (Int × JMem) := chk (jin w1 5) <| letm (jup M 184 (jw w1).toNat (w2 + w3)) fun M1 => chk (jin v3 3160) <| if jw (M1 168 (jw v3).toNat) = jw 21 then (chk (jin (v3 + 1) 3160) <| chk (jin v2 80) <| letm (jup M1 183 (jw v2).toNat ((M1 168 (jw (v3 + 1)).toNat) - 1)) fun M2 => f_X12_lives_L141 n r32 v2 v3 M2) else (f_X12_lives_L141 n r32 v2 v3 M1)
set_option maxRecDepth 4000 in
theorem t_X12_lives_L112 {g : JG} {ad : Nat → Nat} (hs : jStr g ad) (n : Nat) (r32 : Int → JMem → Option (Int × JMem)) (hr32 : ∀ (v2 : Int) (M : JMem), jB g D_X12_lives ad 32 [some (.ref 167), none, some (ji v2), none] [] M (r32 v2 M)) (v2 v3 w1 w2 w3 : Int) (M : JMem) : jB g D_X12_lives ad 112 [some (.ref 167), none, some (ji v2), some (ji v3)] [ji w3, ji w2, ji w1, .ref 184] M (f_X12_lives_L112 n r32 v2 v3 w1 w2 w3 M) := by
  unfold f_X12_lives_L112
  refine jo_iadd d_X12_lives_112 ?_
  refine jo_iast (N := 5) kc_184 d_X12_lives_113 (fun M1 => ?_)
  refine jo_aload 0 d_X12_lives_114 rfl rfl ?_
  refine jo_getR (k := 0) cl_12 (Nat.le_of_ble_eq_true rfl) lk_X12_7 rfl kc_167 kr_167_0 d_X12_lives_115 ?_
  refine jo_iload 3 d_X12_lives_118 rfl rfl ?_
  refine jo_iald (N := 3160) kc_168 d_X12_lives_119 ?_
  refine jo_bipush 21 d_X12_lives_120 (by decide) ?_
  refine jo_icmp_ne 141 d_X12_lives_122 (by decide) ?_ ?_
  · skip
    exact jO.sub (t_X12_lives_L141 hs n r32 hr32 v2 v3 M1) (And.intro rfl (And.intro rfl (And.intro rfl True.intro)))
  · skip
    refine jo_aload 0 d_X12_lives_125 rfl rfl ?_
    refine jo_getR (k := 34) cl_12 (Nat.le_of_ble_eq_true rfl) lk_X12_68 rfl kc_167 kr_167_34 d_X12_lives_126 ?_
    refine jo_iload 2 d_X12_lives_129 rfl rfl ?_
    refine jo_aload 0 d_X12_lives_130 rfl rfl ?_
    refine jo_getR (k := 0) cl_12 (Nat.le_of_ble_eq_true rfl) lk_X12_7 rfl kc_167 kr_167_0 d_X12_lives_131 ?_
    refine jo_iload 3 d_X12_lives_134 rfl rfl ?_
    refine jo_iconst 1 d_X12_lives_135 ?_
    refine jo_iadd d_X12_lives_136 ?_
    refine jo_iald (N := 3160) kc_168 d_X12_lives_137 ?_
    refine jo_iconst 1 d_X12_lives_138 ?_
    refine jo_isub d_X12_lives_139 ?_
    refine jo_iast (N := 80) kc_183 d_X12_lives_140 (fun M2 => ?_)
    exact jO.sub (t_X12_lives_L141 hs n r32 hr32 v2 v3 M2) (And.intro rfl (And.intro rfl (And.intro rfl True.intro)))
def f_X12_lives_L32 (n : Nat) : Nat → Int → JMem → Option (Int × JMem)
  | 0, _, _ => none
  | k + 1, v2, M => chk (jin 7 3160) <| if jw (M 168 (jw 7).toNat) ≤ jw v2 then (some (0, M)) else (if jw (M 167 33) = jw 300 then (f_X12_lives_L53 n M) else (letv (136 + (6 * v2)) fun y1 => letm (jup M 167 33 ((M 167 33) + 1)) fun M2 => chk (jin y1 3160) <| if jw (M2 168 (jw y1).toNat) = jw 23 then (some (0, M2)) else (chk (jin 0 5) <| bnd (f_X12_does n y1 M2) fun r3 M4 => if jw r3 = 0 then (f_X12_lives_L112 n (f_X12_lives_L32 n k) v2 y1 0 (M2 184 (jw 0).toNat) 1 M4) else (f_X12_lives_L112 n (f_X12_lives_L32 n k) v2 y1 0 (M2 184 (jw 0).toNat) 0 M4))))
set_option maxRecDepth 4000 in
theorem t_X12_lives_L32 {g : JG} {ad : Nat → Nat} (hs : jStr g ad) (n : Nat) : ∀ (k : Nat) (v2 : Int) (M : JMem), jB g D_X12_lives ad 32 [some (.ref 167), none, some (ji v2), none] [] M (f_X12_lives_L32 n k v2 M) := by
  intro k
  induction k with
  | zero => intro v2 M; exact jO.none
  | succ k ih =>
    intro v2 M
    rw [f_X12_lives_L32]
    refine jo_iload 2 d_X12_lives_32 rfl rfl ?_
    refine jo_aload 0 d_X12_lives_33 rfl rfl ?_
    refine jo_getR (k := 0) cl_12 (Nat.le_of_ble_eq_true rfl) lk_X12_7 rfl kc_167 kr_167_0 d_X12_lives_34 ?_
    refine jo_bipush 7 d_X12_lives_37 (by decide) ?_
    refine jo_iald (N := 3160) kc_168 d_X12_lives_39 ?_
    refine jo_icmp_ge 185 d_X12_lives_40 (by decide) ?_ ?_
    · skip
      exact jo_vret rfl d_X12_lives_185
    · skip
      refine jo_aload 0 d_X12_lives_43 rfl rfl ?_
      refine jo_getI (k := 33) cl_12 (Nat.le_of_ble_eq_true rfl) lk_X12_441 (Or.inl rfl) kc_167 d_X12_lives_44 ?_
      refine jo_sipush 300 d_X12_lives_47 (by decide) ?_
      refine jo_icmp_ne 61 d_X12_lives_50 (by decide) ?_ ?_
      · skip
        refine jo_sipush 136 d_X12_lives_61 (by decide) ?_
        refine jo_bipush 6 d_X12_lives_64 (by decide) ?_
        refine jo_iload 2 d_X12_lives_66 rfl rfl ?_
        refine jo_imul d_X12_lives_67 ?_
        refine jo_iadd d_X12_lives_68 ?_
        refine jo_istore 3 d_X12_lives_69 rfl (Nat.le_of_ble_eq_true rfl) (fun y1 => ?_)
        refine jo_aload 0 d_X12_lives_70 rfl rfl ?_
        refine jo_dup d_X12_lives_71 rfl ?_
        refine jo_getI (k := 33) cl_12 (Nat.le_of_ble_eq_true rfl) lk_X12_441 (Or.inl rfl) kc_167 d_X12_lives_72 ?_
        refine jo_iconst 1 d_X12_lives_75 ?_
        refine jo_iadd d_X12_lives_76 ?_
        refine jo_putI (k := 33) cl_12 (Nat.le_of_ble_eq_true rfl) lk_X12_441 rfl rfl kc_167 d_X12_lives_77 (fun M2 => ?_)
        refine jo_aload 0 d_X12_lives_80 rfl rfl ?_
        refine jo_getR (k := 0) cl_12 (Nat.le_of_ble_eq_true rfl) lk_X12_7 rfl kc_167 kr_167_0 d_X12_lives_81 ?_
        refine jo_iload 3 d_X12_lives_84 rfl rfl ?_
        refine jo_iald (N := 3160) kc_168 d_X12_lives_85 ?_
        refine jo_bipush 23 d_X12_lives_86 (by decide) ?_
        refine jo_icmp_ne 92 d_X12_lives_88 (by decide) ?_ ?_
        · skip
          refine jo_aload 0 d_X12_lives_92 rfl rfl ?_
          refine jo_getR (k := 35) cl_12 (Nat.le_of_ble_eq_true rfl) lk_X12_71 rfl kc_167 kr_167_35 d_X12_lives_93 ?_
          refine jo_iconst 0 d_X12_lives_96 ?_
          refine jo_dup2 d_X12_lives_97 rfl rfl ?_
          refine jo_iald (N := 5) kc_184 d_X12_lives_98 ?_
          refine jo_aload 0 d_X12_lives_99 rfl rfl ?_
          refine jo_iload 3 d_X12_lives_100 rfl rfl ?_
          refine jo_callV (st := [ji (M2 184 (jw 0).toNat), ji 0, .ref 184]) (m_X12_does hs n y1 M2) ok_X12_does (And.intro (Nat.le_of_ble_eq_true rfl) (Nat.le_of_ble_eq_true rfl)) lm_X12_444 in_X12_does se_X12_does rfl kc_167 rfl rfl (And.intro (Nat.zero_le _) (Nat.zero_le _)) rfl (Nat.le_of_ble_eq_true rfl) d_X12_lives_101 (fun r3 M4 => ?_)
          refine jo_if_eq 111 d_X12_lives_104 (by decide) ?_ ?_
          · skip
            refine jo_iconst 1 d_X12_lives_111 ?_
            exact jO.sub (t_X12_lives_L112 hs n (f_X12_lives_L32 n k) ih v2 y1 0 (M2 184 (jw 0).toNat) 1 M4) (And.intro rfl (And.intro rfl (And.intro rfl True.intro)))
          · skip
            refine jo_iconst 0 d_X12_lives_107 ?_
            refine jo_goto 112 d_X12_lives_108 (by decide) ?_
            exact jO.sub (t_X12_lives_L112 hs n (f_X12_lives_L32 n k) ih v2 y1 0 (M2 184 (jw 0).toNat) 0 M4) (And.intro rfl (And.intro rfl (And.intro rfl True.intro)))
        · skip
          exact jo_vret rfl d_X12_lives_91
      · skip
        exact jO.sub (t_X12_lives_L53 hs n M) (And.intro rfl True.intro)
def f_X12_lives_L30 (n : Nat) (M : JMem) : Option (Int × JMem) := letv 0 fun y1 => f_X12_lives_L32 n n y1 M
set_option maxRecDepth 4000 in
theorem t_X12_lives_L30 {g : JG} {ad : Nat → Nat} (hs : jStr g ad) (n : Nat) (M : JMem) : jB g D_X12_lives ad 30 [some (.ref 167), none, none, none] [] M (f_X12_lives_L30 n M) := by
  unfold f_X12_lives_L30
  refine jo_iconst 0 d_X12_lives_30 ?_
  refine jo_istore 2 d_X12_lives_31 rfl (Nat.le_of_ble_eq_true rfl) (fun y1 => ?_)
  exact jO.sub (t_X12_lives_L32 hs n n y1 M) (And.intro rfl (And.intro rfl True.intro))
def f_X12_lives_L12 (n : Nat) : Nat → Int → JMem → Option (Int × JMem)
  | 0, _, _ => none
  | k + 1, v2, M => if jw 5 ≤ jw v2 then (f_X12_lives_L30 n M) else (chk (jin v2 5) <| letm (jup M 184 (jw v2).toNat 0) fun M1 => letv (v2 + 1) fun y2 => (f_X12_lives_L12 n k) y2 M1)
set_option maxRecDepth 4000 in
theorem t_X12_lives_L12 {g : JG} {ad : Nat → Nat} (hs : jStr g ad) (n : Nat) : ∀ (k : Nat) (v2 : Int) (M : JMem), jB g D_X12_lives ad 12 [some (.ref 167), none, some (ji v2), none] [] M (f_X12_lives_L12 n k v2 M) := by
  intro k
  induction k with
  | zero => intro v2 M; exact jO.none
  | succ k ih =>
    intro v2 M
    rw [f_X12_lives_L12]
    refine jo_iload 2 d_X12_lives_12 rfl rfl ?_
    refine jo_iconst 5 d_X12_lives_13 ?_
    refine jo_icmp_ge 30 d_X12_lives_14 (by decide) ?_ ?_
    · skip
      exact jO.sub (t_X12_lives_L30 hs n M) (And.intro rfl True.intro)
    · skip
      refine jo_aload 0 d_X12_lives_17 rfl rfl ?_
      refine jo_getR (k := 35) cl_12 (Nat.le_of_ble_eq_true rfl) lk_X12_71 rfl kc_167 kr_167_35 d_X12_lives_18 ?_
      refine jo_iload 2 d_X12_lives_21 rfl rfl ?_
      refine jo_iconst 0 d_X12_lives_22 ?_
      refine jo_iast (N := 5) kc_184 d_X12_lives_23 (fun M1 => ?_)
      refine jo_iinc 2 d_X12_lives_24 rfl (Nat.le_of_ble_eq_true rfl) (fun y2 => ?_)
      refine jo_goto 12 d_X12_lives_27 (by decide) ?_
      exact jO.sub (ih y2 M1) (And.intro rfl (And.intro rfl True.intro))
def f_X12_lives (n : Nat) (x1 : Int) (M : JMem) : Option (Int × JMem) := letm (jup M 167 32 x1) fun M1 => letm (jup M1 167 33 0) fun M2 => letv 0 fun y3 => f_X12_lives_L12 n n y3 M2
set_option maxRecDepth 4000 in
theorem t_X12_lives {g : JG} {ad : Nat → Nat} (hs : jStr g ad) (n : Nat) (x1 : Int) (M : JMem) : jB g D_X12_lives ad 0 [some (.ref 167), some (ji x1), none, none] [] M (f_X12_lives n x1 M) := by
  unfold f_X12_lives
  refine jo_aload 0 d_X12_lives_0 rfl rfl ?_
  refine jo_iload 1 d_X12_lives_1 rfl rfl ?_
  refine jo_putI (k := 32) cl_12 (Nat.le_of_ble_eq_true rfl) lk_X12_419 rfl rfl kc_167 d_X12_lives_2 (fun M1 => ?_)
  refine jo_aload 0 d_X12_lives_5 rfl rfl ?_
  refine jo_iconst 0 d_X12_lives_6 ?_
  refine jo_putI (k := 33) cl_12 (Nat.le_of_ble_eq_true rfl) lk_X12_441 rfl rfl kc_167 d_X12_lives_7 (fun M2 => ?_)
  refine jo_iconst 0 d_X12_lives_10 ?_
  refine jo_istore 2 d_X12_lives_11 rfl (Nat.le_of_ble_eq_true rfl) (fun y3 => ?_)
  exact jO.sub (t_X12_lives_L12 hs n n y3 M2) (And.intro rfl (And.intro rfl True.intro))
theorem m_X12_lives {g : JG} {ad : Nat → Nat} (hs : jStr g ad) (n : Nat) (x1 : Int) (M : JMem) : jMet g jNN ad jR D_X12_lives yX12_lives [.ref 167, ji x1] M (f_X12_lives n x1 M) :=
  jMet.of (lo0 := [some (.ref 167), some (ji x1), none, none]) (by decide) rfl rfl (Nat.le_of_ble_eq_true rfl) (And.intro rfl (And.intro rfl True.intro)) (t_X12_lives hs n x1 M)
/-! CageLeaveModel.live(I)I -/
def D_X12_live : JD := (RX12, cX12_live, 3, some .int, "live", { frames := 11, cells := 0, slots := 0, locals := 240 })
theorem ok_X12_live : jOk D_X12_live yX12_live 1 := ⟨jTW_mem (k := 2034) (by decide +kernel) rfl, jTW_mem (k := 151) (by decide +kernel) rfl, ⟨by decide +kernel, by decide +kernel⟩, by decide +kernel, rfl, rfl⟩
theorem in_X12_live : Cond.instanceMethod yX12_live ∈ jTW := jTW_mem (k := 2032) (by decide +kernel) rfl
theorem se_X12_live : Cond.selects yX12_live.cls yX12_live yX12_live ∈ jTW := jTW_mem (k := 2033) (by decide +kernel) rfl
theorem lk_X12_458 : Cond.fieldLink RX12 458 (TX12 37).1 (TX12 37).2.1 (TX12 37).2.2.1 ∈ jTW := jTW_mem (k := 1413) (by decide +kernel) rfl
theorem lk_X12_74 : Cond.fieldLink RX12 74 (TX12 36).1 (TX12 36).2.1 (TX12 36).2.2.1 ∈ jTW := jTW_mem (k := 1412) (by decide +kernel) rfl
theorem lc_X12_453 : Cond.constantLong RX12 453 (Int64.ofInt 9999) ∈ jTW := jTW_mem (k := 2035) (by decide +kernel) rfl
theorem lm_X12_455 : Cond.methodLink RX12 455 yX12_lives ∈ jTW := jTW_mem (k := 2036) (by decide +kernel) rfl
theorem d_X12_live_0 : decode (D_X12_live).2.1 0 = .ok (.iload_n 1, 1) := by decide +kernel
theorem d_X12_live_1 : decode (D_X12_live).2.1 1 = .ok (.i2l, 1) := by decide +kernel
theorem d_X12_live_2 : decode (D_X12_live).2.1 2 = .ok (.lconst 0, 1) := by decide +kernel
theorem d_X12_live_3 : decode (D_X12_live).2.1 3 = .ok (.ldc2_w 453, 3) := by decide +kernel
theorem d_X12_live_6 : decode (D_X12_live).2.1 6 = .ok (.invokestatic 266, 3) := by decide +kernel
theorem d_X12_live_9 : decode (D_X12_live).2.1 9 = .ok (.ifCond .ne 9, 3) := by decide +kernel
theorem d_X12_live_12 : decode (D_X12_live).2.1 12 = .ok (.aload_n 0, 1) := by decide +kernel
theorem d_X12_live_13 : decode (D_X12_live).2.1 13 = .ok (.iconst 1, 1) := by decide +kernel
theorem d_X12_live_14 : decode (D_X12_live).2.1 14 = .ok (.invokevirtual 87, 3) := by decide +kernel
theorem d_X12_live_17 : decode (D_X12_live).2.1 17 = .ok (.ireturn, 1) := by decide +kernel
theorem d_X12_live_18 : decode (D_X12_live).2.1 18 = .ok (.aload_n 0, 1) := by decide +kernel
theorem d_X12_live_19 : decode (D_X12_live).2.1 19 = .ok (.getfield 7, 3) := by decide +kernel
theorem d_X12_live_22 : decode (D_X12_live).2.1 22 = .ok (.bipush 7, 2) := by decide +kernel
theorem d_X12_live_24 : decode (D_X12_live).2.1 24 = .ok (.iaload, 1) := by decide +kernel
theorem d_X12_live_25 : decode (D_X12_live).2.1 25 = .ok (.iconst (-1), 1) := by decide +kernel
theorem d_X12_live_26 : decode (D_X12_live).2.1 26 = .ok (.if_icmp .ne 10, 3) := by decide +kernel
theorem d_X12_live_29 : decode (D_X12_live).2.1 29 = .ok (.aload_n 0, 1) := by decide +kernel
theorem d_X12_live_30 : decode (D_X12_live).2.1 30 = .ok (.bipush 6, 2) := by decide +kernel
theorem d_X12_live_32 : decode (D_X12_live).2.1 32 = .ok (.invokevirtual 87, 3) := by decide +kernel
theorem d_X12_live_35 : decode (D_X12_live).2.1 35 = .ok (.ireturn, 1) := by decide +kernel
theorem d_X12_live_36 : decode (D_X12_live).2.1 36 = .ok (.aload_n 0, 1) := by decide +kernel
theorem d_X12_live_37 : decode (D_X12_live).2.1 37 = .ok (.iload_n 1, 1) := by decide +kernel
theorem d_X12_live_38 : decode (D_X12_live).2.1 38 = .ok (.invokevirtual 455, 3) := by decide +kernel
theorem d_X12_live_41 : decode (D_X12_live).2.1 41 = .ok (.iconst 0, 1) := by decide +kernel
theorem d_X12_live_42 : decode (D_X12_live).2.1 42 = .ok (.istore_n 2, 1) := by decide +kernel
theorem d_X12_live_43 : decode (D_X12_live).2.1 43 = .ok (.iload_n 2, 1) := by decide +kernel
theorem d_X12_live_44 : decode (D_X12_live).2.1 44 = .ok (.iconst 5, 1) := by decide +kernel
theorem d_X12_live_45 : decode (D_X12_live).2.1 45 = .ok (.if_icmp .ge 21, 3) := by decide +kernel
theorem d_X12_live_48 : decode (D_X12_live).2.1 48 = .ok (.aload_n 0, 1) := by decide +kernel
theorem d_X12_live_49 : decode (D_X12_live).2.1 49 = .ok (.getfield 74, 3) := by decide +kernel
theorem d_X12_live_52 : decode (D_X12_live).2.1 52 = .ok (.iload_n 2, 1) := by decide +kernel
theorem d_X12_live_53 : decode (D_X12_live).2.1 53 = .ok (.aload_n 0, 1) := by decide +kernel
theorem d_X12_live_54 : decode (D_X12_live).2.1 54 = .ok (.getfield 71, 3) := by decide +kernel
theorem d_X12_live_57 : decode (D_X12_live).2.1 57 = .ok (.iload_n 2, 1) := by decide +kernel
theorem d_X12_live_58 : decode (D_X12_live).2.1 58 = .ok (.iaload, 1) := by decide +kernel
theorem d_X12_live_59 : decode (D_X12_live).2.1 59 = .ok (.iastore, 1) := by decide +kernel
theorem d_X12_live_60 : decode (D_X12_live).2.1 60 = .ok (.iinc 2 1, 3) := by decide +kernel
theorem d_X12_live_63 : decode (D_X12_live).2.1 63 = .ok (.goto (-20), 3) := by decide +kernel
theorem d_X12_live_66 : decode (D_X12_live).2.1 66 = .ok (.aload_n 0, 1) := by decide +kernel
theorem d_X12_live_67 : decode (D_X12_live).2.1 67 = .ok (.iconst 1, 1) := by decide +kernel
theorem d_X12_live_68 : decode (D_X12_live).2.1 68 = .ok (.putfield 458, 3) := by decide +kernel
theorem d_X12_live_71 : decode (D_X12_live).2.1 71 = .ok (.aload_n 0, 1) := by decide +kernel
theorem d_X12_live_72 : decode (D_X12_live).2.1 72 = .ok (.aload_n 0, 1) := by decide +kernel
theorem d_X12_live_73 : decode (D_X12_live).2.1 73 = .ok (.getfield 441, 3) := by decide +kernel
theorem d_X12_live_76 : decode (D_X12_live).2.1 76 = .ok (.invokevirtual 91, 3) := by decide +kernel
theorem d_X12_live_79 : decode (D_X12_live).2.1 79 = .ok (.ireturn, 1) := by decide +kernel
def f_X12_live_L66 (n : Nat) (M : JMem) : Option (Int × JMem) := chk (jw 1 = 0 ∨ jw 1 = 1) <| letm (jup M 167 37 1) fun M1 => bnd (f_X12_gives n (M1 167 33) M1) fun r2 M3 => some (r2, M3)
set_option maxRecDepth 4000 in
theorem t_X12_live_L66 {g : JG} {ad : Nat → Nat} (hs : jStr g ad) (n : Nat) (M : JMem) : jB g D_X12_live ad 66 [some (.ref 167), none, none] [] M (f_X12_live_L66 n M) := by
  unfold f_X12_live_L66
  refine jo_aload 0 d_X12_live_66 rfl rfl ?_
  refine jo_iconst 1 d_X12_live_67 ?_
  refine jo_putZ (k := 37) cl_12 (Nat.le_of_ble_eq_true rfl) lk_X12_458 rfl rfl kc_167 d_X12_live_68 (fun M1 => ?_)
  refine jo_aload 0 d_X12_live_71 rfl rfl ?_
  refine jo_aload 0 d_X12_live_72 rfl rfl ?_
  refine jo_getI (k := 33) cl_12 (Nat.le_of_ble_eq_true rfl) lk_X12_441 (Or.inl rfl) kc_167 d_X12_live_73 ?_
  refine jo_callV (st := []) (m_X12_gives hs n (M1 167 33) M1) ok_X12_gives (And.intro (Nat.le_of_ble_eq_true rfl) (Nat.le_of_ble_eq_true rfl)) lm_X12_91 in_X12_gives se_X12_gives rfl kc_167 rfl rfl (And.intro (Nat.zero_le _) (Nat.zero_le _)) rfl (Nat.le_of_ble_eq_true rfl) d_X12_live_76 (fun r2 M3 => ?_)
  exact jo_iret rfl d_X12_live_79
def f_X12_live_L43 (n : Nat) : Nat → Int → JMem → Option (Int × JMem)
  | 0, _, _ => none
  | k + 1, v2, M => if jw 5 ≤ jw v2 then (f_X12_live_L66 n M) else (chk (jin v2 5) <| chk (jin v2 5) <| letm (jup M 185 (jw v2).toNat (M 184 (jw v2).toNat)) fun M1 => letv (v2 + 1) fun y2 => (f_X12_live_L43 n k) y2 M1)
set_option maxRecDepth 4000 in
theorem t_X12_live_L43 {g : JG} {ad : Nat → Nat} (hs : jStr g ad) (n : Nat) : ∀ (k : Nat) (v2 : Int) (M : JMem), jB g D_X12_live ad 43 [some (.ref 167), none, some (ji v2)] [] M (f_X12_live_L43 n k v2 M) := by
  intro k
  induction k with
  | zero => intro v2 M; exact jO.none
  | succ k ih =>
    intro v2 M
    rw [f_X12_live_L43]
    refine jo_iload 2 d_X12_live_43 rfl rfl ?_
    refine jo_iconst 5 d_X12_live_44 ?_
    refine jo_icmp_ge 66 d_X12_live_45 (by decide) ?_ ?_
    · skip
      exact jO.sub (t_X12_live_L66 hs n M) (And.intro rfl True.intro)
    · skip
      refine jo_aload 0 d_X12_live_48 rfl rfl ?_
      refine jo_getR (k := 36) cl_12 (Nat.le_of_ble_eq_true rfl) lk_X12_74 rfl kc_167 kr_167_36 d_X12_live_49 ?_
      refine jo_iload 2 d_X12_live_52 rfl rfl ?_
      refine jo_aload 0 d_X12_live_53 rfl rfl ?_
      refine jo_getR (k := 35) cl_12 (Nat.le_of_ble_eq_true rfl) lk_X12_71 rfl kc_167 kr_167_35 d_X12_live_54 ?_
      refine jo_iload 2 d_X12_live_57 rfl rfl ?_
      refine jo_iald (N := 5) kc_184 d_X12_live_58 ?_
      refine jo_iast (N := 5) kc_185 d_X12_live_59 (fun M1 => ?_)
      refine jo_iinc 2 d_X12_live_60 rfl (Nat.le_of_ble_eq_true rfl) (fun y2 => ?_)
      refine jo_goto 43 d_X12_live_63 (by decide) ?_
      exact jO.sub (ih y2 M1) (And.intro rfl (And.intro rfl True.intro))
def f_X12_live (n : Nat) (x1 : Int) (M : JMem) : Option (Int × JMem) := bnd (f_X12_isFrom n (jw x1) 0 9999 M) fun r1 M2 => if jw r1 = 0 then (bnd (f_X12_refuse n 1 M2) fun r8 M9 => some (r8, M9)) else (chk (jin 7 3160) <| if jw (M2 168 (jw 7).toNat) = jw (-1) then (bnd (f_X12_refuse n 6 M2) fun r6 M7 => some (r6, M7)) else (bnd (f_X12_lives n x1 M2) fun _ M4 => letv 0 fun y5 => f_X12_live_L43 n n y5 M4))
set_option maxRecDepth 4000 in
theorem t_X12_live {g : JG} {ad : Nat → Nat} (hs : jStr g ad) (n : Nat) (x1 : Int) (M : JMem) : jB g D_X12_live ad 0 [some (.ref 167), some (ji x1), none] [] M (f_X12_live n x1 M) := by
  unfold f_X12_live
  refine jo_iload 1 d_X12_live_0 rfl rfl ?_
  refine jo_i2l d_X12_live_1 ?_
  refine jo_lconst0 d_X12_live_2 ?_
  refine jo_ldc2 9999 lc_X12_453 d_X12_live_3 ?_
  refine jo_callS (st := []) (m_X12_isFrom hs n (jw x1) 0 9999 M) ok_X12_isFrom (And.intro (Nat.le_of_ble_eq_true rfl) (Nat.le_of_ble_eq_true rfl)) lm_X12_266 st_X12_isFrom rfl (And.intro (Nat.zero_le _) (Nat.zero_le _)) rfl (Nat.le_of_ble_eq_true rfl) d_X12_live_6 (fun r1 M2 => ?_)
  refine jo_if_ne 18 d_X12_live_9 (by decide) ?_ ?_
  · skip
    refine jo_aload 0 d_X12_live_18 rfl rfl ?_
    refine jo_getR (k := 0) cl_12 (Nat.le_of_ble_eq_true rfl) lk_X12_7 rfl kc_167 kr_167_0 d_X12_live_19 ?_
    refine jo_bipush 7 d_X12_live_22 (by decide) ?_
    refine jo_iald (N := 3160) kc_168 d_X12_live_24 ?_
    refine jo_iconst (-1) d_X12_live_25 ?_
    refine jo_icmp_ne 36 d_X12_live_26 (by decide) ?_ ?_
    · skip
      refine jo_aload 0 d_X12_live_36 rfl rfl ?_
      refine jo_iload 1 d_X12_live_37 rfl rfl ?_
      refine jo_callV (st := []) (m_X12_lives hs n x1 M2) ok_X12_lives (And.intro (Nat.le_of_ble_eq_true rfl) (Nat.le_of_ble_eq_true rfl)) lm_X12_455 in_X12_lives se_X12_lives rfl kc_167 rfl rfl (And.intro (Nat.zero_le _) (Nat.zero_le _)) rfl (Nat.le_of_ble_eq_true rfl) d_X12_live_38 (fun _ M4 => ?_)
      refine jo_iconst 0 d_X12_live_41 ?_
      refine jo_istore 2 d_X12_live_42 rfl (Nat.le_of_ble_eq_true rfl) (fun y5 => ?_)
      exact jO.sub (t_X12_live_L43 hs n n y5 M4) (And.intro rfl (And.intro rfl True.intro))
    · skip
      refine jo_aload 0 d_X12_live_29 rfl rfl ?_
      refine jo_bipush 6 d_X12_live_30 (by decide) ?_
      refine jo_callV (st := []) (m_X12_refuse hs n 6 M2) ok_X12_refuse (And.intro (Nat.le_of_ble_eq_true rfl) (Nat.le_of_ble_eq_true rfl)) lm_X12_87 in_X12_refuse se_X12_refuse rfl kc_167 rfl rfl (And.intro (Nat.zero_le _) (Nat.zero_le _)) rfl (Nat.le_of_ble_eq_true rfl) d_X12_live_32 (fun r6 M7 => ?_)
      exact jo_iret rfl d_X12_live_35
  · skip
    refine jo_aload 0 d_X12_live_12 rfl rfl ?_
    refine jo_iconst 1 d_X12_live_13 ?_
    refine jo_callV (st := []) (m_X12_refuse hs n 1 M2) ok_X12_refuse (And.intro (Nat.le_of_ble_eq_true rfl) (Nat.le_of_ble_eq_true rfl)) lm_X12_87 in_X12_refuse se_X12_refuse rfl kc_167 rfl rfl (And.intro (Nat.zero_le _) (Nat.zero_le _)) rfl (Nat.le_of_ble_eq_true rfl) d_X12_live_14 (fun r8 M9 => ?_)
    exact jo_iret rfl d_X12_live_17
theorem m_X12_live {g : JG} {ad : Nat → Nat} (hs : jStr g ad) (n : Nat) (x1 : Int) (M : JMem) : jMet g jNN ad jR D_X12_live yX12_live [.ref 167, ji x1] M (f_X12_live n x1 M) :=
  jMet.of (lo0 := [some (.ref 167), some (ji x1), none]) (by decide) rfl rfl (Nat.le_of_ble_eq_true rfl) (And.intro rfl (And.intro rfl True.intro)) (t_X12_live hs n x1 M)
/-! CageLeaveModel.lived(I)I -/
def D_X12_lived : JD := (RX12, cX12_lived, 2, some .int, "lived", { frames := 1, cells := 0, slots := 0, locals := 21 })
theorem ok_X12_lived : jOk D_X12_lived yX12_lived 1 := ⟨jTW_mem (k := 2080) (by decide +kernel) rfl, jTW_mem (k := 151) (by decide +kernel) rfl, ⟨by decide +kernel, by decide +kernel⟩, by decide +kernel, rfl, rfl⟩
theorem in_X12_lived : Cond.instanceMethod yX12_lived ∈ jTW := jTW_mem (k := 2078) (by decide +kernel) rfl
theorem se_X12_lived : Cond.selects yX12_lived.cls yX12_lived yX12_lived ∈ jTW := jTW_mem (k := 2079) (by decide +kernel) rfl
theorem d_X12_lived_0 : decode (D_X12_lived).2.1 0 = .ok (.iload_n 1, 1) := by decide +kernel
theorem d_X12_lived_1 : decode (D_X12_lived).2.1 1 = .ok (.ifCond .lt 8, 3) := by decide +kernel
theorem d_X12_lived_4 : decode (D_X12_lived).2.1 4 = .ok (.iload_n 1, 1) := by decide +kernel
theorem d_X12_lived_5 : decode (D_X12_lived).2.1 5 = .ok (.iconst 4, 1) := by decide +kernel
theorem d_X12_lived_6 : decode (D_X12_lived).2.1 6 = .ok (.if_icmp .le 11, 3) := by decide +kernel
theorem d_X12_lived_9 : decode (D_X12_lived).2.1 9 = .ok (.aload_n 0, 1) := by decide +kernel
theorem d_X12_lived_10 : decode (D_X12_lived).2.1 10 = .ok (.iconst 1, 1) := by decide +kernel
theorem d_X12_lived_11 : decode (D_X12_lived).2.1 11 = .ok (.invokevirtual 87, 3) := by decide +kernel
theorem d_X12_lived_14 : decode (D_X12_lived).2.1 14 = .ok (.goto 29, 3) := by decide +kernel
theorem d_X12_lived_17 : decode (D_X12_lived).2.1 17 = .ok (.aload_n 0, 1) := by decide +kernel
theorem d_X12_lived_18 : decode (D_X12_lived).2.1 18 = .ok (.getfield 458, 3) := by decide +kernel
theorem d_X12_lived_21 : decode (D_X12_lived).2.1 21 = .ok (.ifCond .eq 16, 3) := by decide +kernel
theorem d_X12_lived_24 : decode (D_X12_lived).2.1 24 = .ok (.aload_n 0, 1) := by decide +kernel
theorem d_X12_lived_25 : decode (D_X12_lived).2.1 25 = .ok (.aload_n 0, 1) := by decide +kernel
theorem d_X12_lived_26 : decode (D_X12_lived).2.1 26 = .ok (.getfield 74, 3) := by decide +kernel
theorem d_X12_lived_29 : decode (D_X12_lived).2.1 29 = .ok (.iload_n 1, 1) := by decide +kernel
theorem d_X12_lived_30 : decode (D_X12_lived).2.1 30 = .ok (.iaload, 1) := by decide +kernel
theorem d_X12_lived_31 : decode (D_X12_lived).2.1 31 = .ok (.invokevirtual 91, 3) := by decide +kernel
theorem d_X12_lived_34 : decode (D_X12_lived).2.1 34 = .ok (.goto 9, 3) := by decide +kernel
theorem d_X12_lived_37 : decode (D_X12_lived).2.1 37 = .ok (.aload_n 0, 1) := by decide +kernel
theorem d_X12_lived_38 : decode (D_X12_lived).2.1 38 = .ok (.bipush 6, 2) := by decide +kernel
theorem d_X12_lived_40 : decode (D_X12_lived).2.1 40 = .ok (.invokevirtual 87, 3) := by decide +kernel
theorem d_X12_lived_43 : decode (D_X12_lived).2.1 43 = .ok (.ireturn, 1) := by decide +kernel
def f_X12_lived_L9 (n : Nat) (M : JMem) : Option (Int × JMem) := bnd (f_X12_refuse n 1 M) fun r1 M2 => some (r1, M2)
set_option maxRecDepth 4000 in
theorem t_X12_lived_L9 {g : JG} {ad : Nat → Nat} (hs : jStr g ad) (n : Nat) (M : JMem) : jB g D_X12_lived ad 9 [some (.ref 167), none] [] M (f_X12_lived_L9 n M) := by
  unfold f_X12_lived_L9
  refine jo_aload 0 d_X12_lived_9 rfl rfl ?_
  refine jo_iconst 1 d_X12_lived_10 ?_
  refine jo_callV (st := []) (m_X12_refuse hs n 1 M) ok_X12_refuse (And.intro (Nat.le_of_ble_eq_true rfl) (Nat.le_of_ble_eq_true rfl)) lm_X12_87 in_X12_refuse se_X12_refuse rfl kc_167 rfl rfl (And.intro (Nat.zero_le _) (Nat.zero_le _)) rfl (Nat.le_of_ble_eq_true rfl) d_X12_lived_11 (fun r1 M2 => ?_)
  refine jo_goto 43 d_X12_lived_14 (by decide) ?_
  exact jo_iret rfl d_X12_lived_43
def f_X12_lived (n : Nat) (x1 : Int) (M : JMem) : Option (Int × JMem) := if jw x1 < 0 then (f_X12_lived_L9 n M) else (if jw x1 ≤ jw 4 then (if jw (M 167 37) = 0 then (bnd (f_X12_refuse n 6 M) fun r1 M2 => some (r1, M2)) else (chk (jin x1 5) <| bnd (f_X12_gives n (M 185 (jw x1).toNat) M) fun r3 M4 => some (r3, M4))) else (f_X12_lived_L9 n M))
set_option maxRecDepth 4000 in
theorem t_X12_lived {g : JG} {ad : Nat → Nat} (hs : jStr g ad) (n : Nat) (x1 : Int) (M : JMem) : jB g D_X12_lived ad 0 [some (.ref 167), some (ji x1)] [] M (f_X12_lived n x1 M) := by
  unfold f_X12_lived
  refine jo_iload 1 d_X12_lived_0 rfl rfl ?_
  refine jo_if_lt 9 d_X12_lived_1 (by decide) ?_ ?_
  · skip
    exact jO.sub (t_X12_lived_L9 hs n M) (And.intro rfl True.intro)
  · skip
    refine jo_iload 1 d_X12_lived_4 rfl rfl ?_
    refine jo_iconst 4 d_X12_lived_5 ?_
    refine jo_icmp_le 17 d_X12_lived_6 (by decide) ?_ ?_
    · skip
      refine jo_aload 0 d_X12_lived_17 rfl rfl ?_
      refine jo_getI (k := 37) cl_12 (Nat.le_of_ble_eq_true rfl) lk_X12_458 (Or.inr rfl) kc_167 d_X12_lived_18 ?_
      refine jo_if_eq 37 d_X12_lived_21 (by decide) ?_ ?_
      · skip
        refine jo_aload 0 d_X12_lived_37 rfl rfl ?_
        refine jo_bipush 6 d_X12_lived_38 (by decide) ?_
        refine jo_callV (st := []) (m_X12_refuse hs n 6 M) ok_X12_refuse (And.intro (Nat.le_of_ble_eq_true rfl) (Nat.le_of_ble_eq_true rfl)) lm_X12_87 in_X12_refuse se_X12_refuse rfl kc_167 rfl rfl (And.intro (Nat.zero_le _) (Nat.zero_le _)) rfl (Nat.le_of_ble_eq_true rfl) d_X12_lived_40 (fun r1 M2 => ?_)
        exact jo_iret rfl d_X12_lived_43
      · skip
        refine jo_aload 0 d_X12_lived_24 rfl rfl ?_
        refine jo_aload 0 d_X12_lived_25 rfl rfl ?_
        refine jo_getR (k := 36) cl_12 (Nat.le_of_ble_eq_true rfl) lk_X12_74 rfl kc_167 kr_167_36 d_X12_lived_26 ?_
        refine jo_iload 1 d_X12_lived_29 rfl rfl ?_
        refine jo_iald (N := 5) kc_185 d_X12_lived_30 ?_
        refine jo_callV (st := []) (m_X12_gives hs n (M 185 (jw x1).toNat) M) ok_X12_gives (And.intro (Nat.le_of_ble_eq_true rfl) (Nat.le_of_ble_eq_true rfl)) lm_X12_91 in_X12_gives se_X12_gives rfl kc_167 rfl rfl (And.intro (Nat.zero_le _) (Nat.zero_le _)) rfl (Nat.le_of_ble_eq_true rfl) d_X12_lived_31 (fun r3 M4 => ?_)
        refine jo_goto 43 d_X12_lived_34 (by decide) ?_
        exact jo_iret rfl d_X12_lived_43
    · skip
      exact jO.sub (t_X12_lived_L9 hs n M) (And.intro rfl True.intro)
theorem m_X12_lived {g : JG} {ad : Nat → Nat} (hs : jStr g ad) (n : Nat) (x1 : Int) (M : JMem) : jMet g jNN ad jR D_X12_lived yX12_lived [.ref 167, ji x1] M (f_X12_lived n x1 M) :=
  jMet.of (lo0 := [some (.ref 167), some (ji x1)]) (by decide) rfl rfl (Nat.le_of_ble_eq_true rfl) (And.intro rfl (And.intro rfl True.intro)) (t_X12_lived hs n x1 M)
/-! CageLeaveModel.mark()I -/
def D_X12_mark : JD := (RX12, cX12_mark, 1, some .int, "mark", { frames := 1, cells := 0, slots := 0, locals := 23 })
theorem ok_X12_mark : jOk D_X12_mark yX12_mark 0 := ⟨jTW_mem (k := 2088) (by decide +kernel) rfl, jTW_mem (k := 151) (by decide +kernel) rfl, ⟨by decide +kernel, by decide +kernel⟩, by decide +kernel, rfl, rfl⟩
theorem in_X12_mark : Cond.instanceMethod yX12_mark ∈ jTW := jTW_mem (k := 2086) (by decide +kernel) rfl
theorem se_X12_mark : Cond.selects yX12_mark.cls yX12_mark yX12_mark ∈ jTW := jTW_mem (k := 2087) (by decide +kernel) rfl
theorem lk_X12_461 : Cond.fieldLink RX12 461 (TX12 38).1 (TX12 38).2.1 (TX12 38).2.2.1 ∈ jTW := jTW_mem (k := 1414) (by decide +kernel) rfl
theorem lm_X12_464 : Cond.methodLink RX12 464 yX12_copies ∈ jTW := jTW_mem (k := 2089) (by decide +kernel) rfl
theorem d_X12_mark_0 : decode (D_X12_mark).2.1 0 = .ok (.aload_n 0, 1) := by decide +kernel
theorem d_X12_mark_1 : decode (D_X12_mark).2.1 1 = .ok (.getfield 461, 3) := by decide +kernel
theorem d_X12_mark_4 : decode (D_X12_mark).2.1 4 = .ok (.iconst 3, 1) := by decide +kernel
theorem d_X12_mark_5 : decode (D_X12_mark).2.1 5 = .ok (.if_icmp .ne 9, 3) := by decide +kernel
theorem d_X12_mark_8 : decode (D_X12_mark).2.1 8 = .ok (.aload_n 0, 1) := by decide +kernel
theorem d_X12_mark_9 : decode (D_X12_mark).2.1 9 = .ok (.iconst 4, 1) := by decide +kernel
theorem d_X12_mark_10 : decode (D_X12_mark).2.1 10 = .ok (.invokevirtual 87, 3) := by decide +kernel
theorem d_X12_mark_13 : decode (D_X12_mark).2.1 13 = .ok (.ireturn, 1) := by decide +kernel
theorem d_X12_mark_14 : decode (D_X12_mark).2.1 14 = .ok (.aload_n 0, 1) := by decide +kernel
theorem d_X12_mark_15 : decode (D_X12_mark).2.1 15 = .ok (.dup, 1) := by decide +kernel
theorem d_X12_mark_16 : decode (D_X12_mark).2.1 16 = .ok (.getfield 461, 3) := by decide +kernel
theorem d_X12_mark_19 : decode (D_X12_mark).2.1 19 = .ok (.iconst 1, 1) := by decide +kernel
theorem d_X12_mark_20 : decode (D_X12_mark).2.1 20 = .ok (.iadd, 1) := by decide +kernel
theorem d_X12_mark_21 : decode (D_X12_mark).2.1 21 = .ok (.putfield 461, 3) := by decide +kernel
theorem d_X12_mark_24 : decode (D_X12_mark).2.1 24 = .ok (.aload_n 0, 1) := by decide +kernel
theorem d_X12_mark_25 : decode (D_X12_mark).2.1 25 = .ok (.iconst 0, 1) := by decide +kernel
theorem d_X12_mark_26 : decode (D_X12_mark).2.1 26 = .ok (.aload_n 0, 1) := by decide +kernel
theorem d_X12_mark_27 : decode (D_X12_mark).2.1 27 = .ok (.getfield 461, 3) := by decide +kernel
theorem d_X12_mark_30 : decode (D_X12_mark).2.1 30 = .ok (.invokevirtual 464, 3) := by decide +kernel
theorem d_X12_mark_33 : decode (D_X12_mark).2.1 33 = .ok (.aload_n 0, 1) := by decide +kernel
theorem d_X12_mark_34 : decode (D_X12_mark).2.1 34 = .ok (.aload_n 0, 1) := by decide +kernel
theorem d_X12_mark_35 : decode (D_X12_mark).2.1 35 = .ok (.getfield 461, 3) := by decide +kernel
theorem d_X12_mark_38 : decode (D_X12_mark).2.1 38 = .ok (.invokevirtual 91, 3) := by decide +kernel
theorem d_X12_mark_41 : decode (D_X12_mark).2.1 41 = .ok (.ireturn, 1) := by decide +kernel
def f_X12_mark (n : Nat) (M : JMem) : Option (Int × JMem) := if jw (M 167 38) = jw 3 then (bnd (f_X12_refuse n 4 M) fun r6 M7 => some (r6, M7)) else (letm (jup M 167 38 ((M 167 38) + 1)) fun M1 => bnd (f_X12_copies n 0 (M1 167 38) M1) fun _ M3 => bnd (f_X12_gives n (M3 167 38) M3) fun r4 M5 => some (r4, M5))
set_option maxRecDepth 4000 in
theorem t_X12_mark {g : JG} {ad : Nat → Nat} (hs : jStr g ad) (n : Nat) (M : JMem) : jB g D_X12_mark ad 0 [some (.ref 167)] [] M (f_X12_mark n M) := by
  unfold f_X12_mark
  refine jo_aload 0 d_X12_mark_0 rfl rfl ?_
  refine jo_getI (k := 38) cl_12 (Nat.le_of_ble_eq_true rfl) lk_X12_461 (Or.inl rfl) kc_167 d_X12_mark_1 ?_
  refine jo_iconst 3 d_X12_mark_4 ?_
  refine jo_icmp_ne 14 d_X12_mark_5 (by decide) ?_ ?_
  · skip
    refine jo_aload 0 d_X12_mark_14 rfl rfl ?_
    refine jo_dup d_X12_mark_15 rfl ?_
    refine jo_getI (k := 38) cl_12 (Nat.le_of_ble_eq_true rfl) lk_X12_461 (Or.inl rfl) kc_167 d_X12_mark_16 ?_
    refine jo_iconst 1 d_X12_mark_19 ?_
    refine jo_iadd d_X12_mark_20 ?_
    refine jo_putI (k := 38) cl_12 (Nat.le_of_ble_eq_true rfl) lk_X12_461 rfl rfl kc_167 d_X12_mark_21 (fun M1 => ?_)
    refine jo_aload 0 d_X12_mark_24 rfl rfl ?_
    refine jo_iconst 0 d_X12_mark_25 ?_
    refine jo_aload 0 d_X12_mark_26 rfl rfl ?_
    refine jo_getI (k := 38) cl_12 (Nat.le_of_ble_eq_true rfl) lk_X12_461 (Or.inl rfl) kc_167 d_X12_mark_27 ?_
    refine jo_callV (st := []) (m_X12_copies hs n 0 (M1 167 38) M1) ok_X12_copies (And.intro (Nat.le_of_ble_eq_true rfl) (Nat.le_of_ble_eq_true rfl)) lm_X12_464 in_X12_copies se_X12_copies rfl kc_167 rfl rfl (And.intro (Nat.zero_le _) (Nat.zero_le _)) rfl (Nat.le_of_ble_eq_true rfl) d_X12_mark_30 (fun _ M3 => ?_)
    refine jo_aload 0 d_X12_mark_33 rfl rfl ?_
    refine jo_aload 0 d_X12_mark_34 rfl rfl ?_
    refine jo_getI (k := 38) cl_12 (Nat.le_of_ble_eq_true rfl) lk_X12_461 (Or.inl rfl) kc_167 d_X12_mark_35 ?_
    refine jo_callV (st := []) (m_X12_gives hs n (M3 167 38) M3) ok_X12_gives (And.intro (Nat.le_of_ble_eq_true rfl) (Nat.le_of_ble_eq_true rfl)) lm_X12_91 in_X12_gives se_X12_gives rfl kc_167 rfl rfl (And.intro (Nat.zero_le _) (Nat.zero_le _)) rfl (Nat.le_of_ble_eq_true rfl) d_X12_mark_38 (fun r4 M5 => ?_)
    exact jo_iret rfl d_X12_mark_41
  · skip
    refine jo_aload 0 d_X12_mark_8 rfl rfl ?_
    refine jo_iconst 4 d_X12_mark_9 ?_
    refine jo_callV (st := []) (m_X12_refuse hs n 4 M) ok_X12_refuse (And.intro (Nat.le_of_ble_eq_true rfl) (Nat.le_of_ble_eq_true rfl)) lm_X12_87 in_X12_refuse se_X12_refuse rfl kc_167 rfl rfl (And.intro (Nat.zero_le _) (Nat.zero_le _)) rfl (Nat.le_of_ble_eq_true rfl) d_X12_mark_10 (fun r6 M7 => ?_)
    exact jo_iret rfl d_X12_mark_13
theorem m_X12_mark {g : JG} {ad : Nat → Nat} (hs : jStr g ad) (n : Nat) (M : JMem) : jMet g jNN ad jR D_X12_mark yX12_mark [.ref 167] M (f_X12_mark n M) :=
  jMet.of (lo0 := [some (.ref 167)]) (by decide) rfl rfl (Nat.le_of_ble_eq_true rfl) (And.intro rfl True.intro) (t_X12_mark hs n M)
/-! CageLeaveModel.mean(II)Z -/
def D_X12_mean : JD := (RX12, cX12_mean, 6, some .boolean, "mean", { frames := 11, cells := 0, slots := 0, locals := 240 })
theorem ok_X12_mean : jOk D_X12_mean yX12_mean 2 := ⟨jTW_mem (k := 2084) (by decide +kernel) rfl, jTW_mem (k := 151) (by decide +kernel) rfl, ⟨by decide +kernel, by decide +kernel⟩, by decide +kernel, rfl, rfl⟩
theorem in_X12_mean : Cond.instanceMethod yX12_mean ∈ jTW := jTW_mem (k := 2082) (by decide +kernel) rfl
theorem se_X12_mean : Cond.selects yX12_mean.cls yX12_mean yX12_mean ∈ jTW := jTW_mem (k := 2083) (by decide +kernel) rfl
theorem lc_X12_410 : Cond.constantLong RX12 410 (Int64.ofInt 20) ∈ jTW := jTW_mem (k := 2014) (by decide +kernel) rfl
theorem d_X12_mean_0 : decode (D_X12_mean).2.1 0 = .ok (.iload_n 1, 1) := by decide +kernel
theorem d_X12_mean_1 : decode (D_X12_mean).2.1 1 = .ok (.i2l, 1) := by decide +kernel
theorem d_X12_mean_2 : decode (D_X12_mean).2.1 2 = .ok (.lconst 0, 1) := by decide +kernel
theorem d_X12_mean_3 : decode (D_X12_mean).2.1 3 = .ok (.ldc2_w 453, 3) := by decide +kernel
theorem d_X12_mean_6 : decode (D_X12_mean).2.1 6 = .ok (.invokestatic 266, 3) := by decide +kernel
theorem d_X12_mean_9 : decode (D_X12_mean).2.1 9 = .ok (.ifCond .eq 26, 3) := by decide +kernel
theorem d_X12_mean_12 : decode (D_X12_mean).2.1 12 = .ok (.iload_n 2, 1) := by decide +kernel
theorem d_X12_mean_13 : decode (D_X12_mean).2.1 13 = .ok (.i2l, 1) := by decide +kernel
theorem d_X12_mean_14 : decode (D_X12_mean).2.1 14 = .ok (.lconst 1, 1) := by decide +kernel
theorem d_X12_mean_15 : decode (D_X12_mean).2.1 15 = .ok (.ldc2_w 410, 3) := by decide +kernel
theorem d_X12_mean_18 : decode (D_X12_mean).2.1 18 = .ok (.invokestatic 266, 3) := by decide +kernel
theorem d_X12_mean_21 : decode (D_X12_mean).2.1 21 = .ok (.ifCond .eq 14, 3) := by decide +kernel
theorem d_X12_mean_24 : decode (D_X12_mean).2.1 24 = .ok (.iload_n 1, 1) := by decide +kernel
theorem d_X12_mean_25 : decode (D_X12_mean).2.1 25 = .ok (.iload_n 2, 1) := by decide +kernel
theorem d_X12_mean_26 : decode (D_X12_mean).2.1 26 = .ok (.iadd, 1) := by decide +kernel
theorem d_X12_mean_27 : decode (D_X12_mean).2.1 27 = .ok (.iconst 1, 1) := by decide +kernel
theorem d_X12_mean_28 : decode (D_X12_mean).2.1 28 = .ok (.isub, 1) := by decide +kernel
theorem d_X12_mean_29 : decode (D_X12_mean).2.1 29 = .ok (.sipush 9999, 3) := by decide +kernel
theorem d_X12_mean_32 : decode (D_X12_mean).2.1 32 = .ok (.if_icmp .le 9, 3) := by decide +kernel
theorem d_X12_mean_35 : decode (D_X12_mean).2.1 35 = .ok (.aload_n 0, 1) := by decide +kernel
theorem d_X12_mean_36 : decode (D_X12_mean).2.1 36 = .ok (.iconst 1, 1) := by decide +kernel
theorem d_X12_mean_37 : decode (D_X12_mean).2.1 37 = .ok (.invokevirtual 94, 3) := by decide +kernel
theorem d_X12_mean_40 : decode (D_X12_mean).2.1 40 = .ok (.ireturn, 1) := by decide +kernel
theorem d_X12_mean_41 : decode (D_X12_mean).2.1 41 = .ok (.aload_n 0, 1) := by decide +kernel
theorem d_X12_mean_42 : decode (D_X12_mean).2.1 42 = .ok (.getfield 7, 3) := by decide +kernel
theorem d_X12_mean_45 : decode (D_X12_mean).2.1 45 = .ok (.bipush 7, 2) := by decide +kernel
theorem d_X12_mean_47 : decode (D_X12_mean).2.1 47 = .ok (.iaload, 1) := by decide +kernel
theorem d_X12_mean_48 : decode (D_X12_mean).2.1 48 = .ok (.iconst (-1), 1) := by decide +kernel
theorem d_X12_mean_49 : decode (D_X12_mean).2.1 49 = .ok (.if_icmp .ne 10, 3) := by decide +kernel
theorem d_X12_mean_52 : decode (D_X12_mean).2.1 52 = .ok (.aload_n 0, 1) := by decide +kernel
theorem d_X12_mean_53 : decode (D_X12_mean).2.1 53 = .ok (.bipush 6, 2) := by decide +kernel
theorem d_X12_mean_55 : decode (D_X12_mean).2.1 55 = .ok (.invokevirtual 94, 3) := by decide +kernel
theorem d_X12_mean_58 : decode (D_X12_mean).2.1 58 = .ok (.ireturn, 1) := by decide +kernel
theorem d_X12_mean_59 : decode (D_X12_mean).2.1 59 = .ok (.aload_n 0, 1) := by decide +kernel
theorem d_X12_mean_60 : decode (D_X12_mean).2.1 60 = .ok (.sipush 2520, 3) := by decide +kernel
theorem d_X12_mean_63 : decode (D_X12_mean).2.1 63 = .ok (.invokevirtual 357, 3) := by decide +kernel
theorem d_X12_mean_66 : decode (D_X12_mean).2.1 66 = .ok (.lconst 0, 1) := by decide +kernel
theorem d_X12_mean_67 : decode (D_X12_mean).2.1 67 = .ok (.lstore_n 3, 1) := by decide +kernel
theorem d_X12_mean_68 : decode (D_X12_mean).2.1 68 = .ok (.iconst 0, 1) := by decide +kernel
theorem d_X12_mean_69 : decode (D_X12_mean).2.1 69 = .ok (.istore 5, 2) := by decide +kernel
theorem d_X12_mean_71 : decode (D_X12_mean).2.1 71 = .ok (.iload 5, 2) := by decide +kernel
theorem d_X12_mean_73 : decode (D_X12_mean).2.1 73 = .ok (.iload_n 2, 1) := by decide +kernel
theorem d_X12_mean_74 : decode (D_X12_mean).2.1 74 = .ok (.if_icmp .ge 36, 3) := by decide +kernel
theorem d_X12_mean_77 : decode (D_X12_mean).2.1 77 = .ok (.aload_n 0, 1) := by decide +kernel
theorem d_X12_mean_78 : decode (D_X12_mean).2.1 78 = .ok (.iload_n 1, 1) := by decide +kernel
theorem d_X12_mean_79 : decode (D_X12_mean).2.1 79 = .ok (.iload 5, 2) := by decide +kernel
theorem d_X12_mean_81 : decode (D_X12_mean).2.1 81 = .ok (.iadd, 1) := by decide +kernel
theorem d_X12_mean_82 : decode (D_X12_mean).2.1 82 = .ok (.invokevirtual 455, 3) := by decide +kernel
theorem d_X12_mean_85 : decode (D_X12_mean).2.1 85 = .ok (.lload_n 3, 1) := by decide +kernel
theorem d_X12_mean_86 : decode (D_X12_mean).2.1 86 = .ok (.aload_n 0, 1) := by decide +kernel
theorem d_X12_mean_87 : decode (D_X12_mean).2.1 87 = .ok (.iconst 3, 1) := by decide +kernel
theorem d_X12_mean_88 : decode (D_X12_mean).2.1 88 = .ok (.invokevirtual 291, 3) := by decide +kernel
theorem d_X12_mean_91 : decode (D_X12_mean).2.1 91 = .ok (.invokestatic 338, 3) := by decide +kernel
theorem d_X12_mean_94 : decode (D_X12_mean).2.1 94 = .ok (.i2l, 1) := by decide +kernel
theorem d_X12_mean_95 : decode (D_X12_mean).2.1 95 = .ok (.ladd, 1) := by decide +kernel
theorem d_X12_mean_96 : decode (D_X12_mean).2.1 96 = .ok (.lstore_n 3, 1) := by decide +kernel
theorem d_X12_mean_97 : decode (D_X12_mean).2.1 97 = .ok (.aload_n 0, 1) := by decide +kernel
theorem d_X12_mean_98 : decode (D_X12_mean).2.1 98 = .ok (.sipush 2520, 3) := by decide +kernel
theorem d_X12_mean_101 : decode (D_X12_mean).2.1 101 = .ok (.invokevirtual 354, 3) := by decide +kernel
theorem d_X12_mean_104 : decode (D_X12_mean).2.1 104 = .ok (.iinc 5 1, 3) := by decide +kernel
theorem d_X12_mean_107 : decode (D_X12_mean).2.1 107 = .ok (.goto (-36), 3) := by decide +kernel
theorem d_X12_mean_110 : decode (D_X12_mean).2.1 110 = .ok (.aload_n 0, 1) := by decide +kernel
theorem d_X12_mean_111 : decode (D_X12_mean).2.1 111 = .ok (.lload_n 3, 1) := by decide +kernel
theorem d_X12_mean_112 : decode (D_X12_mean).2.1 112 = .ok (.iload_n 2, 1) := by decide +kernel
theorem d_X12_mean_113 : decode (D_X12_mean).2.1 113 = .ok (.i2l, 1) := by decide +kernel
theorem d_X12_mean_114 : decode (D_X12_mean).2.1 114 = .ok (.invokevirtual 396, 3) := by decide +kernel
theorem d_X12_mean_117 : decode (D_X12_mean).2.1 117 = .ok (.ireturn, 1) := by decide +kernel
def f_X12_mean_L35 (n : Nat) (M : JMem) : Option (Int × JMem) := bnd (f_X12_is n 1 M) fun r1 M2 => chk (jw r1 = 0 ∨ jw r1 = 1) (some (r1, M2))
set_option maxRecDepth 4000 in
theorem t_X12_mean_L35 {g : JG} {ad : Nat → Nat} (hs : jStr g ad) (n : Nat) (M : JMem) : jB g D_X12_mean ad 35 [some (.ref 167), none, none, none, none, none] [] M (f_X12_mean_L35 n M) := by
  unfold f_X12_mean_L35
  refine jo_aload 0 d_X12_mean_35 rfl rfl ?_
  refine jo_iconst 1 d_X12_mean_36 ?_
  refine jo_callV (st := []) (m_X12_is hs n 1 M) ok_X12_is (And.intro (Nat.le_of_ble_eq_true rfl) (Nat.le_of_ble_eq_true rfl)) lm_X12_94 in_X12_is se_X12_is rfl kc_167 rfl rfl (And.intro (Nat.zero_le _) (Nat.zero_le _)) rfl (Nat.le_of_ble_eq_true rfl) d_X12_mean_37 (fun r1 M2 => ?_)
  exact jo_zretq rfl d_X12_mean_40
def f_X12_mean_L110 (n : Nat) (v2 v3 : Int) (M : JMem) : Option (Int × JMem) := bnd (f_X12_tellsBy n v3 (jw v2) M) fun r1 M2 => chk (jw r1 = 0 ∨ jw r1 = 1) (some (r1, M2))
set_option maxRecDepth 4000 in
theorem t_X12_mean_L110 {g : JG} {ad : Nat → Nat} (hs : jStr g ad) (n : Nat) (v2 v3 : Int) (M : JMem) : jB g D_X12_mean ad 110 [some (.ref 167), none, some (ji v2), some (jl v3), none, none] [] M (f_X12_mean_L110 n v2 v3 M) := by
  unfold f_X12_mean_L110
  refine jo_aload 0 d_X12_mean_110 rfl rfl ?_
  refine jo_lload 3 d_X12_mean_111 rfl rfl ?_
  refine jo_iload 2 d_X12_mean_112 rfl rfl ?_
  refine jo_i2l d_X12_mean_113 ?_
  refine jo_callV (st := []) (m_X12_tellsBy hs n v3 (jw v2) M) ok_X12_tellsBy (And.intro (Nat.le_of_ble_eq_true rfl) (Nat.le_of_ble_eq_true rfl)) lm_X12_396 in_X12_tellsBy se_X12_tellsBy rfl kc_167 rfl rfl (And.intro (Nat.zero_le _) (Nat.zero_le _)) rfl (Nat.le_of_ble_eq_true rfl) d_X12_mean_114 (fun r1 M2 => ?_)
  exact jo_zretq rfl d_X12_mean_117
def f_X12_mean_L71 (n : Nat) : Nat → Int → Int → Int → Int → JMem → Option (Int × JMem)
  | 0, _, _, _, _, _ => none
  | k + 1, v1, v2, v3, v5, M => if jw v2 ≤ jw v5 then (f_X12_mean_L110 n v2 v3 M) else (bnd (f_X12_lives n (v1 + v5) M) fun _ M2 => bnd (f_X12_beastsWith n 3 M2) fun r3 M4 => bnd (f_X12_bits n r3 M4) fun r5 M6 => letv (v3 + (jw r5)) fun y7 => bnd (f_X12_restores n 2520 M6) fun _ M9 => letv (v5 + 1) fun y10 => (f_X12_mean_L71 n k) v1 v2 y7 y10 M9)
set_option maxRecDepth 4000 in
theorem t_X12_mean_L71 {g : JG} {ad : Nat → Nat} (hs : jStr g ad) (n : Nat) : ∀ (k : Nat) (v1 v2 v3 v5 : Int) (M : JMem), jB g D_X12_mean ad 71 [some (.ref 167), some (ji v1), some (ji v2), some (jl v3), none, some (ji v5)] [] M (f_X12_mean_L71 n k v1 v2 v3 v5 M) := by
  intro k
  induction k with
  | zero => intro v1 v2 v3 v5 M; exact jO.none
  | succ k ih =>
    intro v1 v2 v3 v5 M
    rw [f_X12_mean_L71]
    refine jo_iloadW 5 d_X12_mean_71 rfl ?_
    refine jo_iload 2 d_X12_mean_73 rfl rfl ?_
    refine jo_icmp_ge 110 d_X12_mean_74 (by decide) ?_ ?_
    · skip
      exact jO.sub (t_X12_mean_L110 hs n v2 v3 M) (And.intro rfl (And.intro rfl (And.intro rfl True.intro)))
    · skip
      refine jo_aload 0 d_X12_mean_77 rfl rfl ?_
      refine jo_iload 1 d_X12_mean_78 rfl rfl ?_
      refine jo_iloadW 5 d_X12_mean_79 rfl ?_
      refine jo_iadd d_X12_mean_81 ?_
      refine jo_callV (st := []) (m_X12_lives hs n (v1 + v5) M) ok_X12_lives (And.intro (Nat.le_of_ble_eq_true rfl) (Nat.le_of_ble_eq_true rfl)) lm_X12_455 in_X12_lives se_X12_lives rfl kc_167 rfl rfl (And.intro (Nat.zero_le _) (Nat.zero_le _)) rfl (Nat.le_of_ble_eq_true rfl) d_X12_mean_82 (fun _ M2 => ?_)
      refine jo_lload 3 d_X12_mean_85 rfl rfl ?_
      refine jo_aload 0 d_X12_mean_86 rfl rfl ?_
      refine jo_iconst 3 d_X12_mean_87 ?_
      refine jo_callV (st := [jl v3]) (m_X12_beastsWith hs n 3 M2) ok_X12_beastsWith (And.intro (Nat.le_of_ble_eq_true rfl) (Nat.le_of_ble_eq_true rfl)) lm_X12_291 in_X12_beastsWith se_X12_beastsWith rfl kc_167 rfl rfl (And.intro (Nat.zero_le _) (Nat.zero_le _)) rfl (Nat.le_of_ble_eq_true rfl) d_X12_mean_88 (fun r3 M4 => ?_)
      refine jo_callS (st := [jl v3]) (m_X12_bits hs n r3 M4) ok_X12_bits (And.intro (Nat.le_of_ble_eq_true rfl) (Nat.le_of_ble_eq_true rfl)) lm_X12_338 st_X12_bits rfl (And.intro (Nat.zero_le _) (Nat.zero_le _)) rfl (Nat.le_of_ble_eq_true rfl) d_X12_mean_91 (fun r5 M6 => ?_)
      refine jo_i2l d_X12_mean_94 ?_
      refine jo_ladd d_X12_mean_95 ?_
      refine jo_lstore 3 d_X12_mean_96 rfl (Nat.le_of_ble_eq_true rfl) (fun y7 => ?_)
      refine jo_aload 0 d_X12_mean_97 rfl rfl ?_
      refine jo_sipush 2520 d_X12_mean_98 (by decide) ?_
      refine jo_callV (st := []) (m_X12_restores hs n 2520 M6) ok_X12_restores (And.intro (Nat.le_of_ble_eq_true rfl) (Nat.le_of_ble_eq_true rfl)) lm_X12_354 in_X12_restores se_X12_restores rfl kc_167 rfl rfl (And.intro (Nat.zero_le _) (Nat.zero_le _)) rfl (Nat.le_of_ble_eq_true rfl) d_X12_mean_101 (fun _ M9 => ?_)
      refine jo_iinc 5 d_X12_mean_104 rfl (Nat.le_of_ble_eq_true rfl) (fun y10 => ?_)
      refine jo_goto 71 d_X12_mean_107 (by decide) ?_
      exact jO.sub (ih v1 v2 y7 y10 M9) (And.intro rfl (And.intro rfl (And.intro rfl (And.intro rfl (And.intro rfl True.intro)))))
def f_X12_mean (n : Nat) (x1 : Int) (x2 : Int) (M : JMem) : Option (Int × JMem) := bnd (f_X12_isFrom n (jw x1) 0 9999 M) fun r1 M2 => if jw r1 = 0 then (f_X12_mean_L35 n M2) else (bnd (f_X12_isFrom n (jw x2) 1 20 M2) fun r3 M4 => if jw r3 = 0 then (f_X12_mean_L35 n M4) else (if jw ((x1 + x2) - 1) ≤ jw 9999 then (chk (jin 7 3160) <| if jw (M4 168 (jw 7).toNat) = jw (-1) then (bnd (f_X12_is n 6 M4) fun r9 M10 => chk (jw r9 = 0 ∨ jw r9 = 1) (some (r9, M10))) else (bnd (f_X12_keeps n 2520 M4) fun _ M6 => letv 0 fun y7 => letv 0 fun y8 => f_X12_mean_L71 n n x1 x2 y7 y8 M6)) else (f_X12_mean_L35 n M4)))
set_option maxRecDepth 4000 in
theorem t_X12_mean {g : JG} {ad : Nat → Nat} (hs : jStr g ad) (n : Nat) (x1 : Int) (x2 : Int) (M : JMem) : jB g D_X12_mean ad 0 [some (.ref 167), some (ji x1), some (ji x2), none, none, none] [] M (f_X12_mean n x1 x2 M) := by
  unfold f_X12_mean
  refine jo_iload 1 d_X12_mean_0 rfl rfl ?_
  refine jo_i2l d_X12_mean_1 ?_
  refine jo_lconst0 d_X12_mean_2 ?_
  refine jo_ldc2 9999 lc_X12_453 d_X12_mean_3 ?_
  refine jo_callS (st := []) (m_X12_isFrom hs n (jw x1) 0 9999 M) ok_X12_isFrom (And.intro (Nat.le_of_ble_eq_true rfl) (Nat.le_of_ble_eq_true rfl)) lm_X12_266 st_X12_isFrom rfl (And.intro (Nat.zero_le _) (Nat.zero_le _)) rfl (Nat.le_of_ble_eq_true rfl) d_X12_mean_6 (fun r1 M2 => ?_)
  refine jo_if_eq 35 d_X12_mean_9 (by decide) ?_ ?_
  · skip
    exact jO.sub (t_X12_mean_L35 hs n M2) (And.intro rfl True.intro)
  · skip
    refine jo_iload 2 d_X12_mean_12 rfl rfl ?_
    refine jo_i2l d_X12_mean_13 ?_
    refine jo_lconst1 d_X12_mean_14 ?_
    refine jo_ldc2 20 lc_X12_410 d_X12_mean_15 ?_
    refine jo_callS (st := []) (m_X12_isFrom hs n (jw x2) 1 20 M2) ok_X12_isFrom (And.intro (Nat.le_of_ble_eq_true rfl) (Nat.le_of_ble_eq_true rfl)) lm_X12_266 st_X12_isFrom rfl (And.intro (Nat.zero_le _) (Nat.zero_le _)) rfl (Nat.le_of_ble_eq_true rfl) d_X12_mean_18 (fun r3 M4 => ?_)
    refine jo_if_eq 35 d_X12_mean_21 (by decide) ?_ ?_
    · skip
      exact jO.sub (t_X12_mean_L35 hs n M4) (And.intro rfl True.intro)
    · skip
      refine jo_iload 1 d_X12_mean_24 rfl rfl ?_
      refine jo_iload 2 d_X12_mean_25 rfl rfl ?_
      refine jo_iadd d_X12_mean_26 ?_
      refine jo_iconst 1 d_X12_mean_27 ?_
      refine jo_isub d_X12_mean_28 ?_
      refine jo_sipush 9999 d_X12_mean_29 (by decide) ?_
      refine jo_icmp_le 41 d_X12_mean_32 (by decide) ?_ ?_
      · skip
        refine jo_aload 0 d_X12_mean_41 rfl rfl ?_
        refine jo_getR (k := 0) cl_12 (Nat.le_of_ble_eq_true rfl) lk_X12_7 rfl kc_167 kr_167_0 d_X12_mean_42 ?_
        refine jo_bipush 7 d_X12_mean_45 (by decide) ?_
        refine jo_iald (N := 3160) kc_168 d_X12_mean_47 ?_
        refine jo_iconst (-1) d_X12_mean_48 ?_
        refine jo_icmp_ne 59 d_X12_mean_49 (by decide) ?_ ?_
        · skip
          refine jo_aload 0 d_X12_mean_59 rfl rfl ?_
          refine jo_sipush 2520 d_X12_mean_60 (by decide) ?_
          refine jo_callV (st := []) (m_X12_keeps hs n 2520 M4) ok_X12_keeps (And.intro (Nat.le_of_ble_eq_true rfl) (Nat.le_of_ble_eq_true rfl)) lm_X12_357 in_X12_keeps se_X12_keeps rfl kc_167 rfl rfl (And.intro (Nat.zero_le _) (Nat.zero_le _)) rfl (Nat.le_of_ble_eq_true rfl) d_X12_mean_63 (fun _ M6 => ?_)
          refine jo_lconst0 d_X12_mean_66 ?_
          refine jo_lstore 3 d_X12_mean_67 rfl (Nat.le_of_ble_eq_true rfl) (fun y7 => ?_)
          refine jo_iconst 0 d_X12_mean_68 ?_
          refine jo_istoreW 5 d_X12_mean_69 (Nat.le_of_ble_eq_true rfl) (fun y8 => ?_)
          exact jO.sub (t_X12_mean_L71 hs n n x1 x2 y7 y8 M6) (And.intro rfl (And.intro rfl (And.intro rfl (And.intro rfl (And.intro rfl True.intro)))))
        · skip
          refine jo_aload 0 d_X12_mean_52 rfl rfl ?_
          refine jo_bipush 6 d_X12_mean_53 (by decide) ?_
          refine jo_callV (st := []) (m_X12_is hs n 6 M4) ok_X12_is (And.intro (Nat.le_of_ble_eq_true rfl) (Nat.le_of_ble_eq_true rfl)) lm_X12_94 in_X12_is se_X12_is rfl kc_167 rfl rfl (And.intro (Nat.zero_le _) (Nat.zero_le _)) rfl (Nat.le_of_ble_eq_true rfl) d_X12_mean_55 (fun r9 M10 => ?_)
          exact jo_zretq rfl d_X12_mean_58
      · skip
        exact jO.sub (t_X12_mean_L35 hs n M4) (And.intro rfl True.intro)
theorem m_X12_mean {g : JG} {ad : Nat → Nat} (hs : jStr g ad) (n : Nat) (x1 : Int) (x2 : Int) (M : JMem) : jMet g jNN ad jR D_X12_mean yX12_mean [.ref 167, ji x1, ji x2] M (f_X12_mean n x1 x2 M) :=
  jMet.of (lo0 := [some (.ref 167), some (ji x1), some (ji x2), none, none, none]) (by decide) rfl rfl (Nat.le_of_ble_eq_true rfl) (And.intro rfl (And.intro rfl (And.intro rfl True.intro))) (t_X12_mean hs n x1 x2 M)
/-! CageLeaveModel.meet(II)I -/
def D_X12_meet : JD := (RX12, cX12_meet, 5, some .int, "meet", { frames := 9, cells := 0, slots := 0, locals := 195 })
theorem ok_X12_meet : jOk D_X12_meet yX12_meet 2 := ⟨jTW_mem (k := 1890) (by decide +kernel) rfl, jTW_mem (k := 151) (by decide +kernel) rfl, ⟨by decide +kernel, by decide +kernel⟩, by decide +kernel, rfl, rfl⟩
theorem in_X12_meet : Cond.instanceMethod yX12_meet ∈ jTW := jTW_mem (k := 1888) (by decide +kernel) rfl
theorem se_X12_meet : Cond.selects yX12_meet.cls yX12_meet yX12_meet ∈ jTW := jTW_mem (k := 1889) (by decide +kernel) rfl
theorem d_X12_meet_0 : decode (D_X12_meet).2.1 0 = .ok (.aload_n 0, 1) := by decide +kernel
theorem d_X12_meet_1 : decode (D_X12_meet).2.1 1 = .ok (.iload_n 1, 1) := by decide +kernel
theorem d_X12_meet_2 : decode (D_X12_meet).2.1 2 = .ok (.iload_n 2, 1) := by decide +kernel
theorem d_X12_meet_3 : decode (D_X12_meet).2.1 3 = .ok (.invokevirtual 309, 3) := by decide +kernel
theorem d_X12_meet_6 : decode (D_X12_meet).2.1 6 = .ok (.ifCond .ne 9, 3) := by decide +kernel
theorem d_X12_meet_9 : decode (D_X12_meet).2.1 9 = .ok (.aload_n 0, 1) := by decide +kernel
theorem d_X12_meet_10 : decode (D_X12_meet).2.1 10 = .ok (.iconst 1, 1) := by decide +kernel
theorem d_X12_meet_11 : decode (D_X12_meet).2.1 11 = .ok (.invokevirtual 87, 3) := by decide +kernel
theorem d_X12_meet_14 : decode (D_X12_meet).2.1 14 = .ok (.ireturn, 1) := by decide +kernel
theorem d_X12_meet_15 : decode (D_X12_meet).2.1 15 = .ok (.aload_n 0, 1) := by decide +kernel
theorem d_X12_meet_16 : decode (D_X12_meet).2.1 16 = .ok (.invokevirtual 363, 3) := by decide +kernel
theorem d_X12_meet_19 : decode (D_X12_meet).2.1 19 = .ok (.aload_n 0, 1) := by decide +kernel
theorem d_X12_meet_20 : decode (D_X12_meet).2.1 20 = .ok (.getfield 7, 3) := by decide +kernel
theorem d_X12_meet_23 : decode (D_X12_meet).2.1 23 = .ok (.iconst 5, 1) := by decide +kernel
theorem d_X12_meet_24 : decode (D_X12_meet).2.1 24 = .ok (.iaload, 1) := by decide +kernel
theorem d_X12_meet_25 : decode (D_X12_meet).2.1 25 = .ok (.istore_n 3, 1) := by decide +kernel
theorem d_X12_meet_26 : decode (D_X12_meet).2.1 26 = .ok (.iload_n 3, 1) := by decide +kernel
theorem d_X12_meet_27 : decode (D_X12_meet).2.1 27 = .ok (.bipush 64, 2) := by decide +kernel
theorem d_X12_meet_29 : decode (D_X12_meet).2.1 29 = .ok (.if_icmp .gt 49, 3) := by decide +kernel
theorem d_X12_meet_32 : decode (D_X12_meet).2.1 32 = .ok (.aload_n 0, 1) := by decide +kernel
theorem d_X12_meet_33 : decode (D_X12_meet).2.1 33 = .ok (.getfield 47, 3) := by decide +kernel
theorem d_X12_meet_36 : decode (D_X12_meet).2.1 36 = .ok (.bipush 8, 2) := by decide +kernel
theorem d_X12_meet_38 : decode (D_X12_meet).2.1 38 = .ok (.iload_n 3, 1) := by decide +kernel
theorem d_X12_meet_39 : decode (D_X12_meet).2.1 39 = .ok (.imul, 1) := by decide +kernel
theorem d_X12_meet_40 : decode (D_X12_meet).2.1 40 = .ok (.iload_n 1, 1) := by decide +kernel
theorem d_X12_meet_41 : decode (D_X12_meet).2.1 41 = .ok (.iadd, 1) := by decide +kernel
theorem d_X12_meet_42 : decode (D_X12_meet).2.1 42 = .ok (.iaload, 1) := by decide +kernel
theorem d_X12_meet_43 : decode (D_X12_meet).2.1 43 = .ok (.istore 4, 2) := by decide +kernel
theorem d_X12_meet_45 : decode (D_X12_meet).2.1 45 = .ok (.iload 4, 2) := by decide +kernel
theorem d_X12_meet_47 : decode (D_X12_meet).2.1 47 = .ok (.ifCond .le 25, 3) := by decide +kernel
theorem d_X12_meet_50 : decode (D_X12_meet).2.1 50 = .ok (.iload 4, 2) := by decide +kernel
theorem d_X12_meet_52 : decode (D_X12_meet).2.1 52 = .ok (.aload_n 0, 1) := by decide +kernel
theorem d_X12_meet_53 : decode (D_X12_meet).2.1 53 = .ok (.getfield 47, 3) := by decide +kernel
theorem d_X12_meet_56 : decode (D_X12_meet).2.1 56 = .ok (.bipush 8, 2) := by decide +kernel
theorem d_X12_meet_58 : decode (D_X12_meet).2.1 58 = .ok (.iload_n 3, 1) := by decide +kernel
theorem d_X12_meet_59 : decode (D_X12_meet).2.1 59 = .ok (.imul, 1) := by decide +kernel
theorem d_X12_meet_60 : decode (D_X12_meet).2.1 60 = .ok (.iload_n 2, 1) := by decide +kernel
theorem d_X12_meet_61 : decode (D_X12_meet).2.1 61 = .ok (.iadd, 1) := by decide +kernel
theorem d_X12_meet_62 : decode (D_X12_meet).2.1 62 = .ok (.iaload, 1) := by decide +kernel
theorem d_X12_meet_63 : decode (D_X12_meet).2.1 63 = .ok (.if_icmp .ne 9, 3) := by decide +kernel
theorem d_X12_meet_66 : decode (D_X12_meet).2.1 66 = .ok (.aload_n 0, 1) := by decide +kernel
theorem d_X12_meet_67 : decode (D_X12_meet).2.1 67 = .ok (.iload_n 3, 1) := by decide +kernel
theorem d_X12_meet_68 : decode (D_X12_meet).2.1 68 = .ok (.invokevirtual 91, 3) := by decide +kernel
theorem d_X12_meet_71 : decode (D_X12_meet).2.1 71 = .ok (.ireturn, 1) := by decide +kernel
theorem d_X12_meet_72 : decode (D_X12_meet).2.1 72 = .ok (.iinc 3 1, 3) := by decide +kernel
theorem d_X12_meet_75 : decode (D_X12_meet).2.1 75 = .ok (.goto (-49), 3) := by decide +kernel
theorem d_X12_meet_78 : decode (D_X12_meet).2.1 78 = .ok (.aload_n 0, 1) := by decide +kernel
theorem d_X12_meet_79 : decode (D_X12_meet).2.1 79 = .ok (.bipush 6, 2) := by decide +kernel
theorem d_X12_meet_81 : decode (D_X12_meet).2.1 81 = .ok (.invokevirtual 87, 3) := by decide +kernel
theorem d_X12_meet_84 : decode (D_X12_meet).2.1 84 = .ok (.ireturn, 1) := by decide +kernel
def f_X12_meet_L66 (n : Nat) (v3 : Int) (M : JMem) : Option (Int × JMem) := bnd (f_X12_gives n v3 M) fun r1 M2 => some (r1, M2)
set_option maxRecDepth 4000 in
theorem t_X12_meet_L66 {g : JG} {ad : Nat → Nat} (hs : jStr g ad) (n : Nat) (v3 : Int) (M : JMem) : jB g D_X12_meet ad 66 [some (.ref 167), none, none, some (ji v3), none] [] M (f_X12_meet_L66 n v3 M) := by
  unfold f_X12_meet_L66
  refine jo_aload 0 d_X12_meet_66 rfl rfl ?_
  refine jo_iload 3 d_X12_meet_67 rfl rfl ?_
  refine jo_callV (st := []) (m_X12_gives hs n v3 M) ok_X12_gives (And.intro (Nat.le_of_ble_eq_true rfl) (Nat.le_of_ble_eq_true rfl)) lm_X12_91 in_X12_gives se_X12_gives rfl kc_167 rfl rfl (And.intro (Nat.zero_le _) (Nat.zero_le _)) rfl (Nat.le_of_ble_eq_true rfl) d_X12_meet_68 (fun r1 M2 => ?_)
  exact jo_iret rfl d_X12_meet_71
def f_X12_meet_L72 (n : Nat) (r26 : Int → Int → Int → JMem → Option (Int × JMem)) (v1 v2 v3 : Int) (M : JMem) : Option (Int × JMem) := letv (v3 + 1) fun y1 => r26 v1 v2 y1 M
set_option maxRecDepth 4000 in
theorem t_X12_meet_L72 {g : JG} {ad : Nat → Nat} (hs : jStr g ad) (n : Nat) (r26 : Int → Int → Int → JMem → Option (Int × JMem)) (hr26 : ∀ (v1 v2 v3 : Int) (M : JMem), jB g D_X12_meet ad 26 [some (.ref 167), some (ji v1), some (ji v2), some (ji v3), none] [] M (r26 v1 v2 v3 M)) (v1 v2 v3 : Int) (M : JMem) : jB g D_X12_meet ad 72 [some (.ref 167), some (ji v1), some (ji v2), some (ji v3), none] [] M (f_X12_meet_L72 n r26 v1 v2 v3 M) := by
  unfold f_X12_meet_L72
  refine jo_iinc 3 d_X12_meet_72 rfl (Nat.le_of_ble_eq_true rfl) (fun y1 => ?_)
  refine jo_goto 26 d_X12_meet_75 (by decide) ?_
  exact jO.sub (hr26 v1 v2 y1 M) (And.intro rfl (And.intro rfl (And.intro rfl (And.intro rfl True.intro))))
def f_X12_meet_L78 (n : Nat) (M : JMem) : Option (Int × JMem) := bnd (f_X12_refuse n 6 M) fun r1 M2 => some (r1, M2)
set_option maxRecDepth 4000 in
theorem t_X12_meet_L78 {g : JG} {ad : Nat → Nat} (hs : jStr g ad) (n : Nat) (M : JMem) : jB g D_X12_meet ad 78 [some (.ref 167), none, none, none, none] [] M (f_X12_meet_L78 n M) := by
  unfold f_X12_meet_L78
  refine jo_aload 0 d_X12_meet_78 rfl rfl ?_
  refine jo_bipush 6 d_X12_meet_79 (by decide) ?_
  refine jo_callV (st := []) (m_X12_refuse hs n 6 M) ok_X12_refuse (And.intro (Nat.le_of_ble_eq_true rfl) (Nat.le_of_ble_eq_true rfl)) lm_X12_87 in_X12_refuse se_X12_refuse rfl kc_167 rfl rfl (And.intro (Nat.zero_le _) (Nat.zero_le _)) rfl (Nat.le_of_ble_eq_true rfl) d_X12_meet_81 (fun r1 M2 => ?_)
  exact jo_iret rfl d_X12_meet_84
def f_X12_meet_L26 (n : Nat) : Nat → Int → Int → Int → JMem → Option (Int × JMem)
  | 0, _, _, _, _ => none
  | k + 1, v1, v2, v3, M => if jw 64 < jw v3 then (f_X12_meet_L78 n M) else (chk (jin ((8 * v3) + v1) 520) <| letv (M 176 (jw ((8 * v3) + v1)).toNat) fun y1 => if jw y1 ≤ 0 then (f_X12_meet_L72 n (f_X12_meet_L26 n k) v1 v2 v3 M) else (chk (jin ((8 * v3) + v2) 520) <| if jw y1 = jw (M 176 (jw ((8 * v3) + v2)).toNat) then (f_X12_meet_L66 n v3 M) else (f_X12_meet_L72 n (f_X12_meet_L26 n k) v1 v2 v3 M)))
set_option maxRecDepth 4000 in
theorem t_X12_meet_L26 {g : JG} {ad : Nat → Nat} (hs : jStr g ad) (n : Nat) : ∀ (k : Nat) (v1 v2 v3 : Int) (M : JMem), jB g D_X12_meet ad 26 [some (.ref 167), some (ji v1), some (ji v2), some (ji v3), none] [] M (f_X12_meet_L26 n k v1 v2 v3 M) := by
  intro k
  induction k with
  | zero => intro v1 v2 v3 M; exact jO.none
  | succ k ih =>
    intro v1 v2 v3 M
    rw [f_X12_meet_L26]
    refine jo_iload 3 d_X12_meet_26 rfl rfl ?_
    refine jo_bipush 64 d_X12_meet_27 (by decide) ?_
    refine jo_icmp_gt 78 d_X12_meet_29 (by decide) ?_ ?_
    · skip
      exact jO.sub (t_X12_meet_L78 hs n M) (And.intro rfl True.intro)
    · skip
      refine jo_aload 0 d_X12_meet_32 rfl rfl ?_
      refine jo_getR (k := 24) cl_12 (Nat.le_of_ble_eq_true rfl) lk_X12_47 rfl kc_167 kr_167_24 d_X12_meet_33 ?_
      refine jo_bipush 8 d_X12_meet_36 (by decide) ?_
      refine jo_iload 3 d_X12_meet_38 rfl rfl ?_
      refine jo_imul d_X12_meet_39 ?_
      refine jo_iload 1 d_X12_meet_40 rfl rfl ?_
      refine jo_iadd d_X12_meet_41 ?_
      refine jo_iald (N := 520) kc_176 d_X12_meet_42 ?_
      refine jo_istoreW 4 d_X12_meet_43 (Nat.le_of_ble_eq_true rfl) (fun y1 => ?_)
      refine jo_iloadW 4 d_X12_meet_45 rfl ?_
      refine jo_if_le 72 d_X12_meet_47 (by decide) ?_ ?_
      · skip
        exact jO.sub (t_X12_meet_L72 hs n (f_X12_meet_L26 n k) ih v1 v2 v3 M) (And.intro rfl (And.intro rfl (And.intro rfl (And.intro rfl True.intro))))
      · skip
        refine jo_iloadW 4 d_X12_meet_50 rfl ?_
        refine jo_aload 0 d_X12_meet_52 rfl rfl ?_
        refine jo_getR (k := 24) cl_12 (Nat.le_of_ble_eq_true rfl) lk_X12_47 rfl kc_167 kr_167_24 d_X12_meet_53 ?_
        refine jo_bipush 8 d_X12_meet_56 (by decide) ?_
        refine jo_iload 3 d_X12_meet_58 rfl rfl ?_
        refine jo_imul d_X12_meet_59 ?_
        refine jo_iload 2 d_X12_meet_60 rfl rfl ?_
        refine jo_iadd d_X12_meet_61 ?_
        refine jo_iald (N := 520) kc_176 d_X12_meet_62 ?_
        refine jo_icmp_ne 72 d_X12_meet_63 (by decide) ?_ ?_
        · skip
          exact jO.sub (t_X12_meet_L72 hs n (f_X12_meet_L26 n k) ih v1 v2 v3 M) (And.intro rfl (And.intro rfl (And.intro rfl (And.intro rfl True.intro))))
        · skip
          exact jO.sub (t_X12_meet_L66 hs n v3 M) (And.intro rfl (And.intro rfl True.intro))
def f_X12_meet (n : Nat) (x1 : Int) (x2 : Int) (M : JMem) : Option (Int × JMem) := bnd (f_X12_areTwo n x1 x2 M) fun r1 M2 => if jw r1 = 0 then (bnd (f_X12_refuse n 1 M2) fun r6 M7 => some (r6, M7)) else (bnd (f_X12_laysWeek n M2) fun _ M4 => chk (jin 5 3160) <| letv (M4 168 (jw 5).toNat) fun y5 => f_X12_meet_L26 n n x1 x2 y5 M4)
set_option maxRecDepth 4000 in
theorem t_X12_meet {g : JG} {ad : Nat → Nat} (hs : jStr g ad) (n : Nat) (x1 : Int) (x2 : Int) (M : JMem) : jB g D_X12_meet ad 0 [some (.ref 167), some (ji x1), some (ji x2), none, none] [] M (f_X12_meet n x1 x2 M) := by
  unfold f_X12_meet
  refine jo_aload 0 d_X12_meet_0 rfl rfl ?_
  refine jo_iload 1 d_X12_meet_1 rfl rfl ?_
  refine jo_iload 2 d_X12_meet_2 rfl rfl ?_
  refine jo_callV (st := []) (m_X12_areTwo hs n x1 x2 M) ok_X12_areTwo (And.intro (Nat.le_of_ble_eq_true rfl) (Nat.le_of_ble_eq_true rfl)) lm_X12_309 in_X12_areTwo se_X12_areTwo rfl kc_167 rfl rfl (And.intro (Nat.zero_le _) (Nat.zero_le _)) rfl (Nat.le_of_ble_eq_true rfl) d_X12_meet_3 (fun r1 M2 => ?_)
  refine jo_if_ne 15 d_X12_meet_6 (by decide) ?_ ?_
  · skip
    refine jo_aload 0 d_X12_meet_15 rfl rfl ?_
    refine jo_callV (st := []) (m_X12_laysWeek hs n M2) ok_X12_laysWeek (And.intro (Nat.le_of_ble_eq_true rfl) (Nat.le_of_ble_eq_true rfl)) lm_X12_363 in_X12_laysWeek se_X12_laysWeek rfl kc_167 rfl rfl (And.intro (Nat.zero_le _) (Nat.zero_le _)) rfl (Nat.le_of_ble_eq_true rfl) d_X12_meet_16 (fun _ M4 => ?_)
    refine jo_aload 0 d_X12_meet_19 rfl rfl ?_
    refine jo_getR (k := 0) cl_12 (Nat.le_of_ble_eq_true rfl) lk_X12_7 rfl kc_167 kr_167_0 d_X12_meet_20 ?_
    refine jo_iconst 5 d_X12_meet_23 ?_
    refine jo_iald (N := 3160) kc_168 d_X12_meet_24 ?_
    refine jo_istore 3 d_X12_meet_25 rfl (Nat.le_of_ble_eq_true rfl) (fun y5 => ?_)
    exact jO.sub (t_X12_meet_L26 hs n n x1 x2 y5 M4) (And.intro rfl (And.intro rfl (And.intro rfl (And.intro rfl True.intro))))
  · skip
    refine jo_aload 0 d_X12_meet_9 rfl rfl ?_
    refine jo_iconst 1 d_X12_meet_10 ?_
    refine jo_callV (st := []) (m_X12_refuse hs n 1 M2) ok_X12_refuse (And.intro (Nat.le_of_ble_eq_true rfl) (Nat.le_of_ble_eq_true rfl)) lm_X12_87 in_X12_refuse se_X12_refuse rfl kc_167 rfl rfl (And.intro (Nat.zero_le _) (Nat.zero_le _)) rfl (Nat.le_of_ble_eq_true rfl) d_X12_meet_11 (fun r6 M7 => ?_)
    exact jo_iret rfl d_X12_meet_14
theorem m_X12_meet {g : JG} {ad : Nat → Nat} (hs : jStr g ad) (n : Nat) (x1 : Int) (x2 : Int) (M : JMem) : jMet g jNN ad jR D_X12_meet yX12_meet [.ref 167, ji x1, ji x2] M (f_X12_meet n x1 x2 M) :=
  jMet.of (lo0 := [some (.ref 167), some (ji x1), some (ji x2), none, none]) (by decide) rfl rfl (Nat.le_of_ble_eq_true rfl) (And.intro rfl (And.intro rfl (And.intro rfl True.intro))) (t_X12_meet hs n x1 x2 M)
/-! CageLeaveModel.monday()I -/
def D_X12_monday : JD := (RX12, cX12_monday, 1, some .int, "monday", { frames := 6, cells := 0, slots := 0, locals := 128 })
theorem ok_X12_monday : jOk D_X12_monday yX12_monday 0 := ⟨jTW_mem (k := 1809) (by decide +kernel) rfl, jTW_mem (k := 151) (by decide +kernel) rfl, ⟨by decide +kernel, by decide +kernel⟩, by decide +kernel, rfl, rfl⟩
theorem in_X12_monday : Cond.instanceMethod yX12_monday ∈ jTW := jTW_mem (k := 1807) (by decide +kernel) rfl
theorem se_X12_monday : Cond.selects yX12_monday.cls yX12_monday yX12_monday ∈ jTW := jTW_mem (k := 1808) (by decide +kernel) rfl
theorem d_X12_monday_0 : decode (D_X12_monday).2.1 0 = .ok (.aload_n 0, 1) := by decide +kernel
theorem d_X12_monday_1 : decode (D_X12_monday).2.1 1 = .ok (.getfield 7, 3) := by decide +kernel
theorem d_X12_monday_4 : decode (D_X12_monday).2.1 4 = .ok (.iconst 4, 1) := by decide +kernel
theorem d_X12_monday_5 : decode (D_X12_monday).2.1 5 = .ok (.iaload, 1) := by decide +kernel
theorem d_X12_monday_6 : decode (D_X12_monday).2.1 6 = .ok (.sipush 999, 3) := by decide +kernel
theorem d_X12_monday_9 : decode (D_X12_monday).2.1 9 = .ok (.if_icmp .ne 11, 3) := by decide +kernel
theorem d_X12_monday_12 : decode (D_X12_monday).2.1 12 = .ok (.aload_n 0, 1) := by decide +kernel
theorem d_X12_monday_13 : decode (D_X12_monday).2.1 13 = .ok (.iconst 4, 1) := by decide +kernel
theorem d_X12_monday_14 : decode (D_X12_monday).2.1 14 = .ok (.invokevirtual 87, 3) := by decide +kernel
theorem d_X12_monday_17 : decode (D_X12_monday).2.1 17 = .ok (.goto 27, 3) := by decide +kernel
theorem d_X12_monday_20 : decode (D_X12_monday).2.1 20 = .ok (.aload_n 0, 1) := by decide +kernel
theorem d_X12_monday_21 : decode (D_X12_monday).2.1 21 = .ok (.invokevirtual 341, 3) := by decide +kernel
theorem d_X12_monday_24 : decode (D_X12_monday).2.1 24 = .ok (.ifCond .eq 14, 3) := by decide +kernel
theorem d_X12_monday_27 : decode (D_X12_monday).2.1 27 = .ok (.aload_n 0, 1) := by decide +kernel
theorem d_X12_monday_28 : decode (D_X12_monday).2.1 28 = .ok (.aload_n 0, 1) := by decide +kernel
theorem d_X12_monday_29 : decode (D_X12_monday).2.1 29 = .ok (.invokevirtual 344, 3) := by decide +kernel
theorem d_X12_monday_32 : decode (D_X12_monday).2.1 32 = .ok (.invokevirtual 91, 3) := by decide +kernel
theorem d_X12_monday_35 : decode (D_X12_monday).2.1 35 = .ok (.goto 9, 3) := by decide +kernel
theorem d_X12_monday_38 : decode (D_X12_monday).2.1 38 = .ok (.aload_n 0, 1) := by decide +kernel
theorem d_X12_monday_39 : decode (D_X12_monday).2.1 39 = .ok (.bipush 7, 2) := by decide +kernel
theorem d_X12_monday_41 : decode (D_X12_monday).2.1 41 = .ok (.invokevirtual 87, 3) := by decide +kernel
theorem d_X12_monday_44 : decode (D_X12_monday).2.1 44 = .ok (.ireturn, 1) := by decide +kernel
def f_X12_monday (n : Nat) (M : JMem) : Option (Int × JMem) := chk (jin 4 3160) <| if jw (M 168 (jw 4).toNat) = jw 999 then (bnd (f_X12_refuse n 4 M) fun r9 M10 => some (r9, M10)) else (bnd (f_X12_isMonday n M) fun r1 M2 => if jw r1 = 0 then (bnd (f_X12_refuse n 7 M2) fun r3 M4 => some (r3, M4)) else (bnd (f_X12_mondayComes n M2) fun r5 M6 => bnd (f_X12_gives n r5 M6) fun r7 M8 => some (r7, M8)))
set_option maxRecDepth 4000 in
theorem t_X12_monday {g : JG} {ad : Nat → Nat} (hs : jStr g ad) (n : Nat) (M : JMem) : jB g D_X12_monday ad 0 [some (.ref 167)] [] M (f_X12_monday n M) := by
  unfold f_X12_monday
  refine jo_aload 0 d_X12_monday_0 rfl rfl ?_
  refine jo_getR (k := 0) cl_12 (Nat.le_of_ble_eq_true rfl) lk_X12_7 rfl kc_167 kr_167_0 d_X12_monday_1 ?_
  refine jo_iconst 4 d_X12_monday_4 ?_
  refine jo_iald (N := 3160) kc_168 d_X12_monday_5 ?_
  refine jo_sipush 999 d_X12_monday_6 (by decide) ?_
  refine jo_icmp_ne 20 d_X12_monday_9 (by decide) ?_ ?_
  · skip
    refine jo_aload 0 d_X12_monday_20 rfl rfl ?_
    refine jo_callV (st := []) (m_X12_isMonday hs n M) ok_X12_isMonday (And.intro (Nat.le_of_ble_eq_true rfl) (Nat.le_of_ble_eq_true rfl)) lm_X12_341 in_X12_isMonday se_X12_isMonday rfl kc_167 rfl rfl (And.intro (Nat.zero_le _) (Nat.zero_le _)) rfl (Nat.le_of_ble_eq_true rfl) d_X12_monday_21 (fun r1 M2 => ?_)
    refine jo_if_eq 38 d_X12_monday_24 (by decide) ?_ ?_
    · skip
      refine jo_aload 0 d_X12_monday_38 rfl rfl ?_
      refine jo_bipush 7 d_X12_monday_39 (by decide) ?_
      refine jo_callV (st := []) (m_X12_refuse hs n 7 M2) ok_X12_refuse (And.intro (Nat.le_of_ble_eq_true rfl) (Nat.le_of_ble_eq_true rfl)) lm_X12_87 in_X12_refuse se_X12_refuse rfl kc_167 rfl rfl (And.intro (Nat.zero_le _) (Nat.zero_le _)) rfl (Nat.le_of_ble_eq_true rfl) d_X12_monday_41 (fun r3 M4 => ?_)
      exact jo_iret rfl d_X12_monday_44
    · skip
      refine jo_aload 0 d_X12_monday_27 rfl rfl ?_
      refine jo_aload 0 d_X12_monday_28 rfl rfl ?_
      refine jo_callV (st := [.ref 167]) (m_X12_mondayComes hs n M2) ok_X12_mondayComes (And.intro (Nat.le_of_ble_eq_true rfl) (Nat.le_of_ble_eq_true rfl)) lm_X12_344 in_X12_mondayComes se_X12_mondayComes rfl kc_167 rfl rfl (And.intro (Nat.zero_le _) (Nat.zero_le _)) rfl (Nat.le_of_ble_eq_true rfl) d_X12_monday_29 (fun r5 M6 => ?_)
      refine jo_callV (st := []) (m_X12_gives hs n r5 M6) ok_X12_gives (And.intro (Nat.le_of_ble_eq_true rfl) (Nat.le_of_ble_eq_true rfl)) lm_X12_91 in_X12_gives se_X12_gives rfl kc_167 rfl rfl (And.intro (Nat.zero_le _) (Nat.zero_le _)) rfl (Nat.le_of_ble_eq_true rfl) d_X12_monday_32 (fun r7 M8 => ?_)
      refine jo_goto 44 d_X12_monday_35 (by decide) ?_
      exact jo_iret rfl d_X12_monday_44
  · skip
    refine jo_aload 0 d_X12_monday_12 rfl rfl ?_
    refine jo_iconst 4 d_X12_monday_13 ?_
    refine jo_callV (st := []) (m_X12_refuse hs n 4 M) ok_X12_refuse (And.intro (Nat.le_of_ble_eq_true rfl) (Nat.le_of_ble_eq_true rfl)) lm_X12_87 in_X12_refuse se_X12_refuse rfl kc_167 rfl rfl (And.intro (Nat.zero_le _) (Nat.zero_le _)) rfl (Nat.le_of_ble_eq_true rfl) d_X12_monday_14 (fun r9 M10 => ?_)
    refine jo_goto 44 d_X12_monday_17 (by decide) ?_
    exact jo_iret rfl d_X12_monday_44
theorem m_X12_monday {g : JG} {ad : Nat → Nat} (hs : jStr g ad) (n : Nat) (M : JMem) : jMet g jNN ad jR D_X12_monday yX12_monday [.ref 167] M (f_X12_monday n M) :=
  jMet.of (lo0 := [some (.ref 167)]) (by decide) rfl rfl (Nat.le_of_ble_eq_true rfl) (And.intro rfl True.intro) (t_X12_monday hs n M)
/-! CageLeaveModel.most()I -/
def D_X12_most : JD := (RX12, cX12_most, 3, some .int, "most", { frames := 9, cells := 0, slots := 0, locals := 197 })
theorem ok_X12_most : jOk D_X12_most yX12_most 0 := ⟨jTW_mem (k := 1918) (by decide +kernel) rfl, jTW_mem (k := 151) (by decide +kernel) rfl, ⟨by decide +kernel, by decide +kernel⟩, by decide +kernel, rfl, rfl⟩
theorem in_X12_most : Cond.instanceMethod yX12_most ∈ jTW := jTW_mem (k := 1916) (by decide +kernel) rfl
theorem se_X12_most : Cond.selects yX12_most.cls yX12_most yX12_most ∈ jTW := jTW_mem (k := 1917) (by decide +kernel) rfl
theorem d_X12_most_0 : decode (D_X12_most).2.1 0 = .ok (.iconst 0, 1) := by decide +kernel
theorem d_X12_most_1 : decode (D_X12_most).2.1 1 = .ok (.istore_n 1, 1) := by decide +kernel
theorem d_X12_most_2 : decode (D_X12_most).2.1 2 = .ok (.iconst 1, 1) := by decide +kernel
theorem d_X12_most_3 : decode (D_X12_most).2.1 3 = .ok (.istore_n 2, 1) := by decide +kernel
theorem d_X12_most_4 : decode (D_X12_most).2.1 4 = .ok (.iload_n 2, 1) := by decide +kernel
theorem d_X12_most_5 : decode (D_X12_most).2.1 5 = .ok (.iconst 1, 1) := by decide +kernel
theorem d_X12_most_6 : decode (D_X12_most).2.1 6 = .ok (.aload_n 0, 1) := by decide +kernel
theorem d_X12_most_7 : decode (D_X12_most).2.1 7 = .ok (.getfield 7, 3) := by decide +kernel
theorem d_X12_most_10 : decode (D_X12_most).2.1 10 = .ok (.iconst 2, 1) := by decide +kernel
theorem d_X12_most_11 : decode (D_X12_most).2.1 11 = .ok (.iaload, 1) := by decide +kernel
theorem d_X12_most_12 : decode (D_X12_most).2.1 12 = .ok (.ishl, 1) := by decide +kernel
theorem d_X12_most_13 : decode (D_X12_most).2.1 13 = .ok (.if_icmp .ge 38, 3) := by decide +kernel
theorem d_X12_most_16 : decode (D_X12_most).2.1 16 = .ok (.aload_n 0, 1) := by decide +kernel
theorem d_X12_most_17 : decode (D_X12_most).2.1 17 = .ok (.iload_n 2, 1) := by decide +kernel
theorem d_X12_most_18 : decode (D_X12_most).2.1 18 = .ok (.invokevirtual 369, 3) := by decide +kernel
theorem d_X12_most_21 : decode (D_X12_most).2.1 21 = .ok (.ifCond .eq 24, 3) := by decide +kernel
theorem d_X12_most_24 : decode (D_X12_most).2.1 24 = .ok (.iload_n 2, 1) := by decide +kernel
theorem d_X12_most_25 : decode (D_X12_most).2.1 25 = .ok (.invokestatic 338, 3) := by decide +kernel
theorem d_X12_most_28 : decode (D_X12_most).2.1 28 = .ok (.iload_n 1, 1) := by decide +kernel
theorem d_X12_most_29 : decode (D_X12_most).2.1 29 = .ok (.invokestatic 338, 3) := by decide +kernel
theorem d_X12_most_32 : decode (D_X12_most).2.1 32 = .ok (.if_icmp .le 13, 3) := by decide +kernel
theorem d_X12_most_35 : decode (D_X12_most).2.1 35 = .ok (.aload_n 0, 1) := by decide +kernel
theorem d_X12_most_36 : decode (D_X12_most).2.1 36 = .ok (.iload_n 2, 1) := by decide +kernel
theorem d_X12_most_37 : decode (D_X12_most).2.1 37 = .ok (.invokevirtual 372, 3) := by decide +kernel
theorem d_X12_most_40 : decode (D_X12_most).2.1 40 = .ok (.ifCond .ne 5, 3) := by decide +kernel
theorem d_X12_most_43 : decode (D_X12_most).2.1 43 = .ok (.iload_n 2, 1) := by decide +kernel
theorem d_X12_most_44 : decode (D_X12_most).2.1 44 = .ok (.istore_n 1, 1) := by decide +kernel
theorem d_X12_most_45 : decode (D_X12_most).2.1 45 = .ok (.iinc 2 1, 3) := by decide +kernel
theorem d_X12_most_48 : decode (D_X12_most).2.1 48 = .ok (.goto (-44), 3) := by decide +kernel
theorem d_X12_most_51 : decode (D_X12_most).2.1 51 = .ok (.aload_n 0, 1) := by decide +kernel
theorem d_X12_most_52 : decode (D_X12_most).2.1 52 = .ok (.iload_n 1, 1) := by decide +kernel
theorem d_X12_most_53 : decode (D_X12_most).2.1 53 = .ok (.invokevirtual 91, 3) := by decide +kernel
theorem d_X12_most_56 : decode (D_X12_most).2.1 56 = .ok (.ireturn, 1) := by decide +kernel
def f_X12_most_L45 (n : Nat) (r4 : Int → Int → JMem → Option (Int × JMem)) (v1 v2 : Int) (M : JMem) : Option (Int × JMem) := letv (v2 + 1) fun y1 => r4 v1 y1 M
set_option maxRecDepth 4000 in
theorem t_X12_most_L45 {g : JG} {ad : Nat → Nat} (hs : jStr g ad) (n : Nat) (r4 : Int → Int → JMem → Option (Int × JMem)) (hr4 : ∀ (v1 v2 : Int) (M : JMem), jB g D_X12_most ad 4 [some (.ref 167), some (ji v1), some (ji v2)] [] M (r4 v1 v2 M)) (v1 v2 : Int) (M : JMem) : jB g D_X12_most ad 45 [some (.ref 167), some (ji v1), some (ji v2)] [] M (f_X12_most_L45 n r4 v1 v2 M) := by
  unfold f_X12_most_L45
  refine jo_iinc 2 d_X12_most_45 rfl (Nat.le_of_ble_eq_true rfl) (fun y1 => ?_)
  refine jo_goto 4 d_X12_most_48 (by decide) ?_
  exact jO.sub (hr4 v1 y1 M) (And.intro rfl (And.intro rfl (And.intro rfl True.intro)))
def f_X12_most_L51 (n : Nat) (v1 : Int) (M : JMem) : Option (Int × JMem) := bnd (f_X12_gives n v1 M) fun r1 M2 => some (r1, M2)
set_option maxRecDepth 4000 in
theorem t_X12_most_L51 {g : JG} {ad : Nat → Nat} (hs : jStr g ad) (n : Nat) (v1 : Int) (M : JMem) : jB g D_X12_most ad 51 [some (.ref 167), some (ji v1), none] [] M (f_X12_most_L51 n v1 M) := by
  unfold f_X12_most_L51
  refine jo_aload 0 d_X12_most_51 rfl rfl ?_
  refine jo_iload 1 d_X12_most_52 rfl rfl ?_
  refine jo_callV (st := []) (m_X12_gives hs n v1 M) ok_X12_gives (And.intro (Nat.le_of_ble_eq_true rfl) (Nat.le_of_ble_eq_true rfl)) lm_X12_91 in_X12_gives se_X12_gives rfl kc_167 rfl rfl (And.intro (Nat.zero_le _) (Nat.zero_le _)) rfl (Nat.le_of_ble_eq_true rfl) d_X12_most_53 (fun r1 M2 => ?_)
  exact jo_iret rfl d_X12_most_56
def f_X12_most_L4 (n : Nat) : Nat → Int → Int → JMem → Option (Int × JMem)
  | 0, _, _, _ => none
  | k + 1, v1, v2, M => chk (jin 2 3160) <| if jw (jshl 1 (M 168 (jw 2).toNat)) ≤ jw v2 then (f_X12_most_L51 n v1 M) else (bnd (f_X12_areAlive n v2 M) fun r1 M2 => if jw r1 = 0 then (f_X12_most_L45 n (f_X12_most_L4 n k) v1 v2 M2) else (bnd (f_X12_bits n v2 M2) fun r3 M4 => bnd (f_X12_bits n v1 M4) fun r5 M6 => if jw r3 ≤ jw r5 then (f_X12_most_L45 n (f_X12_most_L4 n k) v1 v2 M6) else (bnd (f_X12_lettingOut n v2 M6) fun r7 M8 => if jw r7 = 0 then (letv v2 fun y9 => f_X12_most_L45 n (f_X12_most_L4 n k) y9 v2 M8) else (f_X12_most_L45 n (f_X12_most_L4 n k) v1 v2 M8))))
set_option maxRecDepth 4000 in
theorem t_X12_most_L4 {g : JG} {ad : Nat → Nat} (hs : jStr g ad) (n : Nat) : ∀ (k : Nat) (v1 v2 : Int) (M : JMem), jB g D_X12_most ad 4 [some (.ref 167), some (ji v1), some (ji v2)] [] M (f_X12_most_L4 n k v1 v2 M) := by
  intro k
  induction k with
  | zero => intro v1 v2 M; exact jO.none
  | succ k ih =>
    intro v1 v2 M
    rw [f_X12_most_L4]
    refine jo_iload 2 d_X12_most_4 rfl rfl ?_
    refine jo_iconst 1 d_X12_most_5 ?_
    refine jo_aload 0 d_X12_most_6 rfl rfl ?_
    refine jo_getR (k := 0) cl_12 (Nat.le_of_ble_eq_true rfl) lk_X12_7 rfl kc_167 kr_167_0 d_X12_most_7 ?_
    refine jo_iconst 2 d_X12_most_10 ?_
    refine jo_iald (N := 3160) kc_168 d_X12_most_11 ?_
    refine jo_ishl d_X12_most_12 ?_
    refine jo_icmp_ge 51 d_X12_most_13 (by decide) ?_ ?_
    · skip
      exact jO.sub (t_X12_most_L51 hs n v1 M) (And.intro rfl (And.intro rfl True.intro))
    · skip
      refine jo_aload 0 d_X12_most_16 rfl rfl ?_
      refine jo_iload 2 d_X12_most_17 rfl rfl ?_
      refine jo_callV (st := []) (m_X12_areAlive hs n v2 M) ok_X12_areAlive (And.intro (Nat.le_of_ble_eq_true rfl) (Nat.le_of_ble_eq_true rfl)) lm_X12_369 in_X12_areAlive se_X12_areAlive rfl kc_167 rfl rfl (And.intro (Nat.zero_le _) (Nat.zero_le _)) rfl (Nat.le_of_ble_eq_true rfl) d_X12_most_18 (fun r1 M2 => ?_)
      refine jo_if_eq 45 d_X12_most_21 (by decide) ?_ ?_
      · skip
        exact jO.sub (t_X12_most_L45 hs n (f_X12_most_L4 n k) ih v1 v2 M2) (And.intro rfl (And.intro rfl (And.intro rfl True.intro)))
      · skip
        refine jo_iload 2 d_X12_most_24 rfl rfl ?_
        refine jo_callS (st := []) (m_X12_bits hs n v2 M2) ok_X12_bits (And.intro (Nat.le_of_ble_eq_true rfl) (Nat.le_of_ble_eq_true rfl)) lm_X12_338 st_X12_bits rfl (And.intro (Nat.zero_le _) (Nat.zero_le _)) rfl (Nat.le_of_ble_eq_true rfl) d_X12_most_25 (fun r3 M4 => ?_)
        refine jo_iload 1 d_X12_most_28 rfl rfl ?_
        refine jo_callS (st := [ji r3]) (m_X12_bits hs n v1 M4) ok_X12_bits (And.intro (Nat.le_of_ble_eq_true rfl) (Nat.le_of_ble_eq_true rfl)) lm_X12_338 st_X12_bits rfl (And.intro (Nat.zero_le _) (Nat.zero_le _)) rfl (Nat.le_of_ble_eq_true rfl) d_X12_most_29 (fun r5 M6 => ?_)
        refine jo_icmp_le 45 d_X12_most_32 (by decide) ?_ ?_
        · skip
          exact jO.sub (t_X12_most_L45 hs n (f_X12_most_L4 n k) ih v1 v2 M6) (And.intro rfl (And.intro rfl (And.intro rfl True.intro)))
        · skip
          refine jo_aload 0 d_X12_most_35 rfl rfl ?_
          refine jo_iload 2 d_X12_most_36 rfl rfl ?_
          refine jo_callV (st := []) (m_X12_lettingOut hs n v2 M6) ok_X12_lettingOut (And.intro (Nat.le_of_ble_eq_true rfl) (Nat.le_of_ble_eq_true rfl)) lm_X12_372 in_X12_lettingOut se_X12_lettingOut rfl kc_167 rfl rfl (And.intro (Nat.zero_le _) (Nat.zero_le _)) rfl (Nat.le_of_ble_eq_true rfl) d_X12_most_37 (fun r7 M8 => ?_)
          refine jo_if_ne 45 d_X12_most_40 (by decide) ?_ ?_
          · skip
            exact jO.sub (t_X12_most_L45 hs n (f_X12_most_L4 n k) ih v1 v2 M8) (And.intro rfl (And.intro rfl (And.intro rfl True.intro)))
          · skip
            refine jo_iload 2 d_X12_most_43 rfl rfl ?_
            refine jo_istore 1 d_X12_most_44 rfl (Nat.le_of_ble_eq_true rfl) (fun y9 => ?_)
            exact jO.sub (t_X12_most_L45 hs n (f_X12_most_L4 n k) ih y9 v2 M8) (And.intro rfl (And.intro rfl (And.intro rfl True.intro)))
def f_X12_most (n : Nat) (M : JMem) : Option (Int × JMem) := letv 0 fun y1 => letv 1 fun y2 => f_X12_most_L4 n n y1 y2 M
set_option maxRecDepth 4000 in
theorem t_X12_most {g : JG} {ad : Nat → Nat} (hs : jStr g ad) (n : Nat) (M : JMem) : jB g D_X12_most ad 0 [some (.ref 167), none, none] [] M (f_X12_most n M) := by
  unfold f_X12_most
  refine jo_iconst 0 d_X12_most_0 ?_
  refine jo_istore 1 d_X12_most_1 rfl (Nat.le_of_ble_eq_true rfl) (fun y1 => ?_)
  refine jo_iconst 1 d_X12_most_2 ?_
  refine jo_istore 2 d_X12_most_3 rfl (Nat.le_of_ble_eq_true rfl) (fun y2 => ?_)
  exact jO.sub (t_X12_most_L4 hs n n y1 y2 M) (And.intro rfl (And.intro rfl (And.intro rfl True.intro)))
theorem m_X12_most {g : JG} {ad : Nat → Nat} (hs : jStr g ad) (n : Nat) (M : JMem) : jMet g jNN ad jR D_X12_most yX12_most [.ref 167] M (f_X12_most n M) :=
  jMet.of (lo0 := [some (.ref 167), none, none]) (by decide) rfl rfl (Nat.le_of_ble_eq_true rfl) (And.intro rfl True.intro) (t_X12_most hs n M)
/-! CageLeaveModel.mourn(I)Z -/
def D_X12_mourn : JD := (RX12, cX12_mourn, 2, some .boolean, "mourn", { frames := 3, cells := 0, slots := 0, locals := 63 })
theorem ok_X12_mourn : jOk D_X12_mourn yX12_mourn 1 := ⟨jTW_mem (k := 1854) (by decide +kernel) rfl, jTW_mem (k := 151) (by decide +kernel) rfl, ⟨by decide +kernel, by decide +kernel⟩, by decide +kernel, rfl, rfl⟩
theorem in_X12_mourn : Cond.instanceMethod yX12_mourn ∈ jTW := jTW_mem (k := 1852) (by decide +kernel) rfl
theorem se_X12_mourn : Cond.selects yX12_mourn.cls yX12_mourn yX12_mourn ∈ jTW := jTW_mem (k := 1853) (by decide +kernel) rfl
theorem d_X12_mourn_0 : decode (D_X12_mourn).2.1 0 = .ok (.aload_n 0, 1) := by decide +kernel
theorem d_X12_mourn_1 : decode (D_X12_mourn).2.1 1 = .ok (.iload_n 1, 1) := by decide +kernel
theorem d_X12_mourn_2 : decode (D_X12_mourn).2.1 2 = .ok (.invokevirtual 263, 3) := by decide +kernel
theorem d_X12_mourn_5 : decode (D_X12_mourn).2.1 5 = .ok (.ifCond .ne 9, 3) := by decide +kernel
theorem d_X12_mourn_8 : decode (D_X12_mourn).2.1 8 = .ok (.aload_n 0, 1) := by decide +kernel
theorem d_X12_mourn_9 : decode (D_X12_mourn).2.1 9 = .ok (.iconst 1, 1) := by decide +kernel
theorem d_X12_mourn_10 : decode (D_X12_mourn).2.1 10 = .ok (.invokevirtual 94, 3) := by decide +kernel
theorem d_X12_mourn_13 : decode (D_X12_mourn).2.1 13 = .ok (.ireturn, 1) := by decide +kernel
theorem d_X12_mourn_14 : decode (D_X12_mourn).2.1 14 = .ok (.aload_n 0, 1) := by decide +kernel
theorem d_X12_mourn_15 : decode (D_X12_mourn).2.1 15 = .ok (.iload_n 1, 1) := by decide +kernel
theorem d_X12_mourn_16 : decode (D_X12_mourn).2.1 16 = .ok (.invokevirtual 279, 3) := by decide +kernel
theorem d_X12_mourn_19 : decode (D_X12_mourn).2.1 19 = .ok (.ifCond .ne 10, 3) := by decide +kernel
theorem d_X12_mourn_22 : decode (D_X12_mourn).2.1 22 = .ok (.aload_n 0, 1) := by decide +kernel
theorem d_X12_mourn_23 : decode (D_X12_mourn).2.1 23 = .ok (.bipush 7, 2) := by decide +kernel
theorem d_X12_mourn_25 : decode (D_X12_mourn).2.1 25 = .ok (.invokevirtual 94, 3) := by decide +kernel
theorem d_X12_mourn_28 : decode (D_X12_mourn).2.1 28 = .ok (.ireturn, 1) := by decide +kernel
theorem d_X12_mourn_29 : decode (D_X12_mourn).2.1 29 = .ok (.aload_n 0, 1) := by decide +kernel
theorem d_X12_mourn_30 : decode (D_X12_mourn).2.1 30 = .ok (.getfield 7, 3) := by decide +kernel
theorem d_X12_mourn_33 : decode (D_X12_mourn).2.1 33 = .ok (.iload_n 1, 1) := by decide +kernel
theorem d_X12_mourn_34 : decode (D_X12_mourn).2.1 34 = .ok (.invokestatic 270, 3) := by decide +kernel
theorem d_X12_mourn_37 : decode (D_X12_mourn).2.1 37 = .ok (.iconst 3, 1) := by decide +kernel
theorem d_X12_mourn_38 : decode (D_X12_mourn).2.1 38 = .ok (.iadd, 1) := by decide +kernel
theorem d_X12_mourn_39 : decode (D_X12_mourn).2.1 39 = .ok (.iconst 0, 1) := by decide +kernel
theorem d_X12_mourn_40 : decode (D_X12_mourn).2.1 40 = .ok (.iastore, 1) := by decide +kernel
theorem d_X12_mourn_41 : decode (D_X12_mourn).2.1 41 = .ok (.aload_n 0, 1) := by decide +kernel
theorem d_X12_mourn_42 : decode (D_X12_mourn).2.1 42 = .ok (.getfield 7, 3) := by decide +kernel
theorem d_X12_mourn_45 : decode (D_X12_mourn).2.1 45 = .ok (.iload_n 1, 1) := by decide +kernel
theorem d_X12_mourn_46 : decode (D_X12_mourn).2.1 46 = .ok (.invokestatic 270, 3) := by decide +kernel
theorem d_X12_mourn_49 : decode (D_X12_mourn).2.1 49 = .ok (.bipush 9, 2) := by decide +kernel
theorem d_X12_mourn_51 : decode (D_X12_mourn).2.1 51 = .ok (.iadd, 1) := by decide +kernel
theorem d_X12_mourn_52 : decode (D_X12_mourn).2.1 52 = .ok (.iconst (-1), 1) := by decide +kernel
theorem d_X12_mourn_53 : decode (D_X12_mourn).2.1 53 = .ok (.iastore, 1) := by decide +kernel
theorem d_X12_mourn_54 : decode (D_X12_mourn).2.1 54 = .ok (.aload_n 0, 1) := by decide +kernel
theorem d_X12_mourn_55 : decode (D_X12_mourn).2.1 55 = .ok (.getfield 7, 3) := by decide +kernel
theorem d_X12_mourn_58 : decode (D_X12_mourn).2.1 58 = .ok (.iload_n 1, 1) := by decide +kernel
theorem d_X12_mourn_59 : decode (D_X12_mourn).2.1 59 = .ok (.invokestatic 270, 3) := by decide +kernel
theorem d_X12_mourn_62 : decode (D_X12_mourn).2.1 62 = .ok (.bipush 7, 2) := by decide +kernel
theorem d_X12_mourn_64 : decode (D_X12_mourn).2.1 64 = .ok (.iadd, 1) := by decide +kernel
theorem d_X12_mourn_65 : decode (D_X12_mourn).2.1 65 = .ok (.iconst 0, 1) := by decide +kernel
theorem d_X12_mourn_66 : decode (D_X12_mourn).2.1 66 = .ok (.iastore, 1) := by decide +kernel
theorem d_X12_mourn_67 : decode (D_X12_mourn).2.1 67 = .ok (.aload_n 0, 1) := by decide +kernel
theorem d_X12_mourn_68 : decode (D_X12_mourn).2.1 68 = .ok (.iconst 0, 1) := by decide +kernel
theorem d_X12_mourn_69 : decode (D_X12_mourn).2.1 69 = .ok (.invokevirtual 94, 3) := by decide +kernel
theorem d_X12_mourn_72 : decode (D_X12_mourn).2.1 72 = .ok (.ireturn, 1) := by decide +kernel
def f_X12_mourn (n : Nat) (x1 : Int) (M : JMem) : Option (Int × JMem) := bnd (f_X12_isBeast n x1 M) fun r1 M2 => if jw r1 = 0 then (bnd (f_X12_is n 1 M2) fun r18 M19 => chk (jw r18 = 0 ∨ jw r18 = 1) (some (r18, M19))) else (bnd (f_X12_isEaten n x1 M2) fun r3 M4 => if jw r3 = 0 then (bnd (f_X12_is n 7 M4) fun r16 M17 => chk (jw r16 = 0 ∨ jw r16 = 1) (some (r16, M17))) else (bnd (f_X12_beastRow n x1 M4) fun r5 M6 => chk (jin (r5 + 3) 3160) <| letm (jup M6 168 (jw (r5 + 3)).toNat 0) fun M7 => bnd (f_X12_beastRow n x1 M7) fun r8 M9 => chk (jin (r8 + 9) 3160) <| letm (jup M9 168 (jw (r8 + 9)).toNat (-1)) fun M10 => bnd (f_X12_beastRow n x1 M10) fun r11 M12 => chk (jin (r11 + 7) 3160) <| letm (jup M12 168 (jw (r11 + 7)).toNat 0) fun M13 => bnd (f_X12_is n 0 M13) fun r14 M15 => chk (jw r14 = 0 ∨ jw r14 = 1) (some (r14, M15))))
set_option maxRecDepth 4000 in
theorem t_X12_mourn {g : JG} {ad : Nat → Nat} (hs : jStr g ad) (n : Nat) (x1 : Int) (M : JMem) : jB g D_X12_mourn ad 0 [some (.ref 167), some (ji x1)] [] M (f_X12_mourn n x1 M) := by
  unfold f_X12_mourn
  refine jo_aload 0 d_X12_mourn_0 rfl rfl ?_
  refine jo_iload 1 d_X12_mourn_1 rfl rfl ?_
  refine jo_callV (st := []) (m_X12_isBeast hs n x1 M) ok_X12_isBeast (And.intro (Nat.le_of_ble_eq_true rfl) (Nat.le_of_ble_eq_true rfl)) lm_X12_263 in_X12_isBeast se_X12_isBeast rfl kc_167 rfl rfl (And.intro (Nat.zero_le _) (Nat.zero_le _)) rfl (Nat.le_of_ble_eq_true rfl) d_X12_mourn_2 (fun r1 M2 => ?_)
  refine jo_if_ne 14 d_X12_mourn_5 (by decide) ?_ ?_
  · skip
    refine jo_aload 0 d_X12_mourn_14 rfl rfl ?_
    refine jo_iload 1 d_X12_mourn_15 rfl rfl ?_
    refine jo_callV (st := []) (m_X12_isEaten hs n x1 M2) ok_X12_isEaten (And.intro (Nat.le_of_ble_eq_true rfl) (Nat.le_of_ble_eq_true rfl)) lm_X12_279 in_X12_isEaten se_X12_isEaten rfl kc_167 rfl rfl (And.intro (Nat.zero_le _) (Nat.zero_le _)) rfl (Nat.le_of_ble_eq_true rfl) d_X12_mourn_16 (fun r3 M4 => ?_)
    refine jo_if_ne 29 d_X12_mourn_19 (by decide) ?_ ?_
    · skip
      refine jo_aload 0 d_X12_mourn_29 rfl rfl ?_
      refine jo_getR (k := 0) cl_12 (Nat.le_of_ble_eq_true rfl) lk_X12_7 rfl kc_167 kr_167_0 d_X12_mourn_30 ?_
      refine jo_iload 1 d_X12_mourn_33 rfl rfl ?_
      refine jo_callS (st := [.ref 168]) (m_X12_beastRow hs n x1 M4) ok_X12_beastRow (And.intro (Nat.le_of_ble_eq_true rfl) (Nat.le_of_ble_eq_true rfl)) lm_X12_270 st_X12_beastRow rfl (And.intro (Nat.zero_le _) (Nat.zero_le _)) rfl (Nat.le_of_ble_eq_true rfl) d_X12_mourn_34 (fun r5 M6 => ?_)
      refine jo_iconst 3 d_X12_mourn_37 ?_
      refine jo_iadd d_X12_mourn_38 ?_
      refine jo_iconst 0 d_X12_mourn_39 ?_
      refine jo_iast (N := 3160) kc_168 d_X12_mourn_40 (fun M7 => ?_)
      refine jo_aload 0 d_X12_mourn_41 rfl rfl ?_
      refine jo_getR (k := 0) cl_12 (Nat.le_of_ble_eq_true rfl) lk_X12_7 rfl kc_167 kr_167_0 d_X12_mourn_42 ?_
      refine jo_iload 1 d_X12_mourn_45 rfl rfl ?_
      refine jo_callS (st := [.ref 168]) (m_X12_beastRow hs n x1 M7) ok_X12_beastRow (And.intro (Nat.le_of_ble_eq_true rfl) (Nat.le_of_ble_eq_true rfl)) lm_X12_270 st_X12_beastRow rfl (And.intro (Nat.zero_le _) (Nat.zero_le _)) rfl (Nat.le_of_ble_eq_true rfl) d_X12_mourn_46 (fun r8 M9 => ?_)
      refine jo_bipush 9 d_X12_mourn_49 (by decide) ?_
      refine jo_iadd d_X12_mourn_51 ?_
      refine jo_iconst (-1) d_X12_mourn_52 ?_
      refine jo_iast (N := 3160) kc_168 d_X12_mourn_53 (fun M10 => ?_)
      refine jo_aload 0 d_X12_mourn_54 rfl rfl ?_
      refine jo_getR (k := 0) cl_12 (Nat.le_of_ble_eq_true rfl) lk_X12_7 rfl kc_167 kr_167_0 d_X12_mourn_55 ?_
      refine jo_iload 1 d_X12_mourn_58 rfl rfl ?_
      refine jo_callS (st := [.ref 168]) (m_X12_beastRow hs n x1 M10) ok_X12_beastRow (And.intro (Nat.le_of_ble_eq_true rfl) (Nat.le_of_ble_eq_true rfl)) lm_X12_270 st_X12_beastRow rfl (And.intro (Nat.zero_le _) (Nat.zero_le _)) rfl (Nat.le_of_ble_eq_true rfl) d_X12_mourn_59 (fun r11 M12 => ?_)
      refine jo_bipush 7 d_X12_mourn_62 (by decide) ?_
      refine jo_iadd d_X12_mourn_64 ?_
      refine jo_iconst 0 d_X12_mourn_65 ?_
      refine jo_iast (N := 3160) kc_168 d_X12_mourn_66 (fun M13 => ?_)
      refine jo_aload 0 d_X12_mourn_67 rfl rfl ?_
      refine jo_iconst 0 d_X12_mourn_68 ?_
      refine jo_callV (st := []) (m_X12_is hs n 0 M13) ok_X12_is (And.intro (Nat.le_of_ble_eq_true rfl) (Nat.le_of_ble_eq_true rfl)) lm_X12_94 in_X12_is se_X12_is rfl kc_167 rfl rfl (And.intro (Nat.zero_le _) (Nat.zero_le _)) rfl (Nat.le_of_ble_eq_true rfl) d_X12_mourn_69 (fun r14 M15 => ?_)
      exact jo_zretq rfl d_X12_mourn_72
    · skip
      refine jo_aload 0 d_X12_mourn_22 rfl rfl ?_
      refine jo_bipush 7 d_X12_mourn_23 (by decide) ?_
      refine jo_callV (st := []) (m_X12_is hs n 7 M4) ok_X12_is (And.intro (Nat.le_of_ble_eq_true rfl) (Nat.le_of_ble_eq_true rfl)) lm_X12_94 in_X12_is se_X12_is rfl kc_167 rfl rfl (And.intro (Nat.zero_le _) (Nat.zero_le _)) rfl (Nat.le_of_ble_eq_true rfl) d_X12_mourn_25 (fun r16 M17 => ?_)
      exact jo_zretq rfl d_X12_mourn_28
  · skip
    refine jo_aload 0 d_X12_mourn_8 rfl rfl ?_
    refine jo_iconst 1 d_X12_mourn_9 ?_
    refine jo_callV (st := []) (m_X12_is hs n 1 M2) ok_X12_is (And.intro (Nat.le_of_ble_eq_true rfl) (Nat.le_of_ble_eq_true rfl)) lm_X12_94 in_X12_is se_X12_is rfl kc_167 rfl rfl (And.intro (Nat.zero_le _) (Nat.zero_le _)) rfl (Nat.le_of_ble_eq_true rfl) d_X12_mourn_10 (fun r18 M19 => ?_)
    exact jo_zretq rfl d_X12_mourn_13
theorem m_X12_mourn {g : JG} {ad : Nat → Nat} (hs : jStr g ad) (n : Nat) (x1 : Int) (M : JMem) : jMet g jNN ad jR D_X12_mourn yX12_mourn [.ref 167, ji x1] M (f_X12_mourn n x1 M) :=
  jMet.of (lo0 := [some (.ref 167), some (ji x1)]) (by decide) rfl rfl (Nat.le_of_ble_eq_true rfl) (And.intro rfl (And.intro rfl True.intro)) (t_X12_mourn hs n x1 M)
/-! CageLeaveModel.onTrains()I -/
def D_X12_onTrains : JD := (RX12, cX12_onTrains, 3, some .int, "onTrains", { frames := 5, cells := 0, slots := 0, locals := 107 })
theorem ok_X12_onTrains : jOk D_X12_onTrains yX12_onTrains 0 := ⟨jTW_mem (k := 1706) (by decide +kernel) rfl, jTW_mem (k := 151) (by decide +kernel) rfl, ⟨by decide +kernel, by decide +kernel⟩, by decide +kernel, rfl, rfl⟩
theorem in_X12_onTrains : Cond.instanceMethod yX12_onTrains ∈ jTW := jTW_mem (k := 1705) (by decide +kernel) rfl
theorem se_X12_onTrains : Cond.selects yX12_onTrains.cls yX12_onTrains yX12_onTrains ∈ jTW := jTW_mem (k := 84) (by decide +kernel) rfl
theorem lm_X12_285 : Cond.methodLink RX12 285 yX12_beastsAt ∈ jTW := jTW_mem (k := 1707) (by decide +kernel) rfl
theorem d_X12_onTrains_0 : decode (D_X12_onTrains).2.1 0 = .ok (.iconst 0, 1) := by decide +kernel
theorem d_X12_onTrains_1 : decode (D_X12_onTrains).2.1 1 = .ok (.istore_n 1, 1) := by decide +kernel
theorem d_X12_onTrains_2 : decode (D_X12_onTrains).2.1 2 = .ok (.iconst 0, 1) := by decide +kernel
theorem d_X12_onTrains_3 : decode (D_X12_onTrains).2.1 3 = .ok (.istore_n 2, 1) := by decide +kernel
theorem d_X12_onTrains_4 : decode (D_X12_onTrains).2.1 4 = .ok (.iload_n 2, 1) := by decide +kernel
theorem d_X12_onTrains_5 : decode (D_X12_onTrains).2.1 5 = .ok (.aload_n 0, 1) := by decide +kernel
theorem d_X12_onTrains_6 : decode (D_X12_onTrains).2.1 6 = .ok (.getfield 7, 3) := by decide +kernel
theorem d_X12_onTrains_9 : decode (D_X12_onTrains).2.1 9 = .ok (.iconst 1, 1) := by decide +kernel
theorem d_X12_onTrains_10 : decode (D_X12_onTrains).2.1 10 = .ok (.iaload, 1) := by decide +kernel
theorem d_X12_onTrains_11 : decode (D_X12_onTrains).2.1 11 = .ok (.if_icmp .ge 20, 3) := by decide +kernel
theorem d_X12_onTrains_14 : decode (D_X12_onTrains).2.1 14 = .ok (.iload_n 1, 1) := by decide +kernel
theorem d_X12_onTrains_15 : decode (D_X12_onTrains).2.1 15 = .ok (.aload_n 0, 1) := by decide +kernel
theorem d_X12_onTrains_16 : decode (D_X12_onTrains).2.1 16 = .ok (.bipush 10, 2) := by decide +kernel
theorem d_X12_onTrains_18 : decode (D_X12_onTrains).2.1 18 = .ok (.iload_n 2, 1) := by decide +kernel
theorem d_X12_onTrains_19 : decode (D_X12_onTrains).2.1 19 = .ok (.iadd, 1) := by decide +kernel
theorem d_X12_onTrains_20 : decode (D_X12_onTrains).2.1 20 = .ok (.invokevirtual 285, 3) := by decide +kernel
theorem d_X12_onTrains_23 : decode (D_X12_onTrains).2.1 23 = .ok (.ior, 1) := by decide +kernel
theorem d_X12_onTrains_24 : decode (D_X12_onTrains).2.1 24 = .ok (.istore_n 1, 1) := by decide +kernel
theorem d_X12_onTrains_25 : decode (D_X12_onTrains).2.1 25 = .ok (.iinc 2 1, 3) := by decide +kernel
theorem d_X12_onTrains_28 : decode (D_X12_onTrains).2.1 28 = .ok (.goto (-24), 3) := by decide +kernel
theorem d_X12_onTrains_31 : decode (D_X12_onTrains).2.1 31 = .ok (.iload_n 1, 1) := by decide +kernel
theorem d_X12_onTrains_32 : decode (D_X12_onTrains).2.1 32 = .ok (.ireturn, 1) := by decide +kernel
def f_X12_onTrains_L4 (n : Nat) : Nat → Int → Int → JMem → Option (Int × JMem)
  | 0, _, _, _ => none
  | k + 1, v1, v2, M => chk (jin 1 3160) <| if jw (M 168 (jw 1).toNat) ≤ jw v2 then (some (v1, M)) else (bnd (f_X12_beastsAt n (10 + v2) M) fun r1 M2 => letv (jor v1 r1) fun y3 => letv (v2 + 1) fun y4 => (f_X12_onTrains_L4 n k) y3 y4 M2)
set_option maxRecDepth 4000 in
theorem t_X12_onTrains_L4 {g : JG} {ad : Nat → Nat} (hs : jStr g ad) (n : Nat) : ∀ (k : Nat) (v1 v2 : Int) (M : JMem), jB g D_X12_onTrains ad 4 [some (.ref 167), some (ji v1), some (ji v2)] [] M (f_X12_onTrains_L4 n k v1 v2 M) := by
  intro k
  induction k with
  | zero => intro v1 v2 M; exact jO.none
  | succ k ih =>
    intro v1 v2 M
    rw [f_X12_onTrains_L4]
    refine jo_iload 2 d_X12_onTrains_4 rfl rfl ?_
    refine jo_aload 0 d_X12_onTrains_5 rfl rfl ?_
    refine jo_getR (k := 0) cl_12 (Nat.le_of_ble_eq_true rfl) lk_X12_7 rfl kc_167 kr_167_0 d_X12_onTrains_6 ?_
    refine jo_iconst 1 d_X12_onTrains_9 ?_
    refine jo_iald (N := 3160) kc_168 d_X12_onTrains_10 ?_
    refine jo_icmp_ge 31 d_X12_onTrains_11 (by decide) ?_ ?_
    · skip
      refine jo_iload 1 d_X12_onTrains_31 rfl rfl ?_
      exact jo_iret rfl d_X12_onTrains_32
    · skip
      refine jo_iload 1 d_X12_onTrains_14 rfl rfl ?_
      refine jo_aload 0 d_X12_onTrains_15 rfl rfl ?_
      refine jo_bipush 10 d_X12_onTrains_16 (by decide) ?_
      refine jo_iload 2 d_X12_onTrains_18 rfl rfl ?_
      refine jo_iadd d_X12_onTrains_19 ?_
      refine jo_callV (st := [ji v1]) (m_X12_beastsAt hs n (10 + v2) M) ok_X12_beastsAt (And.intro (Nat.le_of_ble_eq_true rfl) (Nat.le_of_ble_eq_true rfl)) lm_X12_285 in_X12_beastsAt se_X12_beastsAt rfl kc_167 rfl rfl (And.intro (Nat.zero_le _) (Nat.zero_le _)) rfl (Nat.le_of_ble_eq_true rfl) d_X12_onTrains_20 (fun r1 M2 => ?_)
      refine jo_ior d_X12_onTrains_23 ?_
      refine jo_istore 1 d_X12_onTrains_24 rfl (Nat.le_of_ble_eq_true rfl) (fun y3 => ?_)
      refine jo_iinc 2 d_X12_onTrains_25 rfl (Nat.le_of_ble_eq_true rfl) (fun y4 => ?_)
      refine jo_goto 4 d_X12_onTrains_28 (by decide) ?_
      exact jO.sub (ih y3 y4 M2) (And.intro rfl (And.intro rfl (And.intro rfl True.intro)))
def f_X12_onTrains (n : Nat) (M : JMem) : Option (Int × JMem) := letv 0 fun y1 => letv 0 fun y2 => f_X12_onTrains_L4 n n y1 y2 M
set_option maxRecDepth 4000 in
theorem t_X12_onTrains {g : JG} {ad : Nat → Nat} (hs : jStr g ad) (n : Nat) (M : JMem) : jB g D_X12_onTrains ad 0 [some (.ref 167), none, none] [] M (f_X12_onTrains n M) := by
  unfold f_X12_onTrains
  refine jo_iconst 0 d_X12_onTrains_0 ?_
  refine jo_istore 1 d_X12_onTrains_1 rfl (Nat.le_of_ble_eq_true rfl) (fun y1 => ?_)
  refine jo_iconst 0 d_X12_onTrains_2 ?_
  refine jo_istore 2 d_X12_onTrains_3 rfl (Nat.le_of_ble_eq_true rfl) (fun y2 => ?_)
  exact jO.sub (t_X12_onTrains_L4 hs n n y1 y2 M) (And.intro rfl (And.intro rfl (And.intro rfl True.intro)))
theorem m_X12_onTrains {g : JG} {ad : Nat → Nat} (hs : jStr g ad) (n : Nat) (M : JMem) : jMet g jNN ad jR D_X12_onTrains yX12_onTrains [.ref 167] M (f_X12_onTrains n M) :=
  jMet.of (lo0 := [some (.ref 167), none, none]) (by decide) rfl rfl (Nat.le_of_ble_eq_true rfl) (And.intro rfl True.intro) (t_X12_onTrains hs n M)
/-! CageLeaveModel.plain(I)V -/
def D_X12_plain : JD := (RX12, cX12_plain, 3, none, "plain", { frames := 0, cells := 0, slots := 0, locals := 0 })
theorem ok_X12_plain : jOk D_X12_plain yX12_plain 1 := ⟨jTW_mem (k := 1375) (by decide +kernel) rfl, jTW_mem (k := 151) (by decide +kernel) rfl, ⟨by decide +kernel, by decide +kernel⟩, by decide +kernel, rfl, rfl⟩
theorem in_X12_plain : Cond.instanceMethod yX12_plain ∈ jTW := jTW_mem (k := 1374) (by decide +kernel) rfl
theorem se_X12_plain : Cond.selects yX12_plain.cls yX12_plain yX12_plain ∈ jTW := jTW_mem (k := 48) (by decide +kernel) rfl
theorem d_X12_plain_0 : decode (D_X12_plain).2.1 0 = .ok (.iconst 0, 1) := by decide +kernel
theorem d_X12_plain_1 : decode (D_X12_plain).2.1 1 = .ok (.istore_n 2, 1) := by decide +kernel
theorem d_X12_plain_2 : decode (D_X12_plain).2.1 2 = .ok (.iload_n 2, 1) := by decide +kernel
theorem d_X12_plain_3 : decode (D_X12_plain).2.1 3 = .ok (.sipush 504, 3) := by decide +kernel
theorem d_X12_plain_6 : decode (D_X12_plain).2.1 6 = .ok (.if_icmp .ge 18, 3) := by decide +kernel
theorem d_X12_plain_9 : decode (D_X12_plain).2.1 9 = .ok (.aload_n 0, 1) := by decide +kernel
theorem d_X12_plain_10 : decode (D_X12_plain).2.1 10 = .ok (.getfield 7, 3) := by decide +kernel
theorem d_X12_plain_13 : decode (D_X12_plain).2.1 13 = .ok (.iload_n 1, 1) := by decide +kernel
theorem d_X12_plain_14 : decode (D_X12_plain).2.1 14 = .ok (.iload_n 2, 1) := by decide +kernel
theorem d_X12_plain_15 : decode (D_X12_plain).2.1 15 = .ok (.iadd, 1) := by decide +kernel
theorem d_X12_plain_16 : decode (D_X12_plain).2.1 16 = .ok (.iconst 0, 1) := by decide +kernel
theorem d_X12_plain_17 : decode (D_X12_plain).2.1 17 = .ok (.iastore, 1) := by decide +kernel
theorem d_X12_plain_18 : decode (D_X12_plain).2.1 18 = .ok (.iinc 2 1, 3) := by decide +kernel
theorem d_X12_plain_21 : decode (D_X12_plain).2.1 21 = .ok (.goto (-19), 3) := by decide +kernel
theorem d_X12_plain_24 : decode (D_X12_plain).2.1 24 = .ok (.aload_n 0, 1) := by decide +kernel
theorem d_X12_plain_25 : decode (D_X12_plain).2.1 25 = .ok (.getfield 7, 3) := by decide +kernel
theorem d_X12_plain_28 : decode (D_X12_plain).2.1 28 = .ok (.iload_n 1, 1) := by decide +kernel
theorem d_X12_plain_29 : decode (D_X12_plain).2.1 29 = .ok (.iconst 3, 1) := by decide +kernel
theorem d_X12_plain_30 : decode (D_X12_plain).2.1 30 = .ok (.iadd, 1) := by decide +kernel
theorem d_X12_plain_31 : decode (D_X12_plain).2.1 31 = .ok (.iconst 2, 1) := by decide +kernel
theorem d_X12_plain_32 : decode (D_X12_plain).2.1 32 = .ok (.iastore, 1) := by decide +kernel
theorem d_X12_plain_33 : decode (D_X12_plain).2.1 33 = .ok (.aload_n 0, 1) := by decide +kernel
theorem d_X12_plain_34 : decode (D_X12_plain).2.1 34 = .ok (.getfield 7, 3) := by decide +kernel
theorem d_X12_plain_37 : decode (D_X12_plain).2.1 37 = .ok (.iload_n 1, 1) := by decide +kernel
theorem d_X12_plain_38 : decode (D_X12_plain).2.1 38 = .ok (.bipush 7, 2) := by decide +kernel
theorem d_X12_plain_40 : decode (D_X12_plain).2.1 40 = .ok (.iadd, 1) := by decide +kernel
theorem d_X12_plain_41 : decode (D_X12_plain).2.1 41 = .ok (.iconst (-1), 1) := by decide +kernel
theorem d_X12_plain_42 : decode (D_X12_plain).2.1 42 = .ok (.iastore, 1) := by decide +kernel
theorem d_X12_plain_43 : decode (D_X12_plain).2.1 43 = .ok (.return_, 1) := by decide +kernel
def f_X12_plain_L24 (n : Nat) (v1 : Int) (M : JMem) : Option (Int × JMem) := chk (jin (v1 + 3) 3160) <| letm (jup M 168 (jw (v1 + 3)).toNat 2) fun M1 => chk (jin (v1 + 7) 3160) <| letm (jup M1 168 (jw (v1 + 7)).toNat (-1)) fun M2 => some (0, M2)
set_option maxRecDepth 4000 in
theorem t_X12_plain_L24 {g : JG} {ad : Nat → Nat} (hs : jStr g ad) (n : Nat) (v1 : Int) (M : JMem) : jB g D_X12_plain ad 24 [some (.ref 167), some (ji v1), none] [] M (f_X12_plain_L24 n v1 M) := by
  unfold f_X12_plain_L24
  refine jo_aload 0 d_X12_plain_24 rfl rfl ?_
  refine jo_getR (k := 0) cl_12 (Nat.le_of_ble_eq_true rfl) lk_X12_7 rfl kc_167 kr_167_0 d_X12_plain_25 ?_
  refine jo_iload 1 d_X12_plain_28 rfl rfl ?_
  refine jo_iconst 3 d_X12_plain_29 ?_
  refine jo_iadd d_X12_plain_30 ?_
  refine jo_iconst 2 d_X12_plain_31 ?_
  refine jo_iast (N := 3160) kc_168 d_X12_plain_32 (fun M1 => ?_)
  refine jo_aload 0 d_X12_plain_33 rfl rfl ?_
  refine jo_getR (k := 0) cl_12 (Nat.le_of_ble_eq_true rfl) lk_X12_7 rfl kc_167 kr_167_0 d_X12_plain_34 ?_
  refine jo_iload 1 d_X12_plain_37 rfl rfl ?_
  refine jo_bipush 7 d_X12_plain_38 (by decide) ?_
  refine jo_iadd d_X12_plain_40 ?_
  refine jo_iconst (-1) d_X12_plain_41 ?_
  refine jo_iast (N := 3160) kc_168 d_X12_plain_42 (fun M2 => ?_)
  exact jo_vret rfl d_X12_plain_43
def f_X12_plain_L2 (n : Nat) : Nat → Int → Int → JMem → Option (Int × JMem)
  | 0, _, _, _ => none
  | k + 1, v1, v2, M => if jw 504 ≤ jw v2 then (f_X12_plain_L24 n v1 M) else (chk (jin (v1 + v2) 3160) <| letm (jup M 168 (jw (v1 + v2)).toNat 0) fun M1 => letv (v2 + 1) fun y2 => (f_X12_plain_L2 n k) v1 y2 M1)
set_option maxRecDepth 4000 in
theorem t_X12_plain_L2 {g : JG} {ad : Nat → Nat} (hs : jStr g ad) (n : Nat) : ∀ (k : Nat) (v1 v2 : Int) (M : JMem), jB g D_X12_plain ad 2 [some (.ref 167), some (ji v1), some (ji v2)] [] M (f_X12_plain_L2 n k v1 v2 M) := by
  intro k
  induction k with
  | zero => intro v1 v2 M; exact jO.none
  | succ k ih =>
    intro v1 v2 M
    rw [f_X12_plain_L2]
    refine jo_iload 2 d_X12_plain_2 rfl rfl ?_
    refine jo_sipush 504 d_X12_plain_3 (by decide) ?_
    refine jo_icmp_ge 24 d_X12_plain_6 (by decide) ?_ ?_
    · skip
      exact jO.sub (t_X12_plain_L24 hs n v1 M) (And.intro rfl (And.intro rfl True.intro))
    · skip
      refine jo_aload 0 d_X12_plain_9 rfl rfl ?_
      refine jo_getR (k := 0) cl_12 (Nat.le_of_ble_eq_true rfl) lk_X12_7 rfl kc_167 kr_167_0 d_X12_plain_10 ?_
      refine jo_iload 1 d_X12_plain_13 rfl rfl ?_
      refine jo_iload 2 d_X12_plain_14 rfl rfl ?_
      refine jo_iadd d_X12_plain_15 ?_
      refine jo_iconst 0 d_X12_plain_16 ?_
      refine jo_iast (N := 3160) kc_168 d_X12_plain_17 (fun M1 => ?_)
      refine jo_iinc 2 d_X12_plain_18 rfl (Nat.le_of_ble_eq_true rfl) (fun y2 => ?_)
      refine jo_goto 2 d_X12_plain_21 (by decide) ?_
      exact jO.sub (ih v1 y2 M1) (And.intro rfl (And.intro rfl (And.intro rfl True.intro)))
def f_X12_plain (n : Nat) (x1 : Int) (M : JMem) : Option (Int × JMem) := letv 0 fun y1 => f_X12_plain_L2 n n x1 y1 M
set_option maxRecDepth 4000 in
theorem t_X12_plain {g : JG} {ad : Nat → Nat} (hs : jStr g ad) (n : Nat) (x1 : Int) (M : JMem) : jB g D_X12_plain ad 0 [some (.ref 167), some (ji x1), none] [] M (f_X12_plain n x1 M) := by
  unfold f_X12_plain
  refine jo_iconst 0 d_X12_plain_0 ?_
  refine jo_istore 2 d_X12_plain_1 rfl (Nat.le_of_ble_eq_true rfl) (fun y1 => ?_)
  exact jO.sub (t_X12_plain_L2 hs n n x1 y1 M) (And.intro rfl (And.intro rfl (And.intro rfl True.intro)))
theorem m_X12_plain {g : JG} {ad : Nat → Nat} (hs : jStr g ad) (n : Nat) (x1 : Int) (M : JMem) : jMet g jNN ad jR D_X12_plain yX12_plain [.ref 167, ji x1] M (f_X12_plain n x1 M) :=
  jMet.of (lo0 := [some (.ref 167), some (ji x1), none]) (by decide) rfl rfl (Nat.le_of_ble_eq_true rfl) (And.intro rfl (And.intro rfl True.intro)) (t_X12_plain hs n x1 M)
/-! CageLeaveModel.wantSign(I)Z -/
def D_X12_wantSign : JD := (RX12, cX12_wantSign, 2, some .boolean, "wantSign", { frames := 2, cells := 0, slots := 0, locals := 61 })
theorem ok_X12_wantSign : jOk D_X12_wantSign yX12_wantSign 1 := ⟨jTW_mem (k := 1651) (by decide +kernel) rfl, jTW_mem (k := 151) (by decide +kernel) rfl, ⟨by decide +kernel, by decide +kernel⟩, by decide +kernel, rfl, rfl⟩
theorem in_X12_wantSign : Cond.instanceMethod yX12_wantSign ∈ jTW := jTW_mem (k := 1650) (by decide +kernel) rfl
theorem se_X12_wantSign : Cond.selects yX12_wantSign.cls yX12_wantSign yX12_wantSign ∈ jTW := jTW_mem (k := 73) (by decide +kernel) rfl
theorem lm_X12_166 : Cond.methodLink RX12 166 yX12_isSign ∈ jTW := jTW_mem (k := 1652) (by decide +kernel) rfl
theorem d_X12_wantSign_0 : decode (D_X12_wantSign).2.1 0 = .ok (.aload_n 0, 1) := by decide +kernel
theorem d_X12_wantSign_1 : decode (D_X12_wantSign).2.1 1 = .ok (.iload_n 1, 1) := by decide +kernel
theorem d_X12_wantSign_2 : decode (D_X12_wantSign).2.1 2 = .ok (.invokevirtual 166, 3) := by decide +kernel
theorem d_X12_wantSign_5 : decode (D_X12_wantSign).2.1 5 = .ok (.ifCond .ne 9, 3) := by decide +kernel
theorem d_X12_wantSign_8 : decode (D_X12_wantSign).2.1 8 = .ok (.aload_n 0, 1) := by decide +kernel
theorem d_X12_wantSign_9 : decode (D_X12_wantSign).2.1 9 = .ok (.iconst 2, 1) := by decide +kernel
theorem d_X12_wantSign_10 : decode (D_X12_wantSign).2.1 10 = .ok (.invokevirtual 169, 3) := by decide +kernel
theorem d_X12_wantSign_13 : decode (D_X12_wantSign).2.1 13 = .ok (.ireturn, 1) := by decide +kernel
theorem d_X12_wantSign_14 : decode (D_X12_wantSign).2.1 14 = .ok (.aload_n 0, 1) := by decide +kernel
theorem d_X12_wantSign_15 : decode (D_X12_wantSign).2.1 15 = .ok (.invokevirtual 163, 3) := by decide +kernel
theorem d_X12_wantSign_18 : decode (D_X12_wantSign).2.1 18 = .ok (.iconst 1, 1) := by decide +kernel
theorem d_X12_wantSign_19 : decode (D_X12_wantSign).2.1 19 = .ok (.ireturn, 1) := by decide +kernel
def f_X12_wantSign (n : Nat) (x1 : Int) (M : JMem) : Option (Int × JMem) := bnd (f_X12_isSign n x1 M) fun r1 M2 => if jw r1 = 0 then (bnd (f_X12_fails n 2 M2) fun r5 M6 => chk (jw r5 = 0 ∨ jw r5 = 1) (some (r5, M6))) else (bnd (f_X12_ahead n M2) fun _ M4 => some (1, M4))
set_option maxRecDepth 4000 in
theorem t_X12_wantSign {g : JG} {ad : Nat → Nat} (hs : jStr g ad) (n : Nat) (x1 : Int) (M : JMem) : jB g D_X12_wantSign ad 0 [some (.ref 167), some (ji x1)] [] M (f_X12_wantSign n x1 M) := by
  unfold f_X12_wantSign
  refine jo_aload 0 d_X12_wantSign_0 rfl rfl ?_
  refine jo_iload 1 d_X12_wantSign_1 rfl rfl ?_
  refine jo_callV (st := []) (m_X12_isSign hs n x1 M) ok_X12_isSign (And.intro (Nat.le_of_ble_eq_true rfl) (Nat.le_of_ble_eq_true rfl)) lm_X12_166 in_X12_isSign se_X12_isSign rfl kc_167 rfl rfl (And.intro (Nat.zero_le _) (Nat.zero_le _)) rfl (Nat.le_of_ble_eq_true rfl) d_X12_wantSign_2 (fun r1 M2 => ?_)
  refine jo_if_ne 14 d_X12_wantSign_5 (by decide) ?_ ?_
  · skip
    refine jo_aload 0 d_X12_wantSign_14 rfl rfl ?_
    refine jo_callV (st := []) (m_X12_ahead hs n M2) ok_X12_ahead (And.intro (Nat.le_of_ble_eq_true rfl) (Nat.le_of_ble_eq_true rfl)) lm_X12_163 in_X12_ahead se_X12_ahead rfl kc_167 rfl rfl (And.intro (Nat.zero_le _) (Nat.zero_le _)) rfl (Nat.le_of_ble_eq_true rfl) d_X12_wantSign_15 (fun _ M4 => ?_)
    refine jo_iconst 1 d_X12_wantSign_18 ?_
    exact jo_zret rfl (by decide) d_X12_wantSign_19
  · skip
    refine jo_aload 0 d_X12_wantSign_8 rfl rfl ?_
    refine jo_iconst 2 d_X12_wantSign_9 ?_
    refine jo_callV (st := []) (m_X12_fails hs n 2 M2) ok_X12_fails (And.intro (Nat.le_of_ble_eq_true rfl) (Nat.le_of_ble_eq_true rfl)) lm_X12_169 in_X12_fails se_X12_fails rfl kc_167 rfl rfl (And.intro (Nat.zero_le _) (Nat.zero_le _)) rfl (Nat.le_of_ble_eq_true rfl) d_X12_wantSign_10 (fun r5 M6 => ?_)
    exact jo_zretq rfl d_X12_wantSign_13
theorem m_X12_wantSign {g : JG} {ad : Nat → Nat} (hs : jStr g ad) (n : Nat) (x1 : Int) (M : JMem) : jMet g jNN ad jR D_X12_wantSign yX12_wantSign [.ref 167, ji x1] M (f_X12_wantSign n x1 M) :=
  jMet.of (lo0 := [some (.ref 167), some (ji x1)]) (by decide) rfl rfl (Nat.le_of_ble_eq_true rfl) (And.intro rfl (And.intro rfl True.intro)) (t_X12_wantSign hs n x1 M)
/-! CageLeaveModel.parkPart()Z -/
def D_X12_parkPart : JD := (RX12, cX12_parkPart, 2, some .boolean, "parkPart", { frames := 11, cells := 0, slots := 0, locals := 264 })
theorem ok_X12_parkPart : jOk D_X12_parkPart yX12_parkPart 0 := ⟨jTW_mem (k := 1580) (by decide +kernel) rfl, jTW_mem (k := 151) (by decide +kernel) rfl, ⟨by decide +kernel, by decide +kernel⟩, by decide +kernel, rfl, rfl⟩
theorem in_X12_parkPart : Cond.instanceMethod yX12_parkPart ∈ jTW := jTW_mem (k := 1579) (by decide +kernel) rfl
theorem se_X12_parkPart : Cond.selects yX12_parkPart.cls yX12_parkPart yX12_parkPart ∈ jTW := jTW_mem (k := 56) (by decide +kernel) rfl
theorem lm_X12_229 : Cond.methodLink RX12 229 yX12_wantSign ∈ jTW := jTW_mem (k := 1648) (by decide +kernel) rfl
theorem lk_X12_212 : Cond.fieldLink RX12 212 (TX12 20).1 (TX12 20).2.1 (TX12 20).2.2.1 ∈ jTW := jTW_mem (k := 1396) (by decide +kernel) rfl
theorem lm_X12_216 : Cond.methodLink RX12 216 yX12_aTrain ∈ jTW := jTW_mem (k := 1612) (by decide +kernel) rfl
theorem lm_X12_220 : Cond.methodLink RX12 220 yX12_aBeast ∈ jTW := jTW_mem (k := 1632) (by decide +kernel) rfl
theorem lm_X12_223 : Cond.methodLink RX12 223 yX12_aHunt ∈ jTW := jTW_mem (k := 1636) (by decide +kernel) rfl
theorem lm_X12_226 : Cond.methodLink RX12 226 yX12_aTicket ∈ jTW := jTW_mem (k := 1644) (by decide +kernel) rfl
theorem d_X12_parkPart_0 : decode (D_X12_parkPart).2.1 0 = .ok (.aload_n 0, 1) := by decide +kernel
theorem d_X12_parkPart_1 : decode (D_X12_parkPart).2.1 1 = .ok (.ldc 180, 2) := by decide +kernel
theorem d_X12_parkPart_3 : decode (D_X12_parkPart).2.1 3 = .ok (.invokevirtual 172, 3) := by decide +kernel
theorem d_X12_parkPart_6 : decode (D_X12_parkPart).2.1 6 = .ok (.tableswitch 138 0 5 #[38, 74, 106, 114, 122, 130], 38) := by decide +kernel
theorem d_X12_parkPart_44 : decode (D_X12_parkPart).2.1 44 = .ok (.aload_n 0, 1) := by decide +kernel
theorem d_X12_parkPart_45 : decode (D_X12_parkPart).2.1 45 = .ok (.getfield 212, 3) := by decide +kernel
theorem d_X12_parkPart_48 : decode (D_X12_parkPart).2.1 48 = .ok (.ifCond .eq 9, 3) := by decide +kernel
theorem d_X12_parkPart_51 : decode (D_X12_parkPart).2.1 51 = .ok (.aload_n 0, 1) := by decide +kernel
theorem d_X12_parkPart_52 : decode (D_X12_parkPart).2.1 52 = .ok (.iconst 5, 1) := by decide +kernel
theorem d_X12_parkPart_53 : decode (D_X12_parkPart).2.1 53 = .ok (.invokevirtual 169, 3) := by decide +kernel
theorem d_X12_parkPart_56 : decode (D_X12_parkPart).2.1 56 = .ok (.ireturn, 1) := by decide +kernel
theorem d_X12_parkPart_57 : decode (D_X12_parkPart).2.1 57 = .ok (.aload_n 0, 1) := by decide +kernel
theorem d_X12_parkPart_58 : decode (D_X12_parkPart).2.1 58 = .ok (.iconst 1, 1) := by decide +kernel
theorem d_X12_parkPart_59 : decode (D_X12_parkPart).2.1 59 = .ok (.putfield 212, 3) := by decide +kernel
theorem d_X12_parkPart_62 : decode (D_X12_parkPart).2.1 62 = .ok (.aload_n 0, 1) := by decide +kernel
theorem d_X12_parkPart_63 : decode (D_X12_parkPart).2.1 63 = .ok (.invokevirtual 163, 3) := by decide +kernel
theorem d_X12_parkPart_66 : decode (D_X12_parkPart).2.1 66 = .ok (.aload_n 0, 1) := by decide +kernel
theorem d_X12_parkPart_67 : decode (D_X12_parkPart).2.1 67 = .ok (.sipush 2019, 3) := by decide +kernel
theorem d_X12_parkPart_70 : decode (D_X12_parkPart).2.1 70 = .ok (.iconst 0, 1) := by decide +kernel
theorem d_X12_parkPart_71 : decode (D_X12_parkPart).2.1 71 = .ok (.bipush 16, 2) := by decide +kernel
theorem d_X12_parkPart_73 : decode (D_X12_parkPart).2.1 73 = .ok (.invokevirtual 203, 3) := by decide +kernel
theorem d_X12_parkPart_76 : decode (D_X12_parkPart).2.1 76 = .ok (.istore_n 1, 1) := by decide +kernel
theorem d_X12_parkPart_77 : decode (D_X12_parkPart).2.1 77 = .ok (.goto 73, 3) := by decide +kernel
theorem d_X12_parkPart_80 : decode (D_X12_parkPart).2.1 80 = .ok (.aload_n 0, 1) := by decide +kernel
theorem d_X12_parkPart_81 : decode (D_X12_parkPart).2.1 81 = .ok (.iconst 0, 1) := by decide +kernel
theorem d_X12_parkPart_82 : decode (D_X12_parkPart).2.1 82 = .ok (.bipush 6, 2) := by decide +kernel
theorem d_X12_parkPart_84 : decode (D_X12_parkPart).2.1 84 = .ok (.iconst 0, 1) := by decide +kernel
theorem d_X12_parkPart_85 : decode (D_X12_parkPart).2.1 85 = .ok (.invokevirtual 193, 3) := by decide +kernel
theorem d_X12_parkPart_88 : decode (D_X12_parkPart).2.1 88 = .ok (.istore_n 1, 1) := by decide +kernel
theorem d_X12_parkPart_89 : decode (D_X12_parkPart).2.1 89 = .ok (.aload_n 0, 1) := by decide +kernel
theorem d_X12_parkPart_90 : decode (D_X12_parkPart).2.1 90 = .ok (.getfield 7, 3) := by decide +kernel
theorem d_X12_parkPart_93 : decode (D_X12_parkPart).2.1 93 = .ok (.sipush 2016, 3) := by decide +kernel
theorem d_X12_parkPart_96 : decode (D_X12_parkPart).2.1 96 = .ok (.dup2, 1) := by decide +kernel
theorem d_X12_parkPart_97 : decode (D_X12_parkPart).2.1 97 = .ok (.iaload, 1) := by decide +kernel
theorem d_X12_parkPart_98 : decode (D_X12_parkPart).2.1 98 = .ok (.iload_n 1, 1) := by decide +kernel
theorem d_X12_parkPart_99 : decode (D_X12_parkPart).2.1 99 = .ok (.ifCond .eq 7, 3) := by decide +kernel
theorem d_X12_parkPart_102 : decode (D_X12_parkPart).2.1 102 = .ok (.iconst 1, 1) := by decide +kernel
theorem d_X12_parkPart_103 : decode (D_X12_parkPart).2.1 103 = .ok (.goto 4, 3) := by decide +kernel
theorem d_X12_parkPart_106 : decode (D_X12_parkPart).2.1 106 = .ok (.iconst 0, 1) := by decide +kernel
theorem d_X12_parkPart_107 : decode (D_X12_parkPart).2.1 107 = .ok (.iadd, 1) := by decide +kernel
theorem d_X12_parkPart_108 : decode (D_X12_parkPart).2.1 108 = .ok (.iastore, 1) := by decide +kernel
theorem d_X12_parkPart_109 : decode (D_X12_parkPart).2.1 109 = .ok (.goto 41, 3) := by decide +kernel
theorem d_X12_parkPart_112 : decode (D_X12_parkPart).2.1 112 = .ok (.aload_n 0, 1) := by decide +kernel
theorem d_X12_parkPart_113 : decode (D_X12_parkPart).2.1 113 = .ok (.invokevirtual 216, 3) := by decide +kernel
theorem d_X12_parkPart_116 : decode (D_X12_parkPart).2.1 116 = .ok (.istore_n 1, 1) := by decide +kernel
theorem d_X12_parkPart_117 : decode (D_X12_parkPart).2.1 117 = .ok (.goto 33, 3) := by decide +kernel
theorem d_X12_parkPart_120 : decode (D_X12_parkPart).2.1 120 = .ok (.aload_n 0, 1) := by decide +kernel
theorem d_X12_parkPart_121 : decode (D_X12_parkPart).2.1 121 = .ok (.invokevirtual 220, 3) := by decide +kernel
theorem d_X12_parkPart_124 : decode (D_X12_parkPart).2.1 124 = .ok (.istore_n 1, 1) := by decide +kernel
theorem d_X12_parkPart_125 : decode (D_X12_parkPart).2.1 125 = .ok (.goto 25, 3) := by decide +kernel
theorem d_X12_parkPart_128 : decode (D_X12_parkPart).2.1 128 = .ok (.aload_n 0, 1) := by decide +kernel
theorem d_X12_parkPart_129 : decode (D_X12_parkPart).2.1 129 = .ok (.invokevirtual 223, 3) := by decide +kernel
theorem d_X12_parkPart_132 : decode (D_X12_parkPart).2.1 132 = .ok (.istore_n 1, 1) := by decide +kernel
theorem d_X12_parkPart_133 : decode (D_X12_parkPart).2.1 133 = .ok (.goto 17, 3) := by decide +kernel
theorem d_X12_parkPart_136 : decode (D_X12_parkPart).2.1 136 = .ok (.aload_n 0, 1) := by decide +kernel
theorem d_X12_parkPart_137 : decode (D_X12_parkPart).2.1 137 = .ok (.invokevirtual 226, 3) := by decide +kernel
theorem d_X12_parkPart_140 : decode (D_X12_parkPart).2.1 140 = .ok (.istore_n 1, 1) := by decide +kernel
theorem d_X12_parkPart_141 : decode (D_X12_parkPart).2.1 141 = .ok (.goto 9, 3) := by decide +kernel
theorem d_X12_parkPart_144 : decode (D_X12_parkPart).2.1 144 = .ok (.aload_n 0, 1) := by decide +kernel
theorem d_X12_parkPart_145 : decode (D_X12_parkPart).2.1 145 = .ok (.iconst 2, 1) := by decide +kernel
theorem d_X12_parkPart_146 : decode (D_X12_parkPart).2.1 146 = .ok (.invokevirtual 169, 3) := by decide +kernel
theorem d_X12_parkPart_149 : decode (D_X12_parkPart).2.1 149 = .ok (.ireturn, 1) := by decide +kernel
theorem d_X12_parkPart_150 : decode (D_X12_parkPart).2.1 150 = .ok (.iload_n 1, 1) := by decide +kernel
theorem d_X12_parkPart_151 : decode (D_X12_parkPart).2.1 151 = .ok (.ifCond .eq 16, 3) := by decide +kernel
theorem d_X12_parkPart_154 : decode (D_X12_parkPart).2.1 154 = .ok (.aload_n 0, 1) := by decide +kernel
theorem d_X12_parkPart_155 : decode (D_X12_parkPart).2.1 155 = .ok (.bipush 59, 2) := by decide +kernel
theorem d_X12_parkPart_157 : decode (D_X12_parkPart).2.1 157 = .ok (.invokevirtual 229, 3) := by decide +kernel
theorem d_X12_parkPart_160 : decode (D_X12_parkPart).2.1 160 = .ok (.ifCond .eq 7, 3) := by decide +kernel
theorem d_X12_parkPart_163 : decode (D_X12_parkPart).2.1 163 = .ok (.iconst 1, 1) := by decide +kernel
theorem d_X12_parkPart_164 : decode (D_X12_parkPart).2.1 164 = .ok (.goto 4, 3) := by decide +kernel
theorem d_X12_parkPart_167 : decode (D_X12_parkPart).2.1 167 = .ok (.iconst 0, 1) := by decide +kernel
theorem d_X12_parkPart_168 : decode (D_X12_parkPart).2.1 168 = .ok (.ireturn, 1) := by decide +kernel
def f_X12_parkPart_L150 (n : Nat) (v1 : Int) (M : JMem) : Option (Int × JMem) := if jw v1 = 0 then (some (0, M)) else (bnd (f_X12_wantSign n 59 M) fun r1 M2 => if jw r1 = 0 then (some (0, M2)) else (some (1, M2)))
set_option maxRecDepth 4000 in
theorem t_X12_parkPart_L150 {g : JG} {ad : Nat → Nat} (hs : jStr g ad) (n : Nat) (v1 : Int) (M : JMem) : jB g D_X12_parkPart ad 150 [some (.ref 167), some (ji v1)] [] M (f_X12_parkPart_L150 n v1 M) := by
  unfold f_X12_parkPart_L150
  refine jo_iload 1 d_X12_parkPart_150 rfl rfl ?_
  refine jo_if_eq 167 d_X12_parkPart_151 (by decide) ?_ ?_
  · skip
    refine jo_iconst 0 d_X12_parkPart_167 ?_
    exact jo_zret rfl (by decide) d_X12_parkPart_168
  · skip
    refine jo_aload 0 d_X12_parkPart_154 rfl rfl ?_
    refine jo_bipush 59 d_X12_parkPart_155 (by decide) ?_
    refine jo_callV (st := []) (m_X12_wantSign hs n 59 M) ok_X12_wantSign (And.intro (Nat.le_of_ble_eq_true rfl) (Nat.le_of_ble_eq_true rfl)) lm_X12_229 in_X12_wantSign se_X12_wantSign rfl kc_167 rfl rfl (And.intro (Nat.zero_le _) (Nat.zero_le _)) rfl (Nat.le_of_ble_eq_true rfl) d_X12_parkPart_157 (fun r1 M2 => ?_)
    refine jo_if_eq 167 d_X12_parkPart_160 (by decide) ?_ ?_
    · skip
      refine jo_iconst 0 d_X12_parkPart_167 ?_
      exact jo_zret rfl (by decide) d_X12_parkPart_168
    · skip
      refine jo_iconst 1 d_X12_parkPart_163 ?_
      refine jo_goto 168 d_X12_parkPart_164 (by decide) ?_
      exact jo_zret rfl (by decide) d_X12_parkPart_168
def f_X12_parkPart_L107 (n : Nat) (v1 w1 w2 w3 : Int) (M : JMem) : Option (Int × JMem) := chk (jin w1 3160) <| letm (jup M 168 (jw w1).toNat (w2 + w3)) fun M1 => f_X12_parkPart_L150 n v1 M1
set_option maxRecDepth 4000 in
theorem t_X12_parkPart_L107 {g : JG} {ad : Nat → Nat} (hs : jStr g ad) (n : Nat) (v1 w1 w2 w3 : Int) (M : JMem) : jB g D_X12_parkPart ad 107 [some (.ref 167), some (ji v1)] [ji w3, ji w2, ji w1, .ref 168] M (f_X12_parkPart_L107 n v1 w1 w2 w3 M) := by
  unfold f_X12_parkPart_L107
  refine jo_iadd d_X12_parkPart_107 ?_
  refine jo_iast (N := 3160) kc_168 d_X12_parkPart_108 (fun M1 => ?_)
  refine jo_goto 150 d_X12_parkPart_109 (by decide) ?_
  exact jO.sub (t_X12_parkPart_L150 hs n v1 M1) (And.intro rfl (And.intro rfl True.intro))
def f_X12_parkPart (n : Nat) (M : JMem) : Option (Int × JMem) := bnd (f_X12_inWords n M) fun r1 M2 => if jw r1 = 0 then (if jw (M2 167 20) = 0 then (chk (jw 1 = 0 ∨ jw 1 = 1) <| letm (jup M2 167 20 1) fun M4 => bnd (f_X12_ahead n M4) fun _ M6 => bnd (f_X12_number n 2019 0 16 M6) fun r7 M8 => letv r7 fun y9 => f_X12_parkPart_L150 n y9 M8) else (bnd (f_X12_fails n 5 M2) fun r10 M11 => chk (jw r10 = 0 ∨ jw r10 = 1) (some (r10, M11)))) else (if jw r1 = 1 then (bnd (f_X12_newOne n 0 6 0 M2) fun r12 M13 => letv r12 fun y14 => chk (jin 2016 3160) <| if jw y14 = 0 then (f_X12_parkPart_L107 n y14 2016 (M13 168 (jw 2016).toNat) 0 M13) else (f_X12_parkPart_L107 n y14 2016 (M13 168 (jw 2016).toNat) 1 M13)) else (if jw r1 = 2 then (bnd (f_X12_aTrain n M2) fun r15 M16 => letv r15 fun y17 => f_X12_parkPart_L150 n y17 M16) else (if jw r1 = 3 then (bnd (f_X12_aBeast n M2) fun r18 M19 => letv r18 fun y20 => f_X12_parkPart_L150 n y20 M19) else (if jw r1 = 4 then (bnd (f_X12_aHunt n M2) fun r21 M22 => letv r21 fun y23 => f_X12_parkPart_L150 n y23 M22) else (if jw r1 = 5 then (bnd (f_X12_aTicket n M2) fun r24 M25 => letv r24 fun y26 => f_X12_parkPart_L150 n y26 M25) else (bnd (f_X12_fails n 2 M2) fun r27 M28 => chk (jw r27 = 0 ∨ jw r27 = 1) (some (r27, M28))))))))
set_option maxRecDepth 4000 in
theorem t_X12_parkPart {g : JG} {ad : Nat → Nat} (hs : jStr g ad) (n : Nat) (M : JMem) : jB g D_X12_parkPart ad 0 [some (.ref 167), none] [] M (f_X12_parkPart n M) := by
  unfold f_X12_parkPart
  refine jo_aload 0 d_X12_parkPart_0 rfl rfl ?_
  refine jo_ldcS hs d_X12_parkPart_1 ?_
  refine jo_callV (st := []) (m_X12_inWords hs n M) ok_X12_inWords (And.intro (Nat.le_of_ble_eq_true rfl) (Nat.le_of_ble_eq_true rfl)) lm_X12_172 in_X12_inWords se_X12_inWords rfl kc_167 rfl rfl (And.intro (Nat.zero_le _) (Nat.zero_le _)) rfl (Nat.le_of_ble_eq_true rfl) d_X12_parkPart_3 (fun r1 M2 => ?_)
  refine jo_if (fun c3_0 => ?_) (fun c3_0 => ?_)
  · skip
    refine jo_tabIn 44 d_X12_parkPart_6 0 c3_0 (by decide) (by decide) rfl (by decide) ?_
    refine jo_aload 0 d_X12_parkPart_44 rfl rfl ?_
    refine jo_getI (k := 20) cl_12 (Nat.le_of_ble_eq_true rfl) lk_X12_212 (Or.inr rfl) kc_167 d_X12_parkPart_45 ?_
    refine jo_if_eq 57 d_X12_parkPart_48 (by decide) ?_ ?_
    · skip
      refine jo_aload 0 d_X12_parkPart_57 rfl rfl ?_
      refine jo_iconst 1 d_X12_parkPart_58 ?_
      refine jo_putZ (k := 20) cl_12 (Nat.le_of_ble_eq_true rfl) lk_X12_212 rfl rfl kc_167 d_X12_parkPart_59 (fun M4 => ?_)
      refine jo_aload 0 d_X12_parkPart_62 rfl rfl ?_
      refine jo_callV (st := []) (m_X12_ahead hs n M4) ok_X12_ahead (And.intro (Nat.le_of_ble_eq_true rfl) (Nat.le_of_ble_eq_true rfl)) lm_X12_163 in_X12_ahead se_X12_ahead rfl kc_167 rfl rfl (And.intro (Nat.zero_le _) (Nat.zero_le _)) rfl (Nat.le_of_ble_eq_true rfl) d_X12_parkPart_63 (fun _ M6 => ?_)
      refine jo_aload 0 d_X12_parkPart_66 rfl rfl ?_
      refine jo_sipush 2019 d_X12_parkPart_67 (by decide) ?_
      refine jo_iconst 0 d_X12_parkPart_70 ?_
      refine jo_bipush 16 d_X12_parkPart_71 (by decide) ?_
      refine jo_callV (st := []) (m_X12_number hs n 2019 0 16 M6) ok_X12_number (And.intro (Nat.le_of_ble_eq_true rfl) (Nat.le_of_ble_eq_true rfl)) lm_X12_203 in_X12_number se_X12_number rfl kc_167 rfl rfl (And.intro (Nat.zero_le _) (Nat.zero_le _)) rfl (Nat.le_of_ble_eq_true rfl) d_X12_parkPart_73 (fun r7 M8 => ?_)
      refine jo_istore 1 d_X12_parkPart_76 rfl (Nat.le_of_ble_eq_true rfl) (fun y9 => ?_)
      refine jo_goto 150 d_X12_parkPart_77 (by decide) ?_
      exact jO.sub (t_X12_parkPart_L150 hs n y9 M8) (And.intro rfl (And.intro rfl True.intro))
    · skip
      refine jo_aload 0 d_X12_parkPart_51 rfl rfl ?_
      refine jo_iconst 5 d_X12_parkPart_52 ?_
      refine jo_callV (st := []) (m_X12_fails hs n 5 M2) ok_X12_fails (And.intro (Nat.le_of_ble_eq_true rfl) (Nat.le_of_ble_eq_true rfl)) lm_X12_169 in_X12_fails se_X12_fails rfl kc_167 rfl rfl (And.intro (Nat.zero_le _) (Nat.zero_le _)) rfl (Nat.le_of_ble_eq_true rfl) d_X12_parkPart_53 (fun r10 M11 => ?_)
      exact jo_zretq rfl d_X12_parkPart_56
  refine jo_if (fun c3_1 => ?_) (fun c3_1 => ?_)
  · skip
    refine jo_tabIn 80 d_X12_parkPart_6 1 c3_1 (by decide) (by decide) rfl (by decide) ?_
    refine jo_aload 0 d_X12_parkPart_80 rfl rfl ?_
    refine jo_iconst 0 d_X12_parkPart_81 ?_
    refine jo_bipush 6 d_X12_parkPart_82 (by decide) ?_
    refine jo_iconst 0 d_X12_parkPart_84 ?_
    refine jo_callV (st := []) (m_X12_newOne hs n 0 6 0 M2) ok_X12_newOne (And.intro (Nat.le_of_ble_eq_true rfl) (Nat.le_of_ble_eq_true rfl)) lm_X12_193 in_X12_newOne se_X12_newOne rfl kc_167 rfl rfl (And.intro (Nat.zero_le _) (Nat.zero_le _)) rfl (Nat.le_of_ble_eq_true rfl) d_X12_parkPart_85 (fun r12 M13 => ?_)
    refine jo_istore 1 d_X12_parkPart_88 rfl (Nat.le_of_ble_eq_true rfl) (fun y14 => ?_)
    refine jo_aload 0 d_X12_parkPart_89 rfl rfl ?_
    refine jo_getR (k := 0) cl_12 (Nat.le_of_ble_eq_true rfl) lk_X12_7 rfl kc_167 kr_167_0 d_X12_parkPart_90 ?_
    refine jo_sipush 2016 d_X12_parkPart_93 (by decide) ?_
    refine jo_dup2 d_X12_parkPart_96 rfl rfl ?_
    refine jo_iald (N := 3160) kc_168 d_X12_parkPart_97 ?_
    refine jo_iload 1 d_X12_parkPart_98 rfl rfl ?_
    refine jo_if_eq 106 d_X12_parkPart_99 (by decide) ?_ ?_
    · skip
      refine jo_iconst 0 d_X12_parkPart_106 ?_
      exact jO.sub (t_X12_parkPart_L107 hs n y14 2016 (M13 168 (jw 2016).toNat) 0 M13) (And.intro rfl (And.intro rfl True.intro))
    · skip
      refine jo_iconst 1 d_X12_parkPart_102 ?_
      refine jo_goto 107 d_X12_parkPart_103 (by decide) ?_
      exact jO.sub (t_X12_parkPart_L107 hs n y14 2016 (M13 168 (jw 2016).toNat) 1 M13) (And.intro rfl (And.intro rfl True.intro))
  refine jo_if (fun c3_2 => ?_) (fun c3_2 => ?_)
  · skip
    refine jo_tabIn 112 d_X12_parkPart_6 2 c3_2 (by decide) (by decide) rfl (by decide) ?_
    refine jo_aload 0 d_X12_parkPart_112 rfl rfl ?_
    refine jo_callV (st := []) (m_X12_aTrain hs n M2) ok_X12_aTrain (And.intro (Nat.le_of_ble_eq_true rfl) (Nat.le_of_ble_eq_true rfl)) lm_X12_216 in_X12_aTrain se_X12_aTrain rfl kc_167 rfl rfl (And.intro (Nat.zero_le _) (Nat.zero_le _)) rfl (Nat.le_of_ble_eq_true rfl) d_X12_parkPart_113 (fun r15 M16 => ?_)
    refine jo_istore 1 d_X12_parkPart_116 rfl (Nat.le_of_ble_eq_true rfl) (fun y17 => ?_)
    refine jo_goto 150 d_X12_parkPart_117 (by decide) ?_
    exact jO.sub (t_X12_parkPart_L150 hs n y17 M16) (And.intro rfl (And.intro rfl True.intro))
  refine jo_if (fun c3_3 => ?_) (fun c3_3 => ?_)
  · skip
    refine jo_tabIn 120 d_X12_parkPart_6 3 c3_3 (by decide) (by decide) rfl (by decide) ?_
    refine jo_aload 0 d_X12_parkPart_120 rfl rfl ?_
    refine jo_callV (st := []) (m_X12_aBeast hs n M2) ok_X12_aBeast (And.intro (Nat.le_of_ble_eq_true rfl) (Nat.le_of_ble_eq_true rfl)) lm_X12_220 in_X12_aBeast se_X12_aBeast rfl kc_167 rfl rfl (And.intro (Nat.zero_le _) (Nat.zero_le _)) rfl (Nat.le_of_ble_eq_true rfl) d_X12_parkPart_121 (fun r18 M19 => ?_)
    refine jo_istore 1 d_X12_parkPart_124 rfl (Nat.le_of_ble_eq_true rfl) (fun y20 => ?_)
    refine jo_goto 150 d_X12_parkPart_125 (by decide) ?_
    exact jO.sub (t_X12_parkPart_L150 hs n y20 M19) (And.intro rfl (And.intro rfl True.intro))
  refine jo_if (fun c3_4 => ?_) (fun c3_4 => ?_)
  · skip
    refine jo_tabIn 128 d_X12_parkPart_6 4 c3_4 (by decide) (by decide) rfl (by decide) ?_
    refine jo_aload 0 d_X12_parkPart_128 rfl rfl ?_
    refine jo_callV (st := []) (m_X12_aHunt hs n M2) ok_X12_aHunt (And.intro (Nat.le_of_ble_eq_true rfl) (Nat.le_of_ble_eq_true rfl)) lm_X12_223 in_X12_aHunt se_X12_aHunt rfl kc_167 rfl rfl (And.intro (Nat.zero_le _) (Nat.zero_le _)) rfl (Nat.le_of_ble_eq_true rfl) d_X12_parkPart_129 (fun r21 M22 => ?_)
    refine jo_istore 1 d_X12_parkPart_132 rfl (Nat.le_of_ble_eq_true rfl) (fun y23 => ?_)
    refine jo_goto 150 d_X12_parkPart_133 (by decide) ?_
    exact jO.sub (t_X12_parkPart_L150 hs n y23 M22) (And.intro rfl (And.intro rfl True.intro))
  refine jo_if (fun c3_5 => ?_) (fun c3_5 => ?_)
  · skip
    refine jo_tabIn 136 d_X12_parkPart_6 5 c3_5 (by decide) (by decide) rfl (by decide) ?_
    refine jo_aload 0 d_X12_parkPart_136 rfl rfl ?_
    refine jo_callV (st := []) (m_X12_aTicket hs n M2) ok_X12_aTicket (And.intro (Nat.le_of_ble_eq_true rfl) (Nat.le_of_ble_eq_true rfl)) lm_X12_226 in_X12_aTicket se_X12_aTicket rfl kc_167 rfl rfl (And.intro (Nat.zero_le _) (Nat.zero_le _)) rfl (Nat.le_of_ble_eq_true rfl) d_X12_parkPart_137 (fun r24 M25 => ?_)
    refine jo_istore 1 d_X12_parkPart_140 rfl (Nat.le_of_ble_eq_true rfl) (fun y26 => ?_)
    refine jo_goto 150 d_X12_parkPart_141 (by decide) ?_
    exact jO.sub (t_X12_parkPart_L150 hs n y26 M25) (And.intro rfl (And.intro rfl True.intro))
  refine jo_tabOut 144 d_X12_parkPart_6 (by omega) (by decide) ?_
  refine jo_aload 0 d_X12_parkPart_144 rfl rfl ?_
  refine jo_iconst 2 d_X12_parkPart_145 ?_
  refine jo_callV (st := []) (m_X12_fails hs n 2 M2) ok_X12_fails (And.intro (Nat.le_of_ble_eq_true rfl) (Nat.le_of_ble_eq_true rfl)) lm_X12_169 in_X12_fails se_X12_fails rfl kc_167 rfl rfl (And.intro (Nat.zero_le _) (Nat.zero_le _)) rfl (Nat.le_of_ble_eq_true rfl) d_X12_parkPart_146 (fun r27 M28 => ?_)
  exact jo_zretq rfl d_X12_parkPart_149
theorem m_X12_parkPart {g : JG} {ad : Nat → Nat} (hs : jStr g ad) (n : Nat) (M : JMem) : jMet g jNN ad jR D_X12_parkPart yX12_parkPart [.ref 167] M (f_X12_parkPart n M) :=
  jMet.of (lo0 := [some (.ref 167), none]) (by decide) rfl rfl (Nat.le_of_ble_eq_true rfl) (And.intro rfl True.intro) (t_X12_parkPart hs n M)
/-! CageLeaveModel.taken(I)I -/
def D_X12_taken : JD := (RX12, cX12_taken, 2, some .int, "taken", { frames := 1, cells := 0, slots := 0, locals := 21 })
theorem ok_X12_taken : jOk D_X12_taken yX12_taken 1 := ⟨jTW_mem (k := 1659) (by decide +kernel) rfl, jTW_mem (k := 151) (by decide +kernel) rfl, ⟨by decide +kernel, by decide +kernel⟩, by decide +kernel, rfl, rfl⟩
theorem in_X12_taken : Cond.instanceMethod yX12_taken ∈ jTW := jTW_mem (k := 1658) (by decide +kernel) rfl
theorem se_X12_taken : Cond.selects yX12_taken.cls yX12_taken yX12_taken ∈ jTW := jTW_mem (k := 75) (by decide +kernel) rfl
theorem d_X12_taken_0 : decode (D_X12_taken).2.1 0 = .ok (.aload_n 0, 1) := by decide +kernel
theorem d_X12_taken_1 : decode (D_X12_taken).2.1 1 = .ok (.aload_n 0, 1) := by decide +kernel
theorem d_X12_taken_2 : decode (D_X12_taken).2.1 2 = .ok (.getfield 157, 3) := by decide +kernel
theorem d_X12_taken_5 : decode (D_X12_taken).2.1 5 = .ok (.putfield 37, 3) := by decide +kernel
theorem d_X12_taken_8 : decode (D_X12_taken).2.1 8 = .ok (.aload_n 0, 1) := by decide +kernel
theorem d_X12_taken_9 : decode (D_X12_taken).2.1 9 = .ok (.getfield 157, 3) := by decide +kernel
theorem d_X12_taken_12 : decode (D_X12_taken).2.1 12 = .ok (.ifCond .le 12, 3) := by decide +kernel
theorem d_X12_taken_15 : decode (D_X12_taken).2.1 15 = .ok (.aload_n 0, 1) := by decide +kernel
theorem d_X12_taken_16 : decode (D_X12_taken).2.1 16 = .ok (.bipush 9, 2) := by decide +kernel
theorem d_X12_taken_18 : decode (D_X12_taken).2.1 18 = .ok (.invokevirtual 87, 3) := by decide +kernel
theorem d_X12_taken_21 : decode (D_X12_taken).2.1 21 = .ok (.goto 8, 3) := by decide +kernel
theorem d_X12_taken_24 : decode (D_X12_taken).2.1 24 = .ok (.aload_n 0, 1) := by decide +kernel
theorem d_X12_taken_25 : decode (D_X12_taken).2.1 25 = .ok (.iload_n 1, 1) := by decide +kernel
theorem d_X12_taken_26 : decode (D_X12_taken).2.1 26 = .ok (.invokevirtual 91, 3) := by decide +kernel
theorem d_X12_taken_29 : decode (D_X12_taken).2.1 29 = .ok (.ireturn, 1) := by decide +kernel
def f_X12_taken (n : Nat) (x1 : Int) (M : JMem) : Option (Int × JMem) := letm (jup M 167 16 (M 167 18)) fun M1 => if jw (M1 167 18) ≤ 0 then (bnd (f_X12_gives n x1 M1) fun r2 M3 => some (r2, M3)) else (bnd (f_X12_refuse n 9 M1) fun r4 M5 => some (r4, M5))
set_option maxRecDepth 4000 in
theorem t_X12_taken {g : JG} {ad : Nat → Nat} (hs : jStr g ad) (n : Nat) (x1 : Int) (M : JMem) : jB g D_X12_taken ad 0 [some (.ref 167), some (ji x1)] [] M (f_X12_taken n x1 M) := by
  unfold f_X12_taken
  refine jo_aload 0 d_X12_taken_0 rfl rfl ?_
  refine jo_aload 0 d_X12_taken_1 rfl rfl ?_
  refine jo_getI (k := 18) cl_12 (Nat.le_of_ble_eq_true rfl) lk_X12_157 (Or.inl rfl) kc_167 d_X12_taken_2 ?_
  refine jo_putI (k := 16) cl_12 (Nat.le_of_ble_eq_true rfl) lk_X12_37 rfl rfl kc_167 d_X12_taken_5 (fun M1 => ?_)
  refine jo_aload 0 d_X12_taken_8 rfl rfl ?_
  refine jo_getI (k := 18) cl_12 (Nat.le_of_ble_eq_true rfl) lk_X12_157 (Or.inl rfl) kc_167 d_X12_taken_9 ?_
  refine jo_if_le 24 d_X12_taken_12 (by decide) ?_ ?_
  · skip
    refine jo_aload 0 d_X12_taken_24 rfl rfl ?_
    refine jo_iload 1 d_X12_taken_25 rfl rfl ?_
    refine jo_callV (st := []) (m_X12_gives hs n x1 M1) ok_X12_gives (And.intro (Nat.le_of_ble_eq_true rfl) (Nat.le_of_ble_eq_true rfl)) lm_X12_91 in_X12_gives se_X12_gives rfl kc_167 rfl rfl (And.intro (Nat.zero_le _) (Nat.zero_le _)) rfl (Nat.le_of_ble_eq_true rfl) d_X12_taken_26 (fun r2 M3 => ?_)
    exact jo_iret rfl d_X12_taken_29
  · skip
    refine jo_aload 0 d_X12_taken_15 rfl rfl ?_
    refine jo_bipush 9 d_X12_taken_16 (by decide) ?_
    refine jo_callV (st := []) (m_X12_refuse hs n 9 M1) ok_X12_refuse (And.intro (Nat.le_of_ble_eq_true rfl) (Nat.le_of_ble_eq_true rfl)) lm_X12_87 in_X12_refuse se_X12_refuse rfl kc_167 rfl rfl (And.intro (Nat.zero_le _) (Nat.zero_le _)) rfl (Nat.le_of_ble_eq_true rfl) d_X12_taken_18 (fun r4 M5 => ?_)
    refine jo_goto 29 d_X12_taken_21 (by decide) ?_
    exact jo_iret rfl d_X12_taken_29
theorem m_X12_taken {g : JG} {ad : Nat → Nat} (hs : jStr g ad) (n : Nat) (x1 : Int) (M : JMem) : jMet g jNN ad jR D_X12_taken yX12_taken [.ref 167, ji x1] M (f_X12_taken n x1 M) :=
  jMet.of (lo0 := [some (.ref 167), some (ji x1)]) (by decide) rfl rfl (Nat.le_of_ble_eq_true rfl) (And.intro rfl (And.intro rfl True.intro)) (t_X12_taken hs n x1 M)
/-! CageLeaveModel.park(I)I -/
def D_X12_park : JD := (RX12, cX12_park, 4, some .int, "park", { frames := 12, cells := 0, slots := 0, locals := 285 })
theorem ok_X12_park : jOk D_X12_park yX12_park 1 := ⟨jTW_mem (k := 1552) (by decide +kernel) rfl, jTW_mem (k := 151) (by decide +kernel) rfl, ⟨by decide +kernel, by decide +kernel⟩, by decide +kernel, rfl, rfl⟩
theorem in_X12_park : Cond.instanceMethod yX12_park ∈ jTW := jTW_mem (k := 1550) (by decide +kernel) rfl
theorem se_X12_park : Cond.selects yX12_park.cls yX12_park yX12_park ∈ jTW := jTW_mem (k := 1551) (by decide +kernel) rfl
theorem lm_X12_239 : Cond.methodLink RX12 239 yX12_taken ∈ jTW := jTW_mem (k := 1656) (by decide +kernel) rfl
theorem lm_X12_236 : Cond.methodLink RX12 236 yX12_parkPart ∈ jTW := jTW_mem (k := 1577) (by decide +kernel) rfl
theorem lm_X12_232 : Cond.methodLink RX12 232 yX12_begins ∈ jTW := jTW_mem (k := 1553) (by decide +kernel) rfl
theorem lm_X12_77 : Cond.methodLink RX12 77 yX12_plain ∈ jTW := jTW_mem (k := 1372) (by decide +kernel) rfl
theorem d_X12_park_0 : decode (D_X12_park).2.1 0 = .ok (.aload_n 0, 1) := by decide +kernel
theorem d_X12_park_1 : decode (D_X12_park).2.1 1 = .ok (.iload_n 1, 1) := by decide +kernel
theorem d_X12_park_2 : decode (D_X12_park).2.1 2 = .ok (.sipush 900, 3) := by decide +kernel
theorem d_X12_park_5 : decode (D_X12_park).2.1 5 = .ok (.invokevirtual 232, 3) := by decide +kernel
theorem d_X12_park_8 : decode (D_X12_park).2.1 8 = .ok (.ifCond .ne 9, 3) := by decide +kernel
theorem d_X12_park_11 : decode (D_X12_park).2.1 11 = .ok (.aload_n 0, 1) := by decide +kernel
theorem d_X12_park_12 : decode (D_X12_park).2.1 12 = .ok (.iconst 1, 1) := by decide +kernel
theorem d_X12_park_13 : decode (D_X12_park).2.1 13 = .ok (.invokevirtual 87, 3) := by decide +kernel
theorem d_X12_park_16 : decode (D_X12_park).2.1 16 = .ok (.ireturn, 1) := by decide +kernel
theorem d_X12_park_17 : decode (D_X12_park).2.1 17 = .ok (.aload_n 0, 1) := by decide +kernel
theorem d_X12_park_18 : decode (D_X12_park).2.1 18 = .ok (.sipush 2016, 3) := by decide +kernel
theorem d_X12_park_21 : decode (D_X12_park).2.1 21 = .ok (.invokevirtual 77, 3) := by decide +kernel
theorem d_X12_park_24 : decode (D_X12_park).2.1 24 = .ok (.aload_n 0, 1) := by decide +kernel
theorem d_X12_park_25 : decode (D_X12_park).2.1 25 = .ok (.iconst 0, 1) := by decide +kernel
theorem d_X12_park_26 : decode (D_X12_park).2.1 26 = .ok (.putfield 212, 3) := by decide +kernel
theorem d_X12_park_29 : decode (D_X12_park).2.1 29 = .ok (.iconst 1, 1) := by decide +kernel
theorem d_X12_park_30 : decode (D_X12_park).2.1 30 = .ok (.istore_n 2, 1) := by decide +kernel
theorem d_X12_park_31 : decode (D_X12_park).2.1 31 = .ok (.iload_n 2, 1) := by decide +kernel
theorem d_X12_park_32 : decode (D_X12_park).2.1 32 = .ok (.ifCond .eq 18, 3) := by decide +kernel
theorem d_X12_park_35 : decode (D_X12_park).2.1 35 = .ok (.aload_n 0, 1) := by decide +kernel
theorem d_X12_park_36 : decode (D_X12_park).2.1 36 = .ok (.getfield 132, 3) := by decide +kernel
theorem d_X12_park_39 : decode (D_X12_park).2.1 39 = .ok (.ifCond .eq 11, 3) := by decide +kernel
theorem d_X12_park_42 : decode (D_X12_park).2.1 42 = .ok (.aload_n 0, 1) := by decide +kernel
theorem d_X12_park_43 : decode (D_X12_park).2.1 43 = .ok (.invokevirtual 236, 3) := by decide +kernel
theorem d_X12_park_46 : decode (D_X12_park).2.1 46 = .ok (.istore_n 2, 1) := by decide +kernel
theorem d_X12_park_47 : decode (D_X12_park).2.1 47 = .ok (.goto (-16), 3) := by decide +kernel
theorem d_X12_park_50 : decode (D_X12_park).2.1 50 = .ok (.aload_n 0, 1) := by decide +kernel
theorem d_X12_park_51 : decode (D_X12_park).2.1 51 = .ok (.getfield 157, 3) := by decide +kernel
theorem d_X12_park_54 : decode (D_X12_park).2.1 54 = .ok (.ifCond .ne 63, 3) := by decide +kernel
theorem d_X12_park_57 : decode (D_X12_park).2.1 57 = .ok (.iconst 0, 1) := by decide +kernel
theorem d_X12_park_58 : decode (D_X12_park).2.1 58 = .ok (.istore_n 3, 1) := by decide +kernel
theorem d_X12_park_59 : decode (D_X12_park).2.1 59 = .ok (.iload_n 3, 1) := by decide +kernel
theorem d_X12_park_60 : decode (D_X12_park).2.1 60 = .ok (.sipush 504, 3) := by decide +kernel
theorem d_X12_park_63 : decode (D_X12_park).2.1 63 = .ok (.if_icmp .ge 25, 3) := by decide +kernel
theorem d_X12_park_66 : decode (D_X12_park).2.1 66 = .ok (.aload_n 0, 1) := by decide +kernel
theorem d_X12_park_67 : decode (D_X12_park).2.1 67 = .ok (.getfield 7, 3) := by decide +kernel
theorem d_X12_park_70 : decode (D_X12_park).2.1 70 = .ok (.iload_n 3, 1) := by decide +kernel
theorem d_X12_park_71 : decode (D_X12_park).2.1 71 = .ok (.aload_n 0, 1) := by decide +kernel
theorem d_X12_park_72 : decode (D_X12_park).2.1 72 = .ok (.getfield 7, 3) := by decide +kernel
theorem d_X12_park_75 : decode (D_X12_park).2.1 75 = .ok (.sipush 2016, 3) := by decide +kernel
theorem d_X12_park_78 : decode (D_X12_park).2.1 78 = .ok (.iload_n 3, 1) := by decide +kernel
theorem d_X12_park_79 : decode (D_X12_park).2.1 79 = .ok (.iadd, 1) := by decide +kernel
theorem d_X12_park_80 : decode (D_X12_park).2.1 80 = .ok (.iaload, 1) := by decide +kernel
theorem d_X12_park_81 : decode (D_X12_park).2.1 81 = .ok (.iastore, 1) := by decide +kernel
theorem d_X12_park_82 : decode (D_X12_park).2.1 82 = .ok (.iinc 3 1, 3) := by decide +kernel
theorem d_X12_park_85 : decode (D_X12_park).2.1 85 = .ok (.goto (-26), 3) := by decide +kernel
theorem d_X12_park_88 : decode (D_X12_park).2.1 88 = .ok (.iconst 0, 1) := by decide +kernel
theorem d_X12_park_89 : decode (D_X12_park).2.1 89 = .ok (.istore_n 3, 1) := by decide +kernel
theorem d_X12_park_90 : decode (D_X12_park).2.1 90 = .ok (.iload_n 3, 1) := by decide +kernel
theorem d_X12_park_91 : decode (D_X12_park).2.1 91 = .ok (.bipush 22, 2) := by decide +kernel
theorem d_X12_park_93 : decode (D_X12_park).2.1 93 = .ok (.if_icmp .ge 24, 3) := by decide +kernel
theorem d_X12_park_96 : decode (D_X12_park).2.1 96 = .ok (.aload_n 0, 1) := by decide +kernel
theorem d_X12_park_97 : decode (D_X12_park).2.1 97 = .ok (.getfield 13, 3) := by decide +kernel
theorem d_X12_park_100 : decode (D_X12_park).2.1 100 = .ok (.iload_n 3, 1) := by decide +kernel
theorem d_X12_park_101 : decode (D_X12_park).2.1 101 = .ok (.aload_n 0, 1) := by decide +kernel
theorem d_X12_park_102 : decode (D_X12_park).2.1 102 = .ok (.getfield 13, 3) := by decide +kernel
theorem d_X12_park_105 : decode (D_X12_park).2.1 105 = .ok (.bipush 88, 2) := by decide +kernel
theorem d_X12_park_107 : decode (D_X12_park).2.1 107 = .ok (.iload_n 3, 1) := by decide +kernel
theorem d_X12_park_108 : decode (D_X12_park).2.1 108 = .ok (.iadd, 1) := by decide +kernel
theorem d_X12_park_109 : decode (D_X12_park).2.1 109 = .ok (.laload, 1) := by decide +kernel
theorem d_X12_park_110 : decode (D_X12_park).2.1 110 = .ok (.lastore, 1) := by decide +kernel
theorem d_X12_park_111 : decode (D_X12_park).2.1 111 = .ok (.iinc 3 1, 3) := by decide +kernel
theorem d_X12_park_114 : decode (D_X12_park).2.1 114 = .ok (.goto (-24), 3) := by decide +kernel
theorem d_X12_park_117 : decode (D_X12_park).2.1 117 = .ok (.aload_n 0, 1) := by decide +kernel
theorem d_X12_park_118 : decode (D_X12_park).2.1 118 = .ok (.aload_n 0, 1) := by decide +kernel
theorem d_X12_park_119 : decode (D_X12_park).2.1 119 = .ok (.getfield 7, 3) := by decide +kernel
theorem d_X12_park_122 : decode (D_X12_park).2.1 122 = .ok (.iconst 2, 1) := by decide +kernel
theorem d_X12_park_123 : decode (D_X12_park).2.1 123 = .ok (.iaload, 1) := by decide +kernel
theorem d_X12_park_124 : decode (D_X12_park).2.1 124 = .ok (.invokevirtual 239, 3) := by decide +kernel
theorem d_X12_park_127 : decode (D_X12_park).2.1 127 = .ok (.ireturn, 1) := by decide +kernel
def f_X12_park_L117 (n : Nat) (M : JMem) : Option (Int × JMem) := chk (jin 2 3160) <| bnd (f_X12_taken n (M 168 (jw 2).toNat) M) fun r1 M2 => some (r1, M2)
set_option maxRecDepth 4000 in
theorem t_X12_park_L117 {g : JG} {ad : Nat → Nat} (hs : jStr g ad) (n : Nat) (M : JMem) : jB g D_X12_park ad 117 [some (.ref 167), none, none, none] [] M (f_X12_park_L117 n M) := by
  unfold f_X12_park_L117
  refine jo_aload 0 d_X12_park_117 rfl rfl ?_
  refine jo_aload 0 d_X12_park_118 rfl rfl ?_
  refine jo_getR (k := 0) cl_12 (Nat.le_of_ble_eq_true rfl) lk_X12_7 rfl kc_167 kr_167_0 d_X12_park_119 ?_
  refine jo_iconst 2 d_X12_park_122 ?_
  refine jo_iald (N := 3160) kc_168 d_X12_park_123 ?_
  refine jo_callV (st := []) (m_X12_taken hs n (M 168 (jw 2).toNat) M) ok_X12_taken (And.intro (Nat.le_of_ble_eq_true rfl) (Nat.le_of_ble_eq_true rfl)) lm_X12_239 in_X12_taken se_X12_taken rfl kc_167 rfl rfl (And.intro (Nat.zero_le _) (Nat.zero_le _)) rfl (Nat.le_of_ble_eq_true rfl) d_X12_park_124 (fun r1 M2 => ?_)
  exact jo_iret rfl d_X12_park_127
def f_X12_park_L90 (n : Nat) : Nat → Int → JMem → Option (Int × JMem)
  | 0, _, _ => none
  | k + 1, v3, M => if jw 22 ≤ jw v3 then (f_X12_park_L117 n M) else (chk (jin (88 + v3) 132) <| chk (jin v3 132) <| letm (jup M 169 (jw v3).toNat (M 169 (jw (88 + v3)).toNat)) fun M1 => letv (v3 + 1) fun y2 => (f_X12_park_L90 n k) y2 M1)
set_option maxRecDepth 4000 in
theorem t_X12_park_L90 {g : JG} {ad : Nat → Nat} (hs : jStr g ad) (n : Nat) : ∀ (k : Nat) (v3 : Int) (M : JMem), jB g D_X12_park ad 90 [some (.ref 167), none, none, some (ji v3)] [] M (f_X12_park_L90 n k v3 M) := by
  intro k
  induction k with
  | zero => intro v3 M; exact jO.none
  | succ k ih =>
    intro v3 M
    rw [f_X12_park_L90]
    refine jo_iload 3 d_X12_park_90 rfl rfl ?_
    refine jo_bipush 22 d_X12_park_91 (by decide) ?_
    refine jo_icmp_ge 117 d_X12_park_93 (by decide) ?_ ?_
    · skip
      exact jO.sub (t_X12_park_L117 hs n M) (And.intro rfl True.intro)
    · skip
      refine jo_aload 0 d_X12_park_96 rfl rfl ?_
      refine jo_getR (k := 1) cl_12 (Nat.le_of_ble_eq_true rfl) lk_X12_13 rfl kc_167 kr_167_1 d_X12_park_97 ?_
      refine jo_iload 3 d_X12_park_100 rfl rfl ?_
      refine jo_aload 0 d_X12_park_101 rfl rfl ?_
      refine jo_getR (k := 1) cl_12 (Nat.le_of_ble_eq_true rfl) lk_X12_13 rfl kc_167 kr_167_1 d_X12_park_102 ?_
      refine jo_bipush 88 d_X12_park_105 (by decide) ?_
      refine jo_iload 3 d_X12_park_107 rfl rfl ?_
      refine jo_iadd d_X12_park_108 ?_
      refine jo_lald (N := 132) kc_169 d_X12_park_109 ?_
      refine jo_last (N := 132) kc_169 d_X12_park_110 (fun M1 => ?_)
      refine jo_iinc 3 d_X12_park_111 rfl (Nat.le_of_ble_eq_true rfl) (fun y2 => ?_)
      refine jo_goto 90 d_X12_park_114 (by decide) ?_
      exact jO.sub (ih y2 M1) (And.intro rfl (And.intro rfl True.intro))
def f_X12_park_L88 (n : Nat) (M : JMem) : Option (Int × JMem) := letv 0 fun y1 => f_X12_park_L90 n n y1 M
set_option maxRecDepth 4000 in
theorem t_X12_park_L88 {g : JG} {ad : Nat → Nat} (hs : jStr g ad) (n : Nat) (M : JMem) : jB g D_X12_park ad 88 [some (.ref 167), none, none, none] [] M (f_X12_park_L88 n M) := by
  unfold f_X12_park_L88
  refine jo_iconst 0 d_X12_park_88 ?_
  refine jo_istore 3 d_X12_park_89 rfl (Nat.le_of_ble_eq_true rfl) (fun y1 => ?_)
  exact jO.sub (t_X12_park_L90 hs n n y1 M) (And.intro rfl (And.intro rfl True.intro))
def f_X12_park_L59 (n : Nat) : Nat → Int → JMem → Option (Int × JMem)
  | 0, _, _ => none
  | k + 1, v3, M => if jw 504 ≤ jw v3 then (f_X12_park_L88 n M) else (chk (jin (2016 + v3) 3160) <| chk (jin v3 3160) <| letm (jup M 168 (jw v3).toNat (M 168 (jw (2016 + v3)).toNat)) fun M1 => letv (v3 + 1) fun y2 => (f_X12_park_L59 n k) y2 M1)
set_option maxRecDepth 4000 in
theorem t_X12_park_L59 {g : JG} {ad : Nat → Nat} (hs : jStr g ad) (n : Nat) : ∀ (k : Nat) (v3 : Int) (M : JMem), jB g D_X12_park ad 59 [some (.ref 167), none, none, some (ji v3)] [] M (f_X12_park_L59 n k v3 M) := by
  intro k
  induction k with
  | zero => intro v3 M; exact jO.none
  | succ k ih =>
    intro v3 M
    rw [f_X12_park_L59]
    refine jo_iload 3 d_X12_park_59 rfl rfl ?_
    refine jo_sipush 504 d_X12_park_60 (by decide) ?_
    refine jo_icmp_ge 88 d_X12_park_63 (by decide) ?_ ?_
    · skip
      exact jO.sub (t_X12_park_L88 hs n M) (And.intro rfl True.intro)
    · skip
      refine jo_aload 0 d_X12_park_66 rfl rfl ?_
      refine jo_getR (k := 0) cl_12 (Nat.le_of_ble_eq_true rfl) lk_X12_7 rfl kc_167 kr_167_0 d_X12_park_67 ?_
      refine jo_iload 3 d_X12_park_70 rfl rfl ?_
      refine jo_aload 0 d_X12_park_71 rfl rfl ?_
      refine jo_getR (k := 0) cl_12 (Nat.le_of_ble_eq_true rfl) lk_X12_7 rfl kc_167 kr_167_0 d_X12_park_72 ?_
      refine jo_sipush 2016 d_X12_park_75 (by decide) ?_
      refine jo_iload 3 d_X12_park_78 rfl rfl ?_
      refine jo_iadd d_X12_park_79 ?_
      refine jo_iald (N := 3160) kc_168 d_X12_park_80 ?_
      refine jo_iast (N := 3160) kc_168 d_X12_park_81 (fun M1 => ?_)
      refine jo_iinc 3 d_X12_park_82 rfl (Nat.le_of_ble_eq_true rfl) (fun y2 => ?_)
      refine jo_goto 59 d_X12_park_85 (by decide) ?_
      exact jO.sub (ih y2 M1) (And.intro rfl (And.intro rfl True.intro))
def f_X12_park_L50 (n : Nat) (M : JMem) : Option (Int × JMem) := if jw (M 167 18) = 0 then (letv 0 fun y1 => f_X12_park_L59 n n y1 M) else (f_X12_park_L117 n M)
set_option maxRecDepth 4000 in
theorem t_X12_park_L50 {g : JG} {ad : Nat → Nat} (hs : jStr g ad) (n : Nat) (M : JMem) : jB g D_X12_park ad 50 [some (.ref 167), none, none, none] [] M (f_X12_park_L50 n M) := by
  unfold f_X12_park_L50
  refine jo_aload 0 d_X12_park_50 rfl rfl ?_
  refine jo_getI (k := 18) cl_12 (Nat.le_of_ble_eq_true rfl) lk_X12_157 (Or.inl rfl) kc_167 d_X12_park_51 ?_
  refine jo_if_ne 117 d_X12_park_54 (by decide) ?_ ?_
  · skip
    exact jO.sub (t_X12_park_L117 hs n M) (And.intro rfl True.intro)
  · skip
    refine jo_iconst 0 d_X12_park_57 ?_
    refine jo_istore 3 d_X12_park_58 rfl (Nat.le_of_ble_eq_true rfl) (fun y1 => ?_)
    exact jO.sub (t_X12_park_L59 hs n n y1 M) (And.intro rfl (And.intro rfl True.intro))
def f_X12_park_L31 (n : Nat) : Nat → Int → JMem → Option (Int × JMem)
  | 0, _, _ => none
  | k + 1, v2, M => if jw v2 = 0 then (f_X12_park_L50 n M) else (if jw (M 167 12) = 0 then (f_X12_park_L50 n M) else (bnd (f_X12_parkPart n M) fun r1 M2 => letv r1 fun y3 => (f_X12_park_L31 n k) y3 M2))
set_option maxRecDepth 4000 in
theorem t_X12_park_L31 {g : JG} {ad : Nat → Nat} (hs : jStr g ad) (n : Nat) : ∀ (k : Nat) (v2 : Int) (M : JMem), jB g D_X12_park ad 31 [some (.ref 167), none, some (ji v2), none] [] M (f_X12_park_L31 n k v2 M) := by
  intro k
  induction k with
  | zero => intro v2 M; exact jO.none
  | succ k ih =>
    intro v2 M
    rw [f_X12_park_L31]
    refine jo_iload 2 d_X12_park_31 rfl rfl ?_
    refine jo_if_eq 50 d_X12_park_32 (by decide) ?_ ?_
    · skip
      exact jO.sub (t_X12_park_L50 hs n M) (And.intro rfl True.intro)
    · skip
      refine jo_aload 0 d_X12_park_35 rfl rfl ?_
      refine jo_getI (k := 12) cl_12 (Nat.le_of_ble_eq_true rfl) lk_X12_132 (Or.inl rfl) kc_167 d_X12_park_36 ?_
      refine jo_if_eq 50 d_X12_park_39 (by decide) ?_ ?_
      · skip
        exact jO.sub (t_X12_park_L50 hs n M) (And.intro rfl True.intro)
      · skip
        refine jo_aload 0 d_X12_park_42 rfl rfl ?_
        refine jo_callV (st := []) (m_X12_parkPart hs n M) ok_X12_parkPart (And.intro (Nat.le_of_ble_eq_true rfl) (Nat.le_of_ble_eq_true rfl)) lm_X12_236 in_X12_parkPart se_X12_parkPart rfl kc_167 rfl rfl (And.intro (Nat.zero_le _) (Nat.zero_le _)) rfl (Nat.le_of_ble_eq_true rfl) d_X12_park_43 (fun r1 M2 => ?_)
        refine jo_istore 2 d_X12_park_46 rfl (Nat.le_of_ble_eq_true rfl) (fun y3 => ?_)
        refine jo_goto 31 d_X12_park_47 (by decide) ?_
        exact jO.sub (ih y3 M2) (And.intro rfl (And.intro rfl True.intro))
def f_X12_park (n : Nat) (x1 : Int) (M : JMem) : Option (Int × JMem) := bnd (f_X12_begins n x1 900 M) fun r1 M2 => if jw r1 = 0 then (bnd (f_X12_refuse n 1 M2) fun r7 M8 => some (r7, M8)) else (bnd (f_X12_plain n 2016 M2) fun _ M4 => chk (jw 0 = 0 ∨ jw 0 = 1) <| letm (jup M4 167 20 0) fun M5 => letv 1 fun y6 => f_X12_park_L31 n n y6 M5)
set_option maxRecDepth 4000 in
theorem t_X12_park {g : JG} {ad : Nat → Nat} (hs : jStr g ad) (n : Nat) (x1 : Int) (M : JMem) : jB g D_X12_park ad 0 [some (.ref 167), some (ji x1), none, none] [] M (f_X12_park n x1 M) := by
  unfold f_X12_park
  refine jo_aload 0 d_X12_park_0 rfl rfl ?_
  refine jo_iload 1 d_X12_park_1 rfl rfl ?_
  refine jo_sipush 900 d_X12_park_2 (by decide) ?_
  refine jo_callV (st := []) (m_X12_begins hs n x1 900 M) ok_X12_begins (And.intro (Nat.le_of_ble_eq_true rfl) (Nat.le_of_ble_eq_true rfl)) lm_X12_232 in_X12_begins se_X12_begins rfl kc_167 rfl rfl (And.intro (Nat.zero_le _) (Nat.zero_le _)) rfl (Nat.le_of_ble_eq_true rfl) d_X12_park_5 (fun r1 M2 => ?_)
  refine jo_if_ne 17 d_X12_park_8 (by decide) ?_ ?_
  · skip
    refine jo_aload 0 d_X12_park_17 rfl rfl ?_
    refine jo_sipush 2016 d_X12_park_18 (by decide) ?_
    refine jo_callV (st := []) (m_X12_plain hs n 2016 M2) ok_X12_plain (And.intro (Nat.le_of_ble_eq_true rfl) (Nat.le_of_ble_eq_true rfl)) lm_X12_77 in_X12_plain se_X12_plain rfl kc_167 rfl rfl (And.intro (Nat.zero_le _) (Nat.zero_le _)) rfl (Nat.le_of_ble_eq_true rfl) d_X12_park_21 (fun _ M4 => ?_)
    refine jo_aload 0 d_X12_park_24 rfl rfl ?_
    refine jo_iconst 0 d_X12_park_25 ?_
    refine jo_putZ (k := 20) cl_12 (Nat.le_of_ble_eq_true rfl) lk_X12_212 rfl rfl kc_167 d_X12_park_26 (fun M5 => ?_)
    refine jo_iconst 1 d_X12_park_29 ?_
    refine jo_istore 2 d_X12_park_30 rfl (Nat.le_of_ble_eq_true rfl) (fun y6 => ?_)
    exact jO.sub (t_X12_park_L31 hs n n y6 M5) (And.intro rfl (And.intro rfl True.intro))
  · skip
    refine jo_aload 0 d_X12_park_11 rfl rfl ?_
    refine jo_iconst 1 d_X12_park_12 ?_
    refine jo_callV (st := []) (m_X12_refuse hs n 1 M2) ok_X12_refuse (And.intro (Nat.le_of_ble_eq_true rfl) (Nat.le_of_ble_eq_true rfl)) lm_X12_87 in_X12_refuse se_X12_refuse rfl kc_167 rfl rfl (And.intro (Nat.zero_le _) (Nat.zero_le _)) rfl (Nat.le_of_ble_eq_true rfl) d_X12_park_13 (fun r7 M8 => ?_)
    exact jo_iret rfl d_X12_park_16
theorem m_X12_park {g : JG} {ad : Nat → Nat} (hs : jStr g ad) (n : Nat) (x1 : Int) (M : JMem) : jMet g jNN ad jR D_X12_park yX12_park [.ref 167, ji x1] M (f_X12_park n x1 M) :=
  jMet.of (lo0 := [some (.ref 167), some (ji x1), none, none]) (by decide) rfl rfl (Nat.le_of_ble_eq_true rfl) (And.intro rfl (And.intro rfl True.intro)) (t_X12_park hs n x1 M)
/-! CageLeaveModel.peace(I)I -/
def D_X12_peace : JD := (RX12, cX12_peace, 2, some .int, "peace", { frames := 9, cells := 0, slots := 0, locals := 197 })
theorem ok_X12_peace : jOk D_X12_peace yX12_peace 1 := ⟨jTW_mem (k := 1898) (by decide +kernel) rfl, jTW_mem (k := 151) (by decide +kernel) rfl, ⟨by decide +kernel, by decide +kernel⟩, by decide +kernel, rfl, rfl⟩
theorem in_X12_peace : Cond.instanceMethod yX12_peace ∈ jTW := jTW_mem (k := 1896) (by decide +kernel) rfl
theorem se_X12_peace : Cond.selects yX12_peace.cls yX12_peace yX12_peace ∈ jTW := jTW_mem (k := 1897) (by decide +kernel) rfl
theorem d_X12_peace_0 : decode (D_X12_peace).2.1 0 = .ok (.aload_n 0, 1) := by decide +kernel
theorem d_X12_peace_1 : decode (D_X12_peace).2.1 1 = .ok (.iload_n 1, 1) := by decide +kernel
theorem d_X12_peace_2 : decode (D_X12_peace).2.1 2 = .ok (.invokevirtual 366, 3) := by decide +kernel
theorem d_X12_peace_5 : decode (D_X12_peace).2.1 5 = .ok (.ifCond .ne 9, 3) := by decide +kernel
theorem d_X12_peace_8 : decode (D_X12_peace).2.1 8 = .ok (.aload_n 0, 1) := by decide +kernel
theorem d_X12_peace_9 : decode (D_X12_peace).2.1 9 = .ok (.iconst 1, 1) := by decide +kernel
theorem d_X12_peace_10 : decode (D_X12_peace).2.1 10 = .ok (.invokevirtual 87, 3) := by decide +kernel
theorem d_X12_peace_13 : decode (D_X12_peace).2.1 13 = .ok (.ireturn, 1) := by decide +kernel
theorem d_X12_peace_14 : decode (D_X12_peace).2.1 14 = .ok (.aload_n 0, 1) := by decide +kernel
theorem d_X12_peace_15 : decode (D_X12_peace).2.1 15 = .ok (.iload_n 1, 1) := by decide +kernel
theorem d_X12_peace_16 : decode (D_X12_peace).2.1 16 = .ok (.invokevirtual 369, 3) := by decide +kernel
theorem d_X12_peace_19 : decode (D_X12_peace).2.1 19 = .ok (.ifCond .eq 23, 3) := by decide +kernel
theorem d_X12_peace_22 : decode (D_X12_peace).2.1 22 = .ok (.aload_n 0, 1) := by decide +kernel
theorem d_X12_peace_23 : decode (D_X12_peace).2.1 23 = .ok (.aload_n 0, 1) := by decide +kernel
theorem d_X12_peace_24 : decode (D_X12_peace).2.1 24 = .ok (.iload_n 1, 1) := by decide +kernel
theorem d_X12_peace_25 : decode (D_X12_peace).2.1 25 = .ok (.invokevirtual 372, 3) := by decide +kernel
theorem d_X12_peace_28 : decode (D_X12_peace).2.1 28 = .ok (.ifCond .ne 7, 3) := by decide +kernel
theorem d_X12_peace_31 : decode (D_X12_peace).2.1 31 = .ok (.iconst 1, 1) := by decide +kernel
theorem d_X12_peace_32 : decode (D_X12_peace).2.1 32 = .ok (.goto 4, 3) := by decide +kernel
theorem d_X12_peace_35 : decode (D_X12_peace).2.1 35 = .ok (.iconst 0, 1) := by decide +kernel
theorem d_X12_peace_36 : decode (D_X12_peace).2.1 36 = .ok (.invokevirtual 91, 3) := by decide +kernel
theorem d_X12_peace_39 : decode (D_X12_peace).2.1 39 = .ok (.goto 9, 3) := by decide +kernel
theorem d_X12_peace_42 : decode (D_X12_peace).2.1 42 = .ok (.aload_n 0, 1) := by decide +kernel
theorem d_X12_peace_43 : decode (D_X12_peace).2.1 43 = .ok (.bipush 7, 2) := by decide +kernel
theorem d_X12_peace_45 : decode (D_X12_peace).2.1 45 = .ok (.invokevirtual 87, 3) := by decide +kernel
theorem d_X12_peace_48 : decode (D_X12_peace).2.1 48 = .ok (.ireturn, 1) := by decide +kernel
def f_X12_peace_L36 (n : Nat) (w1 : Int) (M : JMem) : Option (Int × JMem) := bnd (f_X12_gives n w1 M) fun r1 M2 => some (r1, M2)
set_option maxRecDepth 4000 in
theorem t_X12_peace_L36 {g : JG} {ad : Nat → Nat} (hs : jStr g ad) (n : Nat) (w1 : Int) (M : JMem) : jB g D_X12_peace ad 36 [none, none] [ji w1, .ref 167] M (f_X12_peace_L36 n w1 M) := by
  unfold f_X12_peace_L36
  refine jo_callV (st := []) (m_X12_gives hs n w1 M) ok_X12_gives (And.intro (Nat.le_of_ble_eq_true rfl) (Nat.le_of_ble_eq_true rfl)) lm_X12_91 in_X12_gives se_X12_gives rfl kc_167 rfl rfl (And.intro (Nat.zero_le _) (Nat.zero_le _)) rfl (Nat.le_of_ble_eq_true rfl) d_X12_peace_36 (fun r1 M2 => ?_)
  refine jo_goto 48 d_X12_peace_39 (by decide) ?_
  exact jo_iret rfl d_X12_peace_48
def f_X12_peace (n : Nat) (x1 : Int) (M : JMem) : Option (Int × JMem) := bnd (f_X12_areBeasts n x1 M) fun r1 M2 => if jw r1 = 0 then (bnd (f_X12_refuse n 1 M2) fun r9 M10 => some (r9, M10)) else (bnd (f_X12_areAlive n x1 M2) fun r3 M4 => if jw r3 = 0 then (bnd (f_X12_refuse n 7 M4) fun r5 M6 => some (r5, M6)) else (bnd (f_X12_lettingOut n x1 M4) fun r7 M8 => if jw r7 = 0 then (f_X12_peace_L36 n 1 M8) else (f_X12_peace_L36 n 0 M8)))
set_option maxRecDepth 4000 in
theorem t_X12_peace {g : JG} {ad : Nat → Nat} (hs : jStr g ad) (n : Nat) (x1 : Int) (M : JMem) : jB g D_X12_peace ad 0 [some (.ref 167), some (ji x1)] [] M (f_X12_peace n x1 M) := by
  unfold f_X12_peace
  refine jo_aload 0 d_X12_peace_0 rfl rfl ?_
  refine jo_iload 1 d_X12_peace_1 rfl rfl ?_
  refine jo_callV (st := []) (m_X12_areBeasts hs n x1 M) ok_X12_areBeasts (And.intro (Nat.le_of_ble_eq_true rfl) (Nat.le_of_ble_eq_true rfl)) lm_X12_366 in_X12_areBeasts se_X12_areBeasts rfl kc_167 rfl rfl (And.intro (Nat.zero_le _) (Nat.zero_le _)) rfl (Nat.le_of_ble_eq_true rfl) d_X12_peace_2 (fun r1 M2 => ?_)
  refine jo_if_ne 14 d_X12_peace_5 (by decide) ?_ ?_
  · skip
    refine jo_aload 0 d_X12_peace_14 rfl rfl ?_
    refine jo_iload 1 d_X12_peace_15 rfl rfl ?_
    refine jo_callV (st := []) (m_X12_areAlive hs n x1 M2) ok_X12_areAlive (And.intro (Nat.le_of_ble_eq_true rfl) (Nat.le_of_ble_eq_true rfl)) lm_X12_369 in_X12_areAlive se_X12_areAlive rfl kc_167 rfl rfl (And.intro (Nat.zero_le _) (Nat.zero_le _)) rfl (Nat.le_of_ble_eq_true rfl) d_X12_peace_16 (fun r3 M4 => ?_)
    refine jo_if_eq 42 d_X12_peace_19 (by decide) ?_ ?_
    · skip
      refine jo_aload 0 d_X12_peace_42 rfl rfl ?_
      refine jo_bipush 7 d_X12_peace_43 (by decide) ?_
      refine jo_callV (st := []) (m_X12_refuse hs n 7 M4) ok_X12_refuse (And.intro (Nat.le_of_ble_eq_true rfl) (Nat.le_of_ble_eq_true rfl)) lm_X12_87 in_X12_refuse se_X12_refuse rfl kc_167 rfl rfl (And.intro (Nat.zero_le _) (Nat.zero_le _)) rfl (Nat.le_of_ble_eq_true rfl) d_X12_peace_45 (fun r5 M6 => ?_)
      exact jo_iret rfl d_X12_peace_48
    · skip
      refine jo_aload 0 d_X12_peace_22 rfl rfl ?_
      refine jo_aload 0 d_X12_peace_23 rfl rfl ?_
      refine jo_iload 1 d_X12_peace_24 rfl rfl ?_
      refine jo_callV (st := [.ref 167]) (m_X12_lettingOut hs n x1 M4) ok_X12_lettingOut (And.intro (Nat.le_of_ble_eq_true rfl) (Nat.le_of_ble_eq_true rfl)) lm_X12_372 in_X12_lettingOut se_X12_lettingOut rfl kc_167 rfl rfl (And.intro (Nat.zero_le _) (Nat.zero_le _)) rfl (Nat.le_of_ble_eq_true rfl) d_X12_peace_25 (fun r7 M8 => ?_)
      refine jo_if_ne 35 d_X12_peace_28 (by decide) ?_ ?_
      · skip
        refine jo_iconst 0 d_X12_peace_35 ?_
        exact jO.sub (t_X12_peace_L36 hs n 0 M8) True.intro
      · skip
        refine jo_iconst 1 d_X12_peace_31 ?_
        refine jo_goto 36 d_X12_peace_32 (by decide) ?_
        exact jO.sub (t_X12_peace_L36 hs n 1 M8) True.intro
  · skip
    refine jo_aload 0 d_X12_peace_8 rfl rfl ?_
    refine jo_iconst 1 d_X12_peace_9 ?_
    refine jo_callV (st := []) (m_X12_refuse hs n 1 M2) ok_X12_refuse (And.intro (Nat.le_of_ble_eq_true rfl) (Nat.le_of_ble_eq_true rfl)) lm_X12_87 in_X12_refuse se_X12_refuse rfl kc_167 rfl rfl (And.intro (Nat.zero_le _) (Nat.zero_le _)) rfl (Nat.le_of_ble_eq_true rfl) d_X12_peace_10 (fun r9 M10 => ?_)
    exact jo_iret rfl d_X12_peace_13
theorem m_X12_peace {g : JG} {ad : Nat → Nat} (hs : jStr g ad) (n : Nat) (x1 : Int) (M : JMem) : jMet g jNN ad jR D_X12_peace yX12_peace [.ref 167, ji x1] M (f_X12_peace n x1 M) :=
  jMet.of (lo0 := [some (.ref 167), some (ji x1)]) (by decide) rfl rfl (Nat.le_of_ble_eq_true rfl) (And.intro rfl (And.intro rfl True.intro)) (t_X12_peace hs n x1 M)
/-! CageLeaveModel.pour(IIIII)Z -/
def D_X12_pour : JD := (RX12, cX12_pour, 8, some .boolean, "pour", { frames := 1, cells := 0, slots := 0, locals := 21 })
theorem ok_X12_pour : jOk D_X12_pour yX12_pour 5 := ⟨jTW_mem (k := 1536) (by decide +kernel) rfl, jTW_mem (k := 151) (by decide +kernel) rfl, ⟨by decide +kernel, by decide +kernel⟩, by decide +kernel, rfl, rfl⟩
theorem in_X12_pour : Cond.instanceMethod yX12_pour ∈ jTW := jTW_mem (k := 1534) (by decide +kernel) rfl
theorem se_X12_pour : Cond.selects yX12_pour.cls yX12_pour yX12_pour ∈ jTW := jTW_mem (k := 1535) (by decide +kernel) rfl
theorem d_X12_pour_0 : decode (D_X12_pour).2.1 0 = .ok (.iload_n 1, 1) := by decide +kernel
theorem d_X12_pour_1 : decode (D_X12_pour).2.1 1 = .ok (.invokestatic 98, 3) := by decide +kernel
theorem d_X12_pour_4 : decode (D_X12_pour).2.1 4 = .ok (.ifCond .eq 24, 3) := by decide +kernel
theorem d_X12_pour_7 : decode (D_X12_pour).2.1 7 = .ok (.iload_n 3, 1) := by decide +kernel
theorem d_X12_pour_8 : decode (D_X12_pour).2.1 8 = .ok (.invokestatic 98, 3) := by decide +kernel
theorem d_X12_pour_11 : decode (D_X12_pour).2.1 11 = .ok (.ifCond .eq 17, 3) := by decide +kernel
theorem d_X12_pour_14 : decode (D_X12_pour).2.1 14 = .ok (.iload_n 2, 1) := by decide +kernel
theorem d_X12_pour_15 : decode (D_X12_pour).2.1 15 = .ok (.ifCond .lt 13, 3) := by decide +kernel
theorem d_X12_pour_18 : decode (D_X12_pour).2.1 18 = .ok (.iload 4, 2) := by decide +kernel
theorem d_X12_pour_20 : decode (D_X12_pour).2.1 20 = .ok (.ifCond .lt 8, 3) := by decide +kernel
theorem d_X12_pour_23 : decode (D_X12_pour).2.1 23 = .ok (.iload 5, 2) := by decide +kernel
theorem d_X12_pour_25 : decode (D_X12_pour).2.1 25 = .ok (.ifCond .ge 9, 3) := by decide +kernel
theorem d_X12_pour_28 : decode (D_X12_pour).2.1 28 = .ok (.aload_n 0, 1) := by decide +kernel
theorem d_X12_pour_29 : decode (D_X12_pour).2.1 29 = .ok (.iconst 1, 1) := by decide +kernel
theorem d_X12_pour_30 : decode (D_X12_pour).2.1 30 = .ok (.invokevirtual 94, 3) := by decide +kernel
theorem d_X12_pour_33 : decode (D_X12_pour).2.1 33 = .ok (.ireturn, 1) := by decide +kernel
theorem d_X12_pour_34 : decode (D_X12_pour).2.1 34 = .ok (.aload_n 0, 1) := by decide +kernel
theorem d_X12_pour_35 : decode (D_X12_pour).2.1 35 = .ok (.getfield 24, 3) := by decide +kernel
theorem d_X12_pour_38 : decode (D_X12_pour).2.1 38 = .ok (.iload_n 1, 1) := by decide +kernel
theorem d_X12_pour_39 : decode (D_X12_pour).2.1 39 = .ok (.iaload, 1) := by decide +kernel
theorem d_X12_pour_40 : decode (D_X12_pour).2.1 40 = .ok (.iconst (-1), 1) := by decide +kernel
theorem d_X12_pour_41 : decode (D_X12_pour).2.1 41 = .ok (.if_icmp .eq 13, 3) := by decide +kernel
theorem d_X12_pour_44 : decode (D_X12_pour).2.1 44 = .ok (.aload_n 0, 1) := by decide +kernel
theorem d_X12_pour_45 : decode (D_X12_pour).2.1 45 = .ok (.getfield 24, 3) := by decide +kernel
theorem d_X12_pour_48 : decode (D_X12_pour).2.1 48 = .ok (.iload_n 3, 1) := by decide +kernel
theorem d_X12_pour_49 : decode (D_X12_pour).2.1 49 = .ok (.iaload, 1) := by decide +kernel
theorem d_X12_pour_50 : decode (D_X12_pour).2.1 50 = .ok (.iconst (-1), 1) := by decide +kernel
theorem d_X12_pour_51 : decode (D_X12_pour).2.1 51 = .ok (.if_icmp .ne 9, 3) := by decide +kernel
theorem d_X12_pour_54 : decode (D_X12_pour).2.1 54 = .ok (.aload_n 0, 1) := by decide +kernel
theorem d_X12_pour_55 : decode (D_X12_pour).2.1 55 = .ok (.iconst 2, 1) := by decide +kernel
theorem d_X12_pour_56 : decode (D_X12_pour).2.1 56 = .ok (.invokevirtual 94, 3) := by decide +kernel
theorem d_X12_pour_59 : decode (D_X12_pour).2.1 59 = .ok (.ireturn, 1) := by decide +kernel
theorem d_X12_pour_60 : decode (D_X12_pour).2.1 60 = .ok (.aload_n 0, 1) := by decide +kernel
theorem d_X12_pour_61 : decode (D_X12_pour).2.1 61 = .ok (.getfield 21, 3) := by decide +kernel
theorem d_X12_pour_64 : decode (D_X12_pour).2.1 64 = .ok (.iload_n 1, 1) := by decide +kernel
theorem d_X12_pour_65 : decode (D_X12_pour).2.1 65 = .ok (.iaload, 1) := by decide +kernel
theorem d_X12_pour_66 : decode (D_X12_pour).2.1 66 = .ok (.aload_n 0, 1) := by decide +kernel
theorem d_X12_pour_67 : decode (D_X12_pour).2.1 67 = .ok (.getfield 21, 3) := by decide +kernel
theorem d_X12_pour_70 : decode (D_X12_pour).2.1 70 = .ok (.iload_n 3, 1) := by decide +kernel
theorem d_X12_pour_71 : decode (D_X12_pour).2.1 71 = .ok (.iaload, 1) := by decide +kernel
theorem d_X12_pour_72 : decode (D_X12_pour).2.1 72 = .ok (.if_icmp .eq 10, 3) := by decide +kernel
theorem d_X12_pour_75 : decode (D_X12_pour).2.1 75 = .ok (.aload_n 0, 1) := by decide +kernel
theorem d_X12_pour_76 : decode (D_X12_pour).2.1 76 = .ok (.bipush 8, 2) := by decide +kernel
theorem d_X12_pour_78 : decode (D_X12_pour).2.1 78 = .ok (.invokevirtual 94, 3) := by decide +kernel
theorem d_X12_pour_81 : decode (D_X12_pour).2.1 81 = .ok (.ireturn, 1) := by decide +kernel
theorem d_X12_pour_82 : decode (D_X12_pour).2.1 82 = .ok (.iload 5, 2) := by decide +kernel
theorem d_X12_pour_84 : decode (D_X12_pour).2.1 84 = .ok (.aload_n 0, 1) := by decide +kernel
theorem d_X12_pour_85 : decode (D_X12_pour).2.1 85 = .ok (.getfield 24, 3) := by decide +kernel
theorem d_X12_pour_88 : decode (D_X12_pour).2.1 88 = .ok (.iload_n 1, 1) := by decide +kernel
theorem d_X12_pour_89 : decode (D_X12_pour).2.1 89 = .ok (.iaload, 1) := by decide +kernel
theorem d_X12_pour_90 : decode (D_X12_pour).2.1 90 = .ok (.iload_n 2, 1) := by decide +kernel
theorem d_X12_pour_91 : decode (D_X12_pour).2.1 91 = .ok (.isub, 1) := by decide +kernel
theorem d_X12_pour_92 : decode (D_X12_pour).2.1 92 = .ok (.if_icmp .gt 17, 3) := by decide +kernel
theorem d_X12_pour_95 : decode (D_X12_pour).2.1 95 = .ok (.iload 5, 2) := by decide +kernel
theorem d_X12_pour_97 : decode (D_X12_pour).2.1 97 = .ok (.aload_n 0, 1) := by decide +kernel
theorem d_X12_pour_98 : decode (D_X12_pour).2.1 98 = .ok (.getfield 24, 3) := by decide +kernel
theorem d_X12_pour_101 : decode (D_X12_pour).2.1 101 = .ok (.iload_n 3, 1) := by decide +kernel
theorem d_X12_pour_102 : decode (D_X12_pour).2.1 102 = .ok (.iaload, 1) := by decide +kernel
theorem d_X12_pour_103 : decode (D_X12_pour).2.1 103 = .ok (.iload 4, 2) := by decide +kernel
theorem d_X12_pour_105 : decode (D_X12_pour).2.1 105 = .ok (.isub, 1) := by decide +kernel
theorem d_X12_pour_106 : decode (D_X12_pour).2.1 106 = .ok (.if_icmp .le 9, 3) := by decide +kernel
theorem d_X12_pour_109 : decode (D_X12_pour).2.1 109 = .ok (.aload_n 0, 1) := by decide +kernel
theorem d_X12_pour_110 : decode (D_X12_pour).2.1 110 = .ok (.iconst 3, 1) := by decide +kernel
theorem d_X12_pour_111 : decode (D_X12_pour).2.1 111 = .ok (.invokevirtual 94, 3) := by decide +kernel
theorem d_X12_pour_114 : decode (D_X12_pour).2.1 114 = .ok (.ireturn, 1) := by decide +kernel
theorem d_X12_pour_115 : decode (D_X12_pour).2.1 115 = .ok (.iconst 0, 1) := by decide +kernel
theorem d_X12_pour_116 : decode (D_X12_pour).2.1 116 = .ok (.istore 6, 2) := by decide +kernel
theorem d_X12_pour_118 : decode (D_X12_pour).2.1 118 = .ok (.iload 6, 2) := by decide +kernel
theorem d_X12_pour_120 : decode (D_X12_pour).2.1 120 = .ok (.iload 5, 2) := by decide +kernel
theorem d_X12_pour_122 : decode (D_X12_pour).2.1 122 = .ok (.if_icmp .ge 58, 3) := by decide +kernel
theorem d_X12_pour_125 : decode (D_X12_pour).2.1 125 = .ok (.iload_n 2, 1) := by decide +kernel
theorem d_X12_pour_126 : decode (D_X12_pour).2.1 126 = .ok (.iload 4, 2) := by decide +kernel
theorem d_X12_pour_128 : decode (D_X12_pour).2.1 128 = .ok (.if_icmp .ge 13, 3) := by decide +kernel
theorem d_X12_pour_131 : decode (D_X12_pour).2.1 131 = .ok (.iload 5, 2) := by decide +kernel
theorem d_X12_pour_133 : decode (D_X12_pour).2.1 133 = .ok (.iconst 1, 1) := by decide +kernel
theorem d_X12_pour_134 : decode (D_X12_pour).2.1 134 = .ok (.isub, 1) := by decide +kernel
theorem d_X12_pour_135 : decode (D_X12_pour).2.1 135 = .ok (.iload 6, 2) := by decide +kernel
theorem d_X12_pour_137 : decode (D_X12_pour).2.1 137 = .ok (.isub, 1) := by decide +kernel
theorem d_X12_pour_138 : decode (D_X12_pour).2.1 138 = .ok (.goto 5, 3) := by decide +kernel
theorem d_X12_pour_141 : decode (D_X12_pour).2.1 141 = .ok (.iload 6, 2) := by decide +kernel
theorem d_X12_pour_143 : decode (D_X12_pour).2.1 143 = .ok (.istore 7, 2) := by decide +kernel
theorem d_X12_pour_145 : decode (D_X12_pour).2.1 145 = .ok (.aload_n 0, 1) := by decide +kernel
theorem d_X12_pour_146 : decode (D_X12_pour).2.1 146 = .ok (.getfield 27, 3) := by decide +kernel
theorem d_X12_pour_149 : decode (D_X12_pour).2.1 149 = .ok (.bipush 60, 2) := by decide +kernel
theorem d_X12_pour_151 : decode (D_X12_pour).2.1 151 = .ok (.iload_n 3, 1) := by decide +kernel
theorem d_X12_pour_152 : decode (D_X12_pour).2.1 152 = .ok (.imul, 1) := by decide +kernel
theorem d_X12_pour_153 : decode (D_X12_pour).2.1 153 = .ok (.iload 4, 2) := by decide +kernel
theorem d_X12_pour_155 : decode (D_X12_pour).2.1 155 = .ok (.iadd, 1) := by decide +kernel
theorem d_X12_pour_156 : decode (D_X12_pour).2.1 156 = .ok (.iload 7, 2) := by decide +kernel
theorem d_X12_pour_158 : decode (D_X12_pour).2.1 158 = .ok (.iadd, 1) := by decide +kernel
theorem d_X12_pour_159 : decode (D_X12_pour).2.1 159 = .ok (.aload_n 0, 1) := by decide +kernel
theorem d_X12_pour_160 : decode (D_X12_pour).2.1 160 = .ok (.getfield 27, 3) := by decide +kernel
theorem d_X12_pour_163 : decode (D_X12_pour).2.1 163 = .ok (.bipush 60, 2) := by decide +kernel
theorem d_X12_pour_165 : decode (D_X12_pour).2.1 165 = .ok (.iload_n 1, 1) := by decide +kernel
theorem d_X12_pour_166 : decode (D_X12_pour).2.1 166 = .ok (.imul, 1) := by decide +kernel
theorem d_X12_pour_167 : decode (D_X12_pour).2.1 167 = .ok (.iload_n 2, 1) := by decide +kernel
theorem d_X12_pour_168 : decode (D_X12_pour).2.1 168 = .ok (.iadd, 1) := by decide +kernel
theorem d_X12_pour_169 : decode (D_X12_pour).2.1 169 = .ok (.iload 7, 2) := by decide +kernel
theorem d_X12_pour_171 : decode (D_X12_pour).2.1 171 = .ok (.iadd, 1) := by decide +kernel
theorem d_X12_pour_172 : decode (D_X12_pour).2.1 172 = .ok (.laload, 1) := by decide +kernel
theorem d_X12_pour_173 : decode (D_X12_pour).2.1 173 = .ok (.lastore, 1) := by decide +kernel
theorem d_X12_pour_174 : decode (D_X12_pour).2.1 174 = .ok (.iinc 6 1, 3) := by decide +kernel
theorem d_X12_pour_177 : decode (D_X12_pour).2.1 177 = .ok (.goto (-59), 3) := by decide +kernel
theorem d_X12_pour_180 : decode (D_X12_pour).2.1 180 = .ok (.aload_n 0, 1) := by decide +kernel
theorem d_X12_pour_181 : decode (D_X12_pour).2.1 181 = .ok (.iconst 0, 1) := by decide +kernel
theorem d_X12_pour_182 : decode (D_X12_pour).2.1 182 = .ok (.invokevirtual 94, 3) := by decide +kernel
theorem d_X12_pour_185 : decode (D_X12_pour).2.1 185 = .ok (.ireturn, 1) := by decide +kernel
def f_X12_pour_L28 (n : Nat) (M : JMem) : Option (Int × JMem) := bnd (f_X12_is n 1 M) fun r1 M2 => chk (jw r1 = 0 ∨ jw r1 = 1) (some (r1, M2))
set_option maxRecDepth 4000 in
theorem t_X12_pour_L28 {g : JG} {ad : Nat → Nat} (hs : jStr g ad) (n : Nat) (M : JMem) : jB g D_X12_pour ad 28 [some (.ref 167), none, none, none, none, none, none, none] [] M (f_X12_pour_L28 n M) := by
  unfold f_X12_pour_L28
  refine jo_aload 0 d_X12_pour_28 rfl rfl ?_
  refine jo_iconst 1 d_X12_pour_29 ?_
  refine jo_callV (st := []) (m_X12_is hs n 1 M) ok_X12_is (And.intro (Nat.le_of_ble_eq_true rfl) (Nat.le_of_ble_eq_true rfl)) lm_X12_94 in_X12_is se_X12_is rfl kc_167 rfl rfl (And.intro (Nat.zero_le _) (Nat.zero_le _)) rfl (Nat.le_of_ble_eq_true rfl) d_X12_pour_30 (fun r1 M2 => ?_)
  exact jo_zretq rfl d_X12_pour_33
def f_X12_pour_L54 (n : Nat) (M : JMem) : Option (Int × JMem) := bnd (f_X12_is n 2 M) fun r1 M2 => chk (jw r1 = 0 ∨ jw r1 = 1) (some (r1, M2))
set_option maxRecDepth 4000 in
theorem t_X12_pour_L54 {g : JG} {ad : Nat → Nat} (hs : jStr g ad) (n : Nat) (M : JMem) : jB g D_X12_pour ad 54 [some (.ref 167), none, none, none, none, none, none, none] [] M (f_X12_pour_L54 n M) := by
  unfold f_X12_pour_L54
  refine jo_aload 0 d_X12_pour_54 rfl rfl ?_
  refine jo_iconst 2 d_X12_pour_55 ?_
  refine jo_callV (st := []) (m_X12_is hs n 2 M) ok_X12_is (And.intro (Nat.le_of_ble_eq_true rfl) (Nat.le_of_ble_eq_true rfl)) lm_X12_94 in_X12_is se_X12_is rfl kc_167 rfl rfl (And.intro (Nat.zero_le _) (Nat.zero_le _)) rfl (Nat.le_of_ble_eq_true rfl) d_X12_pour_56 (fun r1 M2 => ?_)
  exact jo_zretq rfl d_X12_pour_59
def f_X12_pour_L109 (n : Nat) (M : JMem) : Option (Int × JMem) := bnd (f_X12_is n 3 M) fun r1 M2 => chk (jw r1 = 0 ∨ jw r1 = 1) (some (r1, M2))
set_option maxRecDepth 4000 in
theorem t_X12_pour_L109 {g : JG} {ad : Nat → Nat} (hs : jStr g ad) (n : Nat) (M : JMem) : jB g D_X12_pour ad 109 [some (.ref 167), none, none, none, none, none, none, none] [] M (f_X12_pour_L109 n M) := by
  unfold f_X12_pour_L109
  refine jo_aload 0 d_X12_pour_109 rfl rfl ?_
  refine jo_iconst 3 d_X12_pour_110 ?_
  refine jo_callV (st := []) (m_X12_is hs n 3 M) ok_X12_is (And.intro (Nat.le_of_ble_eq_true rfl) (Nat.le_of_ble_eq_true rfl)) lm_X12_94 in_X12_is se_X12_is rfl kc_167 rfl rfl (And.intro (Nat.zero_le _) (Nat.zero_le _)) rfl (Nat.le_of_ble_eq_true rfl) d_X12_pour_111 (fun r1 M2 => ?_)
  exact jo_zretq rfl d_X12_pour_114
def f_X12_pour_L143 (n : Nat) (r118 : Int → Int → Int → Int → Int → Int → JMem → Option (Int × JMem)) (v1 v2 v3 v4 v5 v6 w0 : Int) (M : JMem) : Option (Int × JMem) := letv w0 fun y1 => chk (jin (((60 * v1) + v2) + y1) 240) <| chk (jin (((60 * v3) + v4) + y1) 240) <| letm (jup M 172 (jw (((60 * v3) + v4) + y1)).toNat (M 172 (jw (((60 * v1) + v2) + y1)).toNat)) fun M2 => letv (v6 + 1) fun y3 => r118 v1 v2 v3 v4 v5 y3 M2
set_option maxRecDepth 4000 in
theorem t_X12_pour_L143 {g : JG} {ad : Nat → Nat} (hs : jStr g ad) (n : Nat) (r118 : Int → Int → Int → Int → Int → Int → JMem → Option (Int × JMem)) (hr118 : ∀ (v1 v2 v3 v4 v5 v6 : Int) (M : JMem), jB g D_X12_pour ad 118 [some (.ref 167), some (ji v1), some (ji v2), some (ji v3), some (ji v4), some (ji v5), some (ji v6), none] [] M (r118 v1 v2 v3 v4 v5 v6 M)) (v1 v2 v3 v4 v5 v6 w0 : Int) (M : JMem) : jB g D_X12_pour ad 143 [some (.ref 167), some (ji v1), some (ji v2), some (ji v3), some (ji v4), some (ji v5), some (ji v6), none] [ji w0] M (f_X12_pour_L143 n r118 v1 v2 v3 v4 v5 v6 w0 M) := by
  unfold f_X12_pour_L143
  refine jo_istoreW 7 d_X12_pour_143 (Nat.le_of_ble_eq_true rfl) (fun y1 => ?_)
  refine jo_aload 0 d_X12_pour_145 rfl rfl ?_
  refine jo_getR (k := 7) cl_12 (Nat.le_of_ble_eq_true rfl) lk_X12_27 rfl kc_167 kr_167_7 d_X12_pour_146 ?_
  refine jo_bipush 60 d_X12_pour_149 (by decide) ?_
  refine jo_iload 3 d_X12_pour_151 rfl rfl ?_
  refine jo_imul d_X12_pour_152 ?_
  refine jo_iloadW 4 d_X12_pour_153 rfl ?_
  refine jo_iadd d_X12_pour_155 ?_
  refine jo_iloadW 7 d_X12_pour_156 rfl ?_
  refine jo_iadd d_X12_pour_158 ?_
  refine jo_aload 0 d_X12_pour_159 rfl rfl ?_
  refine jo_getR (k := 7) cl_12 (Nat.le_of_ble_eq_true rfl) lk_X12_27 rfl kc_167 kr_167_7 d_X12_pour_160 ?_
  refine jo_bipush 60 d_X12_pour_163 (by decide) ?_
  refine jo_iload 1 d_X12_pour_165 rfl rfl ?_
  refine jo_imul d_X12_pour_166 ?_
  refine jo_iload 2 d_X12_pour_167 rfl rfl ?_
  refine jo_iadd d_X12_pour_168 ?_
  refine jo_iloadW 7 d_X12_pour_169 rfl ?_
  refine jo_iadd d_X12_pour_171 ?_
  refine jo_lald (N := 240) kc_172 d_X12_pour_172 ?_
  refine jo_last (N := 240) kc_172 d_X12_pour_173 (fun M2 => ?_)
  refine jo_iinc 6 d_X12_pour_174 rfl (Nat.le_of_ble_eq_true rfl) (fun y3 => ?_)
  refine jo_goto 118 d_X12_pour_177 (by decide) ?_
  exact jO.sub (hr118 v1 v2 v3 v4 v5 y3 M2) (And.intro rfl (And.intro rfl (And.intro rfl (And.intro rfl (And.intro rfl (And.intro rfl (And.intro rfl True.intro)))))))
def f_X12_pour_L180 (n : Nat) (M : JMem) : Option (Int × JMem) := bnd (f_X12_is n 0 M) fun r1 M2 => chk (jw r1 = 0 ∨ jw r1 = 1) (some (r1, M2))
set_option maxRecDepth 4000 in
theorem t_X12_pour_L180 {g : JG} {ad : Nat → Nat} (hs : jStr g ad) (n : Nat) (M : JMem) : jB g D_X12_pour ad 180 [some (.ref 167), none, none, none, none, none, none, none] [] M (f_X12_pour_L180 n M) := by
  unfold f_X12_pour_L180
  refine jo_aload 0 d_X12_pour_180 rfl rfl ?_
  refine jo_iconst 0 d_X12_pour_181 ?_
  refine jo_callV (st := []) (m_X12_is hs n 0 M) ok_X12_is (And.intro (Nat.le_of_ble_eq_true rfl) (Nat.le_of_ble_eq_true rfl)) lm_X12_94 in_X12_is se_X12_is rfl kc_167 rfl rfl (And.intro (Nat.zero_le _) (Nat.zero_le _)) rfl (Nat.le_of_ble_eq_true rfl) d_X12_pour_182 (fun r1 M2 => ?_)
  exact jo_zretq rfl d_X12_pour_185
def f_X12_pour_L118 (n : Nat) : Nat → Int → Int → Int → Int → Int → Int → JMem → Option (Int × JMem)
  | 0, _, _, _, _, _, _, _ => none
  | k + 1, v1, v2, v3, v4, v5, v6, M => if jw v5 ≤ jw v6 then (f_X12_pour_L180 n M) else (if jw v4 ≤ jw v2 then (f_X12_pour_L143 n (f_X12_pour_L118 n k) v1 v2 v3 v4 v5 v6 v6 M) else (f_X12_pour_L143 n (f_X12_pour_L118 n k) v1 v2 v3 v4 v5 v6 ((v5 - 1) - v6) M))
set_option maxRecDepth 4000 in
theorem t_X12_pour_L118 {g : JG} {ad : Nat → Nat} (hs : jStr g ad) (n : Nat) : ∀ (k : Nat) (v1 v2 v3 v4 v5 v6 : Int) (M : JMem), jB g D_X12_pour ad 118 [some (.ref 167), some (ji v1), some (ji v2), some (ji v3), some (ji v4), some (ji v5), some (ji v6), none] [] M (f_X12_pour_L118 n k v1 v2 v3 v4 v5 v6 M) := by
  intro k
  induction k with
  | zero => intro v1 v2 v3 v4 v5 v6 M; exact jO.none
  | succ k ih =>
    intro v1 v2 v3 v4 v5 v6 M
    rw [f_X12_pour_L118]
    refine jo_iloadW 6 d_X12_pour_118 rfl ?_
    refine jo_iloadW 5 d_X12_pour_120 rfl ?_
    refine jo_icmp_ge 180 d_X12_pour_122 (by decide) ?_ ?_
    · skip
      exact jO.sub (t_X12_pour_L180 hs n M) (And.intro rfl True.intro)
    · skip
      refine jo_iload 2 d_X12_pour_125 rfl rfl ?_
      refine jo_iloadW 4 d_X12_pour_126 rfl ?_
      refine jo_icmp_ge 141 d_X12_pour_128 (by decide) ?_ ?_
      · skip
        refine jo_iloadW 6 d_X12_pour_141 rfl ?_
        exact jO.sub (t_X12_pour_L143 hs n (f_X12_pour_L118 n k) ih v1 v2 v3 v4 v5 v6 v6 M) (And.intro rfl (And.intro rfl (And.intro rfl (And.intro rfl (And.intro rfl (And.intro rfl (And.intro rfl True.intro)))))))
      · skip
        refine jo_iloadW 5 d_X12_pour_131 rfl ?_
        refine jo_iconst 1 d_X12_pour_133 ?_
        refine jo_isub d_X12_pour_134 ?_
        refine jo_iloadW 6 d_X12_pour_135 rfl ?_
        refine jo_isub d_X12_pour_137 ?_
        refine jo_goto 143 d_X12_pour_138 (by decide) ?_
        exact jO.sub (t_X12_pour_L143 hs n (f_X12_pour_L118 n k) ih v1 v2 v3 v4 v5 v6 ((v5 - 1) - v6) M) (And.intro rfl (And.intro rfl (And.intro rfl (And.intro rfl (And.intro rfl (And.intro rfl (And.intro rfl True.intro)))))))
def f_X12_pour (n : Nat) (x1 : Int) (x2 : Int) (x3 : Int) (x4 : Int) (x5 : Int) (M : JMem) : Option (Int × JMem) := bnd (f_X12_isTray n x1 M) fun r1 M2 => if jw r1 = 0 then (f_X12_pour_L28 n M2) else (bnd (f_X12_isTray n x3 M2) fun r3 M4 => if jw r3 = 0 then (f_X12_pour_L28 n M4) else (if jw x2 < 0 then (f_X12_pour_L28 n M4) else (if jw x4 < 0 then (f_X12_pour_L28 n M4) else (if 0 ≤ jw x5 then (chk (jin x1 4) <| if jw (M4 171 (jw x1).toNat) = jw (-1) then (f_X12_pour_L54 n M4) else (chk (jin x3 4) <| if jw (M4 171 (jw x3).toNat) = jw (-1) then (f_X12_pour_L54 n M4) else (chk (jin x1 4) <| chk (jin x3 4) <| if jw (M4 170 (jw x1).toNat) = jw (M4 170 (jw x3).toNat) then (chk (jin x1 4) <| if jw ((M4 171 (jw x1).toNat) - x2) < jw x5 then (f_X12_pour_L109 n M4) else (chk (jin x3 4) <| if jw x5 ≤ jw ((M4 171 (jw x3).toNat) - x4) then (letv 0 fun y5 => f_X12_pour_L118 n n x1 x2 x3 x4 x5 y5 M4) else (f_X12_pour_L109 n M4))) else (bnd (f_X12_is n 8 M4) fun r6 M7 => chk (jw r6 = 0 ∨ jw r6 = 1) (some (r6, M7)))))) else (f_X12_pour_L28 n M4)))))
set_option maxRecDepth 4000 in
theorem t_X12_pour {g : JG} {ad : Nat → Nat} (hs : jStr g ad) (n : Nat) (x1 : Int) (x2 : Int) (x3 : Int) (x4 : Int) (x5 : Int) (M : JMem) : jB g D_X12_pour ad 0 [some (.ref 167), some (ji x1), some (ji x2), some (ji x3), some (ji x4), some (ji x5), none, none] [] M (f_X12_pour n x1 x2 x3 x4 x5 M) := by
  unfold f_X12_pour
  refine jo_iload 1 d_X12_pour_0 rfl rfl ?_
  refine jo_callS (st := []) (m_X12_isTray hs n x1 M) ok_X12_isTray (And.intro (Nat.le_of_ble_eq_true rfl) (Nat.le_of_ble_eq_true rfl)) lm_X12_98 st_X12_isTray rfl (And.intro (Nat.zero_le _) (Nat.zero_le _)) rfl (Nat.le_of_ble_eq_true rfl) d_X12_pour_1 (fun r1 M2 => ?_)
  refine jo_if_eq 28 d_X12_pour_4 (by decide) ?_ ?_
  · skip
    exact jO.sub (t_X12_pour_L28 hs n M2) (And.intro rfl True.intro)
  · skip
    refine jo_iload 3 d_X12_pour_7 rfl rfl ?_
    refine jo_callS (st := []) (m_X12_isTray hs n x3 M2) ok_X12_isTray (And.intro (Nat.le_of_ble_eq_true rfl) (Nat.le_of_ble_eq_true rfl)) lm_X12_98 st_X12_isTray rfl (And.intro (Nat.zero_le _) (Nat.zero_le _)) rfl (Nat.le_of_ble_eq_true rfl) d_X12_pour_8 (fun r3 M4 => ?_)
    refine jo_if_eq 28 d_X12_pour_11 (by decide) ?_ ?_
    · skip
      exact jO.sub (t_X12_pour_L28 hs n M4) (And.intro rfl True.intro)
    · skip
      refine jo_iload 2 d_X12_pour_14 rfl rfl ?_
      refine jo_if_lt 28 d_X12_pour_15 (by decide) ?_ ?_
      · skip
        exact jO.sub (t_X12_pour_L28 hs n M4) (And.intro rfl True.intro)
      · skip
        refine jo_iloadW 4 d_X12_pour_18 rfl ?_
        refine jo_if_lt 28 d_X12_pour_20 (by decide) ?_ ?_
        · skip
          exact jO.sub (t_X12_pour_L28 hs n M4) (And.intro rfl True.intro)
        · skip
          refine jo_iloadW 5 d_X12_pour_23 rfl ?_
          refine jo_if_ge 34 d_X12_pour_25 (by decide) ?_ ?_
          · skip
            refine jo_aload 0 d_X12_pour_34 rfl rfl ?_
            refine jo_getR (k := 6) cl_12 (Nat.le_of_ble_eq_true rfl) lk_X12_24 rfl kc_167 kr_167_6 d_X12_pour_35 ?_
            refine jo_iload 1 d_X12_pour_38 rfl rfl ?_
            refine jo_iald (N := 4) kc_171 d_X12_pour_39 ?_
            refine jo_iconst (-1) d_X12_pour_40 ?_
            refine jo_icmp_eq 54 d_X12_pour_41 (by decide) ?_ ?_
            · skip
              exact jO.sub (t_X12_pour_L54 hs n M4) (And.intro rfl True.intro)
            · skip
              refine jo_aload 0 d_X12_pour_44 rfl rfl ?_
              refine jo_getR (k := 6) cl_12 (Nat.le_of_ble_eq_true rfl) lk_X12_24 rfl kc_167 kr_167_6 d_X12_pour_45 ?_
              refine jo_iload 3 d_X12_pour_48 rfl rfl ?_
              refine jo_iald (N := 4) kc_171 d_X12_pour_49 ?_
              refine jo_iconst (-1) d_X12_pour_50 ?_
              refine jo_icmp_ne 60 d_X12_pour_51 (by decide) ?_ ?_
              · skip
                refine jo_aload 0 d_X12_pour_60 rfl rfl ?_
                refine jo_getR (k := 5) cl_12 (Nat.le_of_ble_eq_true rfl) lk_X12_21 rfl kc_167 kr_167_5 d_X12_pour_61 ?_
                refine jo_iload 1 d_X12_pour_64 rfl rfl ?_
                refine jo_iald (N := 4) kc_170 d_X12_pour_65 ?_
                refine jo_aload 0 d_X12_pour_66 rfl rfl ?_
                refine jo_getR (k := 5) cl_12 (Nat.le_of_ble_eq_true rfl) lk_X12_21 rfl kc_167 kr_167_5 d_X12_pour_67 ?_
                refine jo_iload 3 d_X12_pour_70 rfl rfl ?_
                refine jo_iald (N := 4) kc_170 d_X12_pour_71 ?_
                refine jo_icmp_eq 82 d_X12_pour_72 (by decide) ?_ ?_
                · skip
                  refine jo_iloadW 5 d_X12_pour_82 rfl ?_
                  refine jo_aload 0 d_X12_pour_84 rfl rfl ?_
                  refine jo_getR (k := 6) cl_12 (Nat.le_of_ble_eq_true rfl) lk_X12_24 rfl kc_167 kr_167_6 d_X12_pour_85 ?_
                  refine jo_iload 1 d_X12_pour_88 rfl rfl ?_
                  refine jo_iald (N := 4) kc_171 d_X12_pour_89 ?_
                  refine jo_iload 2 d_X12_pour_90 rfl rfl ?_
                  refine jo_isub d_X12_pour_91 ?_
                  refine jo_icmp_gt 109 d_X12_pour_92 (by decide) ?_ ?_
                  · skip
                    exact jO.sub (t_X12_pour_L109 hs n M4) (And.intro rfl True.intro)
                  · skip
                    refine jo_iloadW 5 d_X12_pour_95 rfl ?_
                    refine jo_aload 0 d_X12_pour_97 rfl rfl ?_
                    refine jo_getR (k := 6) cl_12 (Nat.le_of_ble_eq_true rfl) lk_X12_24 rfl kc_167 kr_167_6 d_X12_pour_98 ?_
                    refine jo_iload 3 d_X12_pour_101 rfl rfl ?_
                    refine jo_iald (N := 4) kc_171 d_X12_pour_102 ?_
                    refine jo_iloadW 4 d_X12_pour_103 rfl ?_
                    refine jo_isub d_X12_pour_105 ?_
                    refine jo_icmp_le 115 d_X12_pour_106 (by decide) ?_ ?_
                    · skip
                      refine jo_iconst 0 d_X12_pour_115 ?_
                      refine jo_istoreW 6 d_X12_pour_116 (Nat.le_of_ble_eq_true rfl) (fun y5 => ?_)
                      exact jO.sub (t_X12_pour_L118 hs n n x1 x2 x3 x4 x5 y5 M4) (And.intro rfl (And.intro rfl (And.intro rfl (And.intro rfl (And.intro rfl (And.intro rfl (And.intro rfl True.intro)))))))
                    · skip
                      exact jO.sub (t_X12_pour_L109 hs n M4) (And.intro rfl True.intro)
                · skip
                  refine jo_aload 0 d_X12_pour_75 rfl rfl ?_
                  refine jo_bipush 8 d_X12_pour_76 (by decide) ?_
                  refine jo_callV (st := []) (m_X12_is hs n 8 M4) ok_X12_is (And.intro (Nat.le_of_ble_eq_true rfl) (Nat.le_of_ble_eq_true rfl)) lm_X12_94 in_X12_is se_X12_is rfl kc_167 rfl rfl (And.intro (Nat.zero_le _) (Nat.zero_le _)) rfl (Nat.le_of_ble_eq_true rfl) d_X12_pour_78 (fun r6 M7 => ?_)
                  exact jo_zretq rfl d_X12_pour_81
              · skip
                exact jO.sub (t_X12_pour_L54 hs n M4) (And.intro rfl True.intro)
          · skip
            exact jO.sub (t_X12_pour_L28 hs n M4) (And.intro rfl True.intro)
theorem m_X12_pour {g : JG} {ad : Nat → Nat} (hs : jStr g ad) (n : Nat) (x1 : Int) (x2 : Int) (x3 : Int) (x4 : Int) (x5 : Int) (M : JMem) : jMet g jNN ad jR D_X12_pour yX12_pour [.ref 167, ji x1, ji x2, ji x3, ji x4, ji x5] M (f_X12_pour n x1 x2 x3 x4 x5 M) :=
  jMet.of (lo0 := [some (.ref 167), some (ji x1), some (ji x2), some (ji x3), some (ji x4), some (ji x5), none, none]) (by decide) rfl rfl (Nat.le_of_ble_eq_true rfl) (And.intro rfl (And.intro rfl (And.intro rfl (And.intro rfl (And.intro rfl (And.intro rfl True.intro)))))) (t_X12_pour hs n x1 x2 x3 x4 x5 M)
/-! CageLeaveModel.reach()I -/
def D_X12_reach : JD := (RX12, cX12_reach, 1, some .int, "reach", { frames := 4, cells := 0, slots := 0, locals := 91 })
theorem ok_X12_reach : jOk D_X12_reach yX12_reach 0 := ⟨jTW_mem (k := 1955) (by decide +kernel) rfl, jTW_mem (k := 151) (by decide +kernel) rfl, ⟨by decide +kernel, by decide +kernel⟩, by decide +kernel, rfl, rfl⟩
theorem in_X12_reach : Cond.instanceMethod yX12_reach ∈ jTW := jTW_mem (k := 1953) (by decide +kernel) rfl
theorem se_X12_reach : Cond.selects yX12_reach.cls yX12_reach yX12_reach ∈ jTW := jTW_mem (k := 1954) (by decide +kernel) rfl
theorem d_X12_reach_0 : decode (D_X12_reach).2.1 0 = .ok (.aload_n 0, 1) := by decide +kernel
theorem d_X12_reach_1 : decode (D_X12_reach).2.1 1 = .ok (.getfield 7, 3) := by decide +kernel
theorem d_X12_reach_4 : decode (D_X12_reach).2.1 4 = .ok (.iconst 0, 1) := by decide +kernel
theorem d_X12_reach_5 : decode (D_X12_reach).2.1 5 = .ok (.iaload, 1) := by decide +kernel
theorem d_X12_reach_6 : decode (D_X12_reach).2.1 6 = .ok (.ifCond .ne 12, 3) := by decide +kernel
theorem d_X12_reach_9 : decode (D_X12_reach).2.1 9 = .ok (.aload_n 0, 1) := by decide +kernel
theorem d_X12_reach_10 : decode (D_X12_reach).2.1 10 = .ok (.bipush 6, 2) := by decide +kernel
theorem d_X12_reach_12 : decode (D_X12_reach).2.1 12 = .ok (.invokevirtual 87, 3) := by decide +kernel
theorem d_X12_reach_15 : decode (D_X12_reach).2.1 15 = .ok (.goto 15, 3) := by decide +kernel
theorem d_X12_reach_18 : decode (D_X12_reach).2.1 18 = .ok (.aload_n 0, 1) := by decide +kernel
theorem d_X12_reach_19 : decode (D_X12_reach).2.1 19 = .ok (.aload_n 0, 1) := by decide +kernel
theorem d_X12_reach_20 : decode (D_X12_reach).2.1 20 = .ok (.aload_n 0, 1) := by decide +kernel
theorem d_X12_reach_21 : decode (D_X12_reach).2.1 21 = .ok (.invokevirtual 379, 3) := by decide +kernel
theorem d_X12_reach_24 : decode (D_X12_reach).2.1 24 = .ok (.invokevirtual 390, 3) := by decide +kernel
theorem d_X12_reach_27 : decode (D_X12_reach).2.1 27 = .ok (.invokevirtual 91, 3) := by decide +kernel
theorem d_X12_reach_30 : decode (D_X12_reach).2.1 30 = .ok (.ireturn, 1) := by decide +kernel
def f_X12_reach (n : Nat) (M : JMem) : Option (Int × JMem) := chk (jin 0 3160) <| if jw (M 168 (jw 0).toNat) = 0 then (bnd (f_X12_refuse n 6 M) fun r7 M8 => some (r7, M8)) else (bnd (f_X12_going n M) fun r1 M2 => bnd (f_X12_reachBy n r1 M2) fun r3 M4 => bnd (f_X12_gives n r3 M4) fun r5 M6 => some (r5, M6))
set_option maxRecDepth 4000 in
theorem t_X12_reach {g : JG} {ad : Nat → Nat} (hs : jStr g ad) (n : Nat) (M : JMem) : jB g D_X12_reach ad 0 [some (.ref 167)] [] M (f_X12_reach n M) := by
  unfold f_X12_reach
  refine jo_aload 0 d_X12_reach_0 rfl rfl ?_
  refine jo_getR (k := 0) cl_12 (Nat.le_of_ble_eq_true rfl) lk_X12_7 rfl kc_167 kr_167_0 d_X12_reach_1 ?_
  refine jo_iconst 0 d_X12_reach_4 ?_
  refine jo_iald (N := 3160) kc_168 d_X12_reach_5 ?_
  refine jo_if_ne 18 d_X12_reach_6 (by decide) ?_ ?_
  · skip
    refine jo_aload 0 d_X12_reach_18 rfl rfl ?_
    refine jo_aload 0 d_X12_reach_19 rfl rfl ?_
    refine jo_aload 0 d_X12_reach_20 rfl rfl ?_
    refine jo_callV (st := [.ref 167, .ref 167]) (m_X12_going hs n M) ok_X12_going (And.intro (Nat.le_of_ble_eq_true rfl) (Nat.le_of_ble_eq_true rfl)) lm_X12_379 in_X12_going se_X12_going rfl kc_167 rfl rfl (And.intro (Nat.zero_le _) (Nat.zero_le _)) rfl (Nat.le_of_ble_eq_true rfl) d_X12_reach_21 (fun r1 M2 => ?_)
    refine jo_callV (st := [.ref 167]) (m_X12_reachBy hs n r1 M2) ok_X12_reachBy (And.intro (Nat.le_of_ble_eq_true rfl) (Nat.le_of_ble_eq_true rfl)) lm_X12_390 in_X12_reachBy se_X12_reachBy rfl kc_167 rfl rfl (And.intro (Nat.zero_le _) (Nat.zero_le _)) rfl (Nat.le_of_ble_eq_true rfl) d_X12_reach_24 (fun r3 M4 => ?_)
    refine jo_callV (st := []) (m_X12_gives hs n r3 M4) ok_X12_gives (And.intro (Nat.le_of_ble_eq_true rfl) (Nat.le_of_ble_eq_true rfl)) lm_X12_91 in_X12_gives se_X12_gives rfl kc_167 rfl rfl (And.intro (Nat.zero_le _) (Nat.zero_le _)) rfl (Nat.le_of_ble_eq_true rfl) d_X12_reach_27 (fun r5 M6 => ?_)
    exact jo_iret rfl d_X12_reach_30
  · skip
    refine jo_aload 0 d_X12_reach_9 rfl rfl ?_
    refine jo_bipush 6 d_X12_reach_10 (by decide) ?_
    refine jo_callV (st := []) (m_X12_refuse hs n 6 M) ok_X12_refuse (And.intro (Nat.le_of_ble_eq_true rfl) (Nat.le_of_ble_eq_true rfl)) lm_X12_87 in_X12_refuse se_X12_refuse rfl kc_167 rfl rfl (And.intro (Nat.zero_le _) (Nat.zero_le _)) rfl (Nat.le_of_ble_eq_true rfl) d_X12_reach_12 (fun r7 M8 => ?_)
    refine jo_goto 30 d_X12_reach_15 (by decide) ?_
    exact jo_iret rfl d_X12_reach_30
theorem m_X12_reach {g : JG} {ad : Nat → Nat} (hs : jStr g ad) (n : Nat) (M : JMem) : jMet g jNN ad jR D_X12_reach yX12_reach [.ref 167] M (f_X12_reach n M) :=
  jMet.of (lo0 := [some (.ref 167)]) (by decide) rfl rfl (Nat.le_of_ble_eq_true rfl) (And.intro rfl True.intro) (t_X12_reach hs n M)
/-! CageLeaveModel.wrongPlace(II)I -/
def D_X12_wrongPlace : JD := (RX12, cX12_wrongPlace, 3, some .int, "wrongPlace", { frames := 1, cells := 0, slots := 0, locals := 20 })
theorem ok_X12_wrongPlace : jOk D_X12_wrongPlace yX12_wrongPlace 2 := ⟨jTW_mem (k := 1524) (by decide +kernel) rfl, jTW_mem (k := 151) (by decide +kernel) rfl, ⟨by decide +kernel, by decide +kernel⟩, by decide +kernel, rfl, rfl⟩
theorem in_X12_wrongPlace : Cond.instanceMethod yX12_wrongPlace ∈ jTW := jTW_mem (k := 1523) (by decide +kernel) rfl
theorem se_X12_wrongPlace : Cond.selects yX12_wrongPlace.cls yX12_wrongPlace yX12_wrongPlace ∈ jTW := jTW_mem (k := 50) (by decide +kernel) rfl
theorem d_X12_wrongPlace_0 : decode (D_X12_wrongPlace).2.1 0 = .ok (.iload_n 1, 1) := by decide +kernel
theorem d_X12_wrongPlace_1 : decode (D_X12_wrongPlace).2.1 1 = .ok (.invokestatic 98, 3) := by decide +kernel
theorem d_X12_wrongPlace_4 : decode (D_X12_wrongPlace).2.1 4 = .ok (.ifCond .ne 7, 3) := by decide +kernel
theorem d_X12_wrongPlace_7 : decode (D_X12_wrongPlace).2.1 7 = .ok (.iconst 1, 1) := by decide +kernel
theorem d_X12_wrongPlace_8 : decode (D_X12_wrongPlace).2.1 8 = .ok (.goto 36, 3) := by decide +kernel
theorem d_X12_wrongPlace_11 : decode (D_X12_wrongPlace).2.1 11 = .ok (.aload_n 0, 1) := by decide +kernel
theorem d_X12_wrongPlace_12 : decode (D_X12_wrongPlace).2.1 12 = .ok (.getfield 24, 3) := by decide +kernel
theorem d_X12_wrongPlace_15 : decode (D_X12_wrongPlace).2.1 15 = .ok (.iload_n 1, 1) := by decide +kernel
theorem d_X12_wrongPlace_16 : decode (D_X12_wrongPlace).2.1 16 = .ok (.iaload, 1) := by decide +kernel
theorem d_X12_wrongPlace_17 : decode (D_X12_wrongPlace).2.1 17 = .ok (.iconst (-1), 1) := by decide +kernel
theorem d_X12_wrongPlace_18 : decode (D_X12_wrongPlace).2.1 18 = .ok (.if_icmp .ne 7, 3) := by decide +kernel
theorem d_X12_wrongPlace_21 : decode (D_X12_wrongPlace).2.1 21 = .ok (.iconst 2, 1) := by decide +kernel
theorem d_X12_wrongPlace_22 : decode (D_X12_wrongPlace).2.1 22 = .ok (.goto 22, 3) := by decide +kernel
theorem d_X12_wrongPlace_25 : decode (D_X12_wrongPlace).2.1 25 = .ok (.iload_n 2, 1) := by decide +kernel
theorem d_X12_wrongPlace_26 : decode (D_X12_wrongPlace).2.1 26 = .ok (.ifCond .lt 13, 3) := by decide +kernel
theorem d_X12_wrongPlace_29 : decode (D_X12_wrongPlace).2.1 29 = .ok (.iload_n 2, 1) := by decide +kernel
theorem d_X12_wrongPlace_30 : decode (D_X12_wrongPlace).2.1 30 = .ok (.aload_n 0, 1) := by decide +kernel
theorem d_X12_wrongPlace_31 : decode (D_X12_wrongPlace).2.1 31 = .ok (.getfield 24, 3) := by decide +kernel
theorem d_X12_wrongPlace_34 : decode (D_X12_wrongPlace).2.1 34 = .ok (.iload_n 1, 1) := by decide +kernel
theorem d_X12_wrongPlace_35 : decode (D_X12_wrongPlace).2.1 35 = .ok (.iaload, 1) := by decide +kernel
theorem d_X12_wrongPlace_36 : decode (D_X12_wrongPlace).2.1 36 = .ok (.if_icmp .lt 7, 3) := by decide +kernel
theorem d_X12_wrongPlace_39 : decode (D_X12_wrongPlace).2.1 39 = .ok (.iconst 3, 1) := by decide +kernel
theorem d_X12_wrongPlace_40 : decode (D_X12_wrongPlace).2.1 40 = .ok (.goto 4, 3) := by decide +kernel
theorem d_X12_wrongPlace_43 : decode (D_X12_wrongPlace).2.1 43 = .ok (.iconst 0, 1) := by decide +kernel
theorem d_X12_wrongPlace_44 : decode (D_X12_wrongPlace).2.1 44 = .ok (.ireturn, 1) := by decide +kernel
def f_X12_wrongPlace (n : Nat) (x1 : Int) (x2 : Int) (M : JMem) : Option (Int × JMem) := bnd (f_X12_isTray n x1 M) fun r1 M2 => if jw r1 = 0 then (some (1, M2)) else (chk (jin x1 4) <| if jw (M2 171 (jw x1).toNat) = jw (-1) then (some (2, M2)) else (if jw x2 < 0 then (some (3, M2)) else (chk (jin x1 4) <| if jw x2 < jw (M2 171 (jw x1).toNat) then (some (0, M2)) else (some (3, M2)))))
set_option maxRecDepth 4000 in
theorem t_X12_wrongPlace {g : JG} {ad : Nat → Nat} (hs : jStr g ad) (n : Nat) (x1 : Int) (x2 : Int) (M : JMem) : jB g D_X12_wrongPlace ad 0 [some (.ref 167), some (ji x1), some (ji x2)] [] M (f_X12_wrongPlace n x1 x2 M) := by
  unfold f_X12_wrongPlace
  refine jo_iload 1 d_X12_wrongPlace_0 rfl rfl ?_
  refine jo_callS (st := []) (m_X12_isTray hs n x1 M) ok_X12_isTray (And.intro (Nat.le_of_ble_eq_true rfl) (Nat.le_of_ble_eq_true rfl)) lm_X12_98 st_X12_isTray rfl (And.intro (Nat.zero_le _) (Nat.zero_le _)) rfl (Nat.le_of_ble_eq_true rfl) d_X12_wrongPlace_1 (fun r1 M2 => ?_)
  refine jo_if_ne 11 d_X12_wrongPlace_4 (by decide) ?_ ?_
  · skip
    refine jo_aload 0 d_X12_wrongPlace_11 rfl rfl ?_
    refine jo_getR (k := 6) cl_12 (Nat.le_of_ble_eq_true rfl) lk_X12_24 rfl kc_167 kr_167_6 d_X12_wrongPlace_12 ?_
    refine jo_iload 1 d_X12_wrongPlace_15 rfl rfl ?_
    refine jo_iald (N := 4) kc_171 d_X12_wrongPlace_16 ?_
    refine jo_iconst (-1) d_X12_wrongPlace_17 ?_
    refine jo_icmp_ne 25 d_X12_wrongPlace_18 (by decide) ?_ ?_
    · skip
      refine jo_iload 2 d_X12_wrongPlace_25 rfl rfl ?_
      refine jo_if_lt 39 d_X12_wrongPlace_26 (by decide) ?_ ?_
      · skip
        refine jo_iconst 3 d_X12_wrongPlace_39 ?_
        refine jo_goto 44 d_X12_wrongPlace_40 (by decide) ?_
        exact jo_iret rfl d_X12_wrongPlace_44
      · skip
        refine jo_iload 2 d_X12_wrongPlace_29 rfl rfl ?_
        refine jo_aload 0 d_X12_wrongPlace_30 rfl rfl ?_
        refine jo_getR (k := 6) cl_12 (Nat.le_of_ble_eq_true rfl) lk_X12_24 rfl kc_167 kr_167_6 d_X12_wrongPlace_31 ?_
        refine jo_iload 1 d_X12_wrongPlace_34 rfl rfl ?_
        refine jo_iald (N := 4) kc_171 d_X12_wrongPlace_35 ?_
        refine jo_icmp_lt 43 d_X12_wrongPlace_36 (by decide) ?_ ?_
        · skip
          refine jo_iconst 0 d_X12_wrongPlace_43 ?_
          exact jo_iret rfl d_X12_wrongPlace_44
        · skip
          refine jo_iconst 3 d_X12_wrongPlace_39 ?_
          refine jo_goto 44 d_X12_wrongPlace_40 (by decide) ?_
          exact jo_iret rfl d_X12_wrongPlace_44
    · skip
      refine jo_iconst 2 d_X12_wrongPlace_21 ?_
      refine jo_goto 44 d_X12_wrongPlace_22 (by decide) ?_
      exact jo_iret rfl d_X12_wrongPlace_44
  · skip
    refine jo_iconst 1 d_X12_wrongPlace_7 ?_
    refine jo_goto 44 d_X12_wrongPlace_8 (by decide) ?_
    exact jo_iret rfl d_X12_wrongPlace_44
theorem m_X12_wrongPlace {g : JG} {ad : Nat → Nat} (hs : jStr g ad) (n : Nat) (x1 : Int) (x2 : Int) (M : JMem) : jMet g jNN ad jR D_X12_wrongPlace yX12_wrongPlace [.ref 167, ji x1, ji x2] M (f_X12_wrongPlace n x1 x2 M) :=
  jMet.of (lo0 := [some (.ref 167), some (ji x1), some (ji x2)]) (by decide) rfl rfl (Nat.le_of_ble_eq_true rfl) (And.intro rfl (And.intro rfl (And.intro rfl True.intro))) (t_X12_wrongPlace hs n x1 x2 M)
/-! CageLeaveModel.read(II)J -/
def D_X12_read : JD := (RX12, cX12_read, 3, some .long, "read", { frames := 2, cells := 0, slots := 0, locals := 42 })
theorem ok_X12_read : jOk D_X12_read yX12_read 2 := ⟨jTW_mem (k := 1531) (by decide +kernel) rfl, jTW_mem (k := 151) (by decide +kernel) rfl, ⟨by decide +kernel, by decide +kernel⟩, by decide +kernel, rfl, rfl⟩
theorem in_X12_read : Cond.instanceMethod yX12_read ∈ jTW := jTW_mem (k := 1529) (by decide +kernel) rfl
theorem se_X12_read : Cond.selects yX12_read.cls yX12_read yX12_read ∈ jTW := jTW_mem (k := 1530) (by decide +kernel) rfl
theorem lm_X12_101 : Cond.methodLink RX12 101 yX12_wrongPlace ∈ jTW := jTW_mem (k := 1521) (by decide +kernel) rfl
theorem lc_X12_109 : Cond.constantLong RX12 109 (Int64.ofInt (-1)) ∈ jTW := jTW_mem (k := 1532) (by decide +kernel) rfl
theorem d_X12_read_0 : decode (D_X12_read).2.1 0 = .ok (.aload_n 0, 1) := by decide +kernel
theorem d_X12_read_1 : decode (D_X12_read).2.1 1 = .ok (.aload_n 0, 1) := by decide +kernel
theorem d_X12_read_2 : decode (D_X12_read).2.1 2 = .ok (.iload_n 1, 1) := by decide +kernel
theorem d_X12_read_3 : decode (D_X12_read).2.1 3 = .ok (.iload_n 2, 1) := by decide +kernel
theorem d_X12_read_4 : decode (D_X12_read).2.1 4 = .ok (.invokevirtual 101, 3) := by decide +kernel
theorem d_X12_read_7 : decode (D_X12_read).2.1 7 = .ok (.putfield 81, 3) := by decide +kernel
theorem d_X12_read_10 : decode (D_X12_read).2.1 10 = .ok (.aload_n 0, 1) := by decide +kernel
theorem d_X12_read_11 : decode (D_X12_read).2.1 11 = .ok (.getfield 81, 3) := by decide +kernel
theorem d_X12_read_14 : decode (D_X12_read).2.1 14 = .ok (.ifCond .le 9, 3) := by decide +kernel
theorem d_X12_read_17 : decode (D_X12_read).2.1 17 = .ok (.ldc2_w 109, 3) := by decide +kernel
theorem d_X12_read_20 : decode (D_X12_read).2.1 20 = .ok (.goto 14, 3) := by decide +kernel
theorem d_X12_read_23 : decode (D_X12_read).2.1 23 = .ok (.aload_n 0, 1) := by decide +kernel
theorem d_X12_read_24 : decode (D_X12_read).2.1 24 = .ok (.getfield 27, 3) := by decide +kernel
theorem d_X12_read_27 : decode (D_X12_read).2.1 27 = .ok (.bipush 60, 2) := by decide +kernel
theorem d_X12_read_29 : decode (D_X12_read).2.1 29 = .ok (.iload_n 1, 1) := by decide +kernel
theorem d_X12_read_30 : decode (D_X12_read).2.1 30 = .ok (.imul, 1) := by decide +kernel
theorem d_X12_read_31 : decode (D_X12_read).2.1 31 = .ok (.iload_n 2, 1) := by decide +kernel
theorem d_X12_read_32 : decode (D_X12_read).2.1 32 = .ok (.iadd, 1) := by decide +kernel
theorem d_X12_read_33 : decode (D_X12_read).2.1 33 = .ok (.laload, 1) := by decide +kernel
theorem d_X12_read_34 : decode (D_X12_read).2.1 34 = .ok (.lreturn, 1) := by decide +kernel
def f_X12_read (n : Nat) (x1 : Int) (x2 : Int) (M : JMem) : Option (Int × JMem) := bnd (f_X12_wrongPlace n x1 x2 M) fun r1 M2 => letm (jup M2 167 2 r1) fun M3 => if jw (M3 167 2) ≤ 0 then (chk (jin ((60 * x1) + x2) 240) <| some ((M3 172 (jw ((60 * x1) + x2)).toNat), M3)) else (some ((-1), M3))
set_option maxRecDepth 4000 in
theorem t_X12_read {g : JG} {ad : Nat → Nat} (hs : jStr g ad) (n : Nat) (x1 : Int) (x2 : Int) (M : JMem) : jB g D_X12_read ad 0 [some (.ref 167), some (ji x1), some (ji x2)] [] M (f_X12_read n x1 x2 M) := by
  unfold f_X12_read
  refine jo_aload 0 d_X12_read_0 rfl rfl ?_
  refine jo_aload 0 d_X12_read_1 rfl rfl ?_
  refine jo_iload 1 d_X12_read_2 rfl rfl ?_
  refine jo_iload 2 d_X12_read_3 rfl rfl ?_
  refine jo_callV (st := [.ref 167]) (m_X12_wrongPlace hs n x1 x2 M) ok_X12_wrongPlace (And.intro (Nat.le_of_ble_eq_true rfl) (Nat.le_of_ble_eq_true rfl)) lm_X12_101 in_X12_wrongPlace se_X12_wrongPlace rfl kc_167 rfl rfl (And.intro (Nat.zero_le _) (Nat.zero_le _)) rfl (Nat.le_of_ble_eq_true rfl) d_X12_read_4 (fun r1 M2 => ?_)
  refine jo_putI (k := 2) cl_12 (Nat.le_of_ble_eq_true rfl) lk_X12_81 rfl rfl kc_167 d_X12_read_7 (fun M3 => ?_)
  refine jo_aload 0 d_X12_read_10 rfl rfl ?_
  refine jo_getI (k := 2) cl_12 (Nat.le_of_ble_eq_true rfl) lk_X12_81 (Or.inl rfl) kc_167 d_X12_read_11 ?_
  refine jo_if_le 23 d_X12_read_14 (by decide) ?_ ?_
  · skip
    refine jo_aload 0 d_X12_read_23 rfl rfl ?_
    refine jo_getR (k := 7) cl_12 (Nat.le_of_ble_eq_true rfl) lk_X12_27 rfl kc_167 kr_167_7 d_X12_read_24 ?_
    refine jo_bipush 60 d_X12_read_27 (by decide) ?_
    refine jo_iload 1 d_X12_read_29 rfl rfl ?_
    refine jo_imul d_X12_read_30 ?_
    refine jo_iload 2 d_X12_read_31 rfl rfl ?_
    refine jo_iadd d_X12_read_32 ?_
    refine jo_lald (N := 240) kc_172 d_X12_read_33 ?_
    exact jo_lret rfl d_X12_read_34
  · skip
    refine jo_ldc2 (-1) lc_X12_109 d_X12_read_17 ?_
    refine jo_goto 34 d_X12_read_20 (by decide) ?_
    exact jo_lret rfl d_X12_read_34
theorem m_X12_read {g : JG} {ad : Nat → Nat} (hs : jStr g ad) (n : Nat) (x1 : Int) (x2 : Int) (M : JMem) : jMet g jNN ad jR D_X12_read yX12_read [.ref 167, ji x1, ji x2] M (f_X12_read n x1 x2 M) :=
  jMet.of (lo0 := [some (.ref 167), some (ji x1), some (ji x2)]) (by decide) rfl rfl (Nat.le_of_ble_eq_true rfl) (And.intro rfl (And.intro rfl (And.intro rfl True.intro))) (t_X12_read hs n x1 x2 M)
/-! CageLeaveModel.roomsOf(II)I -/
def D_X12_roomsOf : JD := (RX12, cX12_roomsOf, 5, some .int, "roomsOf", { frames := 3, cells := 0, slots := 0, locals := 66 })
theorem ok_X12_roomsOf : jOk D_X12_roomsOf yX12_roomsOf 2 := ⟨jTW_mem (k := 1997) (by decide +kernel) rfl, jTW_mem (k := 151) (by decide +kernel) rfl, ⟨by decide +kernel, by decide +kernel⟩, by decide +kernel, rfl, rfl⟩
theorem in_X12_roomsOf : Cond.instanceMethod yX12_roomsOf ∈ jTW := jTW_mem (k := 1996) (by decide +kernel) rfl
theorem se_X12_roomsOf : Cond.selects yX12_roomsOf.cls yX12_roomsOf yX12_roomsOf ∈ jTW := jTW_mem (k := 119) (by decide +kernel) rfl
theorem lk_X12_62 : Cond.fieldLink RX12 62 (TX12 30).1 (TX12 30).2.1 (TX12 30).2.2.1 ∈ jTW := jTW_mem (k := 1406) (by decide +kernel) rfl
theorem lm_X12_402 : Cond.methodLink RX12 402 yX12_isRoom ∈ jTW := jTW_mem (k := 1998) (by decide +kernel) rfl
theorem d_X12_roomsOf_0 : decode (D_X12_roomsOf).2.1 0 = .ok (.iconst 0, 1) := by decide +kernel
theorem d_X12_roomsOf_1 : decode (D_X12_roomsOf).2.1 1 = .ok (.istore_n 3, 1) := by decide +kernel
theorem d_X12_roomsOf_2 : decode (D_X12_roomsOf).2.1 2 = .ok (.iload_n 3, 1) := by decide +kernel
theorem d_X12_roomsOf_3 : decode (D_X12_roomsOf).2.1 3 = .ok (.iload_n 1, 1) := by decide +kernel
theorem d_X12_roomsOf_4 : decode (D_X12_roomsOf).2.1 4 = .ok (.if_icmp .gt 83, 3) := by decide +kernel
theorem d_X12_roomsOf_7 : decode (D_X12_roomsOf).2.1 7 = .ok (.aload_n 0, 1) := by decide +kernel
theorem d_X12_roomsOf_8 : decode (D_X12_roomsOf).2.1 8 = .ok (.getfield 62, 3) := by decide +kernel
theorem d_X12_roomsOf_11 : decode (D_X12_roomsOf).2.1 11 = .ok (.iload_n 3, 1) := by decide +kernel
theorem d_X12_roomsOf_12 : decode (D_X12_roomsOf).2.1 12 = .ok (.iload_n 3, 1) := by decide +kernel
theorem d_X12_roomsOf_13 : decode (D_X12_roomsOf).2.1 13 = .ok (.ifCond .ne 7, 3) := by decide +kernel
theorem d_X12_roomsOf_16 : decode (D_X12_roomsOf).2.1 16 = .ok (.iconst 0, 1) := by decide +kernel
theorem d_X12_roomsOf_17 : decode (D_X12_roomsOf).2.1 17 = .ok (.goto 6, 3) := by decide +kernel
theorem d_X12_roomsOf_20 : decode (D_X12_roomsOf).2.1 20 = .ok (.ldc_w 375, 3) := by decide +kernel
theorem d_X12_roomsOf_23 : decode (D_X12_roomsOf).2.1 23 = .ok (.iastore, 1) := by decide +kernel
theorem d_X12_roomsOf_24 : decode (D_X12_roomsOf).2.1 24 = .ok (.iload_n 3, 1) := by decide +kernel
theorem d_X12_roomsOf_25 : decode (D_X12_roomsOf).2.1 25 = .ok (.istore 4, 2) := by decide +kernel
theorem d_X12_roomsOf_27 : decode (D_X12_roomsOf).2.1 27 = .ok (.iload 4, 2) := by decide +kernel
theorem d_X12_roomsOf_29 : decode (D_X12_roomsOf).2.1 29 = .ok (.ifCond .le 52, 3) := by decide +kernel
theorem d_X12_roomsOf_32 : decode (D_X12_roomsOf).2.1 32 = .ok (.aload_n 0, 1) := by decide +kernel
theorem d_X12_roomsOf_33 : decode (D_X12_roomsOf).2.1 33 = .ok (.iload 4, 2) := by decide +kernel
theorem d_X12_roomsOf_35 : decode (D_X12_roomsOf).2.1 35 = .ok (.iload_n 2, 1) := by decide +kernel
theorem d_X12_roomsOf_36 : decode (D_X12_roomsOf).2.1 36 = .ok (.invokevirtual 402, 3) := by decide +kernel
theorem d_X12_roomsOf_39 : decode (D_X12_roomsOf).2.1 39 = .ok (.ifCond .eq 31, 3) := by decide +kernel
theorem d_X12_roomsOf_42 : decode (D_X12_roomsOf).2.1 42 = .ok (.aload_n 0, 1) := by decide +kernel
theorem d_X12_roomsOf_43 : decode (D_X12_roomsOf).2.1 43 = .ok (.getfield 62, 3) := by decide +kernel
theorem d_X12_roomsOf_46 : decode (D_X12_roomsOf).2.1 46 = .ok (.iload_n 3, 1) := by decide +kernel
theorem d_X12_roomsOf_47 : decode (D_X12_roomsOf).2.1 47 = .ok (.aload_n 0, 1) := by decide +kernel
theorem d_X12_roomsOf_48 : decode (D_X12_roomsOf).2.1 48 = .ok (.getfield 62, 3) := by decide +kernel
theorem d_X12_roomsOf_51 : decode (D_X12_roomsOf).2.1 51 = .ok (.iload_n 3, 1) := by decide +kernel
theorem d_X12_roomsOf_52 : decode (D_X12_roomsOf).2.1 52 = .ok (.iaload, 1) := by decide +kernel
theorem d_X12_roomsOf_53 : decode (D_X12_roomsOf).2.1 53 = .ok (.iconst 1, 1) := by decide +kernel
theorem d_X12_roomsOf_54 : decode (D_X12_roomsOf).2.1 54 = .ok (.aload_n 0, 1) := by decide +kernel
theorem d_X12_roomsOf_55 : decode (D_X12_roomsOf).2.1 55 = .ok (.getfield 62, 3) := by decide +kernel
theorem d_X12_roomsOf_58 : decode (D_X12_roomsOf).2.1 58 = .ok (.iload_n 3, 1) := by decide +kernel
theorem d_X12_roomsOf_59 : decode (D_X12_roomsOf).2.1 59 = .ok (.iload 4, 2) := by decide +kernel
theorem d_X12_roomsOf_61 : decode (D_X12_roomsOf).2.1 61 = .ok (.iconst (-1), 1) := by decide +kernel
theorem d_X12_roomsOf_62 : decode (D_X12_roomsOf).2.1 62 = .ok (.ixor, 1) := by decide +kernel
theorem d_X12_roomsOf_63 : decode (D_X12_roomsOf).2.1 63 = .ok (.iand, 1) := by decide +kernel
theorem d_X12_roomsOf_64 : decode (D_X12_roomsOf).2.1 64 = .ok (.iaload, 1) := by decide +kernel
theorem d_X12_roomsOf_65 : decode (D_X12_roomsOf).2.1 65 = .ok (.iadd, 1) := by decide +kernel
theorem d_X12_roomsOf_66 : decode (D_X12_roomsOf).2.1 66 = .ok (.invokestatic 142, 3) := by decide +kernel
theorem d_X12_roomsOf_69 : decode (D_X12_roomsOf).2.1 69 = .ok (.iastore, 1) := by decide +kernel
theorem d_X12_roomsOf_70 : decode (D_X12_roomsOf).2.1 70 = .ok (.iload 4, 2) := by decide +kernel
theorem d_X12_roomsOf_72 : decode (D_X12_roomsOf).2.1 72 = .ok (.iconst 1, 1) := by decide +kernel
theorem d_X12_roomsOf_73 : decode (D_X12_roomsOf).2.1 73 = .ok (.isub, 1) := by decide +kernel
theorem d_X12_roomsOf_74 : decode (D_X12_roomsOf).2.1 74 = .ok (.iload_n 3, 1) := by decide +kernel
theorem d_X12_roomsOf_75 : decode (D_X12_roomsOf).2.1 75 = .ok (.iand, 1) := by decide +kernel
theorem d_X12_roomsOf_76 : decode (D_X12_roomsOf).2.1 76 = .ok (.istore 4, 2) := by decide +kernel
theorem d_X12_roomsOf_78 : decode (D_X12_roomsOf).2.1 78 = .ok (.goto (-51), 3) := by decide +kernel
theorem d_X12_roomsOf_81 : decode (D_X12_roomsOf).2.1 81 = .ok (.iinc 3 1, 3) := by decide +kernel
theorem d_X12_roomsOf_84 : decode (D_X12_roomsOf).2.1 84 = .ok (.goto (-82), 3) := by decide +kernel
theorem d_X12_roomsOf_87 : decode (D_X12_roomsOf).2.1 87 = .ok (.aload_n 0, 1) := by decide +kernel
theorem d_X12_roomsOf_88 : decode (D_X12_roomsOf).2.1 88 = .ok (.getfield 62, 3) := by decide +kernel
theorem d_X12_roomsOf_91 : decode (D_X12_roomsOf).2.1 91 = .ok (.iload_n 1, 1) := by decide +kernel
theorem d_X12_roomsOf_92 : decode (D_X12_roomsOf).2.1 92 = .ok (.iaload, 1) := by decide +kernel
theorem d_X12_roomsOf_93 : decode (D_X12_roomsOf).2.1 93 = .ok (.ireturn, 1) := by decide +kernel
def f_X12_roomsOf_L70 (n : Nat) (r2 : Int → Int → Int → JMem → Option (Int × JMem)) (r27 : Int → Int → Int → Int → JMem → Option (Int × JMem)) (v1 v2 v3 v4 : Int) (M : JMem) : Option (Int × JMem) := letv (jand (v4 - 1) v3) fun y1 => r27 v1 v2 v3 y1 M
set_option maxRecDepth 4000 in
theorem t_X12_roomsOf_L70 {g : JG} {ad : Nat → Nat} (hs : jStr g ad) (n : Nat) (r2 : Int → Int → Int → JMem → Option (Int × JMem)) (r27 : Int → Int → Int → Int → JMem → Option (Int × JMem)) (hr2 : ∀ (v1 v2 v3 : Int) (M : JMem), jB g D_X12_roomsOf ad 2 [some (.ref 167), some (ji v1), some (ji v2), some (ji v3), none] [] M (r2 v1 v2 v3 M)) (hr27 : ∀ (v1 v2 v3 v4 : Int) (M : JMem), jB g D_X12_roomsOf ad 27 [some (.ref 167), some (ji v1), some (ji v2), some (ji v3), some (ji v4)] [] M (r27 v1 v2 v3 v4 M)) (v1 v2 v3 v4 : Int) (M : JMem) : jB g D_X12_roomsOf ad 70 [some (.ref 167), some (ji v1), some (ji v2), some (ji v3), some (ji v4)] [] M (f_X12_roomsOf_L70 n r2 r27 v1 v2 v3 v4 M) := by
  unfold f_X12_roomsOf_L70
  refine jo_iloadW 4 d_X12_roomsOf_70 rfl ?_
  refine jo_iconst 1 d_X12_roomsOf_72 ?_
  refine jo_isub d_X12_roomsOf_73 ?_
  refine jo_iload 3 d_X12_roomsOf_74 rfl rfl ?_
  refine jo_iand d_X12_roomsOf_75 ?_
  refine jo_istoreW 4 d_X12_roomsOf_76 (Nat.le_of_ble_eq_true rfl) (fun y1 => ?_)
  refine jo_goto 27 d_X12_roomsOf_78 (by decide) ?_
  exact jO.sub (hr27 v1 v2 v3 y1 M) (And.intro rfl (And.intro rfl (And.intro rfl (And.intro rfl (And.intro rfl True.intro)))))
def f_X12_roomsOf_L81 (n : Nat) (r2 : Int → Int → Int → JMem → Option (Int × JMem)) (v1 v2 v3 : Int) (M : JMem) : Option (Int × JMem) := letv (v3 + 1) fun y1 => r2 v1 v2 y1 M
set_option maxRecDepth 4000 in
theorem t_X12_roomsOf_L81 {g : JG} {ad : Nat → Nat} (hs : jStr g ad) (n : Nat) (r2 : Int → Int → Int → JMem → Option (Int × JMem)) (hr2 : ∀ (v1 v2 v3 : Int) (M : JMem), jB g D_X12_roomsOf ad 2 [some (.ref 167), some (ji v1), some (ji v2), some (ji v3), none] [] M (r2 v1 v2 v3 M)) (v1 v2 v3 : Int) (M : JMem) : jB g D_X12_roomsOf ad 81 [some (.ref 167), some (ji v1), some (ji v2), some (ji v3), none] [] M (f_X12_roomsOf_L81 n r2 v1 v2 v3 M) := by
  unfold f_X12_roomsOf_L81
  refine jo_iinc 3 d_X12_roomsOf_81 rfl (Nat.le_of_ble_eq_true rfl) (fun y1 => ?_)
  refine jo_goto 2 d_X12_roomsOf_84 (by decide) ?_
  exact jO.sub (hr2 v1 v2 y1 M) (And.intro rfl (And.intro rfl (And.intro rfl (And.intro rfl True.intro))))
def f_X12_roomsOf_L27 (n : Nat) (r2 : Int → Int → Int → JMem → Option (Int × JMem)) : Nat → Int → Int → Int → Int → JMem → Option (Int × JMem)
  | 0, _, _, _, _, _ => none
  | k + 1, v1, v2, v3, v4, M => if jw v4 ≤ 0 then (f_X12_roomsOf_L81 n r2 v1 v2 v3 M) else (bnd (f_X12_isRoom n v4 v2 M) fun r1 M2 => if jw r1 = 0 then (f_X12_roomsOf_L70 n r2 (f_X12_roomsOf_L27 n r2 k) v1 v2 v3 v4 M2) else (chk (jin v3 256) <| chk (jin (jand v3 (jxor v4 (-1))) 256) <| chk (jin v3 256) <| letm (jup M2 181 (jw v3).toNat (jmin (M2 181 (jw v3).toNat) (1 + (M2 181 (jw (jand v3 (jxor v4 (-1)))).toNat)))) fun M3 => f_X12_roomsOf_L70 n r2 (f_X12_roomsOf_L27 n r2 k) v1 v2 v3 v4 M3))
set_option maxRecDepth 4000 in
theorem t_X12_roomsOf_L27 {g : JG} {ad : Nat → Nat} (hs : jStr g ad) (n : Nat) (r2 : Int → Int → Int → JMem → Option (Int × JMem)) (hr2 : ∀ (v1 v2 v3 : Int) (M : JMem), jB g D_X12_roomsOf ad 2 [some (.ref 167), some (ji v1), some (ji v2), some (ji v3), none] [] M (r2 v1 v2 v3 M)) : ∀ (k : Nat) (v1 v2 v3 v4 : Int) (M : JMem), jB g D_X12_roomsOf ad 27 [some (.ref 167), some (ji v1), some (ji v2), some (ji v3), some (ji v4)] [] M (f_X12_roomsOf_L27 n r2 k v1 v2 v3 v4 M) := by
  intro k
  induction k with
  | zero => intro v1 v2 v3 v4 M; exact jO.none
  | succ k ih =>
    intro v1 v2 v3 v4 M
    rw [f_X12_roomsOf_L27]
    refine jo_iloadW 4 d_X12_roomsOf_27 rfl ?_
    refine jo_if_le 81 d_X12_roomsOf_29 (by decide) ?_ ?_
    · skip
      exact jO.sub (t_X12_roomsOf_L81 hs n r2 hr2 v1 v2 v3 M) (And.intro rfl (And.intro rfl (And.intro rfl (And.intro rfl True.intro))))
    · skip
      refine jo_aload 0 d_X12_roomsOf_32 rfl rfl ?_
      refine jo_iloadW 4 d_X12_roomsOf_33 rfl ?_
      refine jo_iload 2 d_X12_roomsOf_35 rfl rfl ?_
      refine jo_callV (st := []) (m_X12_isRoom hs n v4 v2 M) ok_X12_isRoom (And.intro (Nat.le_of_ble_eq_true rfl) (Nat.le_of_ble_eq_true rfl)) lm_X12_402 in_X12_isRoom se_X12_isRoom rfl kc_167 rfl rfl (And.intro (Nat.zero_le _) (Nat.zero_le _)) rfl (Nat.le_of_ble_eq_true rfl) d_X12_roomsOf_36 (fun r1 M2 => ?_)
      refine jo_if_eq 70 d_X12_roomsOf_39 (by decide) ?_ ?_
      · skip
        exact jO.sub (t_X12_roomsOf_L70 hs n r2 (f_X12_roomsOf_L27 n r2 k) hr2 ih v1 v2 v3 v4 M2) (And.intro rfl (And.intro rfl (And.intro rfl (And.intro rfl (And.intro rfl True.intro)))))
      · skip
        refine jo_aload 0 d_X12_roomsOf_42 rfl rfl ?_
        refine jo_getR (k := 30) cl_12 (Nat.le_of_ble_eq_true rfl) lk_X12_62 rfl kc_167 kr_167_30 d_X12_roomsOf_43 ?_
        refine jo_iload 3 d_X12_roomsOf_46 rfl rfl ?_
        refine jo_aload 0 d_X12_roomsOf_47 rfl rfl ?_
        refine jo_getR (k := 30) cl_12 (Nat.le_of_ble_eq_true rfl) lk_X12_62 rfl kc_167 kr_167_30 d_X12_roomsOf_48 ?_
        refine jo_iload 3 d_X12_roomsOf_51 rfl rfl ?_
        refine jo_iald (N := 256) kc_181 d_X12_roomsOf_52 ?_
        refine jo_iconst 1 d_X12_roomsOf_53 ?_
        refine jo_aload 0 d_X12_roomsOf_54 rfl rfl ?_
        refine jo_getR (k := 30) cl_12 (Nat.le_of_ble_eq_true rfl) lk_X12_62 rfl kc_167 kr_167_30 d_X12_roomsOf_55 ?_
        refine jo_iload 3 d_X12_roomsOf_58 rfl rfl ?_
        refine jo_iloadW 4 d_X12_roomsOf_59 rfl ?_
        refine jo_iconst (-1) d_X12_roomsOf_61 ?_
        refine jo_ixor d_X12_roomsOf_62 ?_
        refine jo_iand d_X12_roomsOf_63 ?_
        refine jo_iald (N := 256) kc_181 d_X12_roomsOf_64 ?_
        refine jo_iadd d_X12_roomsOf_65 ?_
        refine jo_mmin lm_X12_142 (Nat.le_of_ble_eq_true rfl) (Nat.le_of_ble_eq_true rfl) (And.intro (Nat.zero_le _) (Nat.zero_le _)) d_X12_roomsOf_66 ?_
        refine jo_iast (N := 256) kc_181 d_X12_roomsOf_69 (fun M3 => ?_)
        exact jO.sub (t_X12_roomsOf_L70 hs n r2 (f_X12_roomsOf_L27 n r2 k) hr2 ih v1 v2 v3 v4 M3) (And.intro rfl (And.intro rfl (And.intro rfl (And.intro rfl (And.intro rfl True.intro)))))
def f_X12_roomsOf_L23 (n : Nat) (r2 : Int → Int → Int → JMem → Option (Int × JMem)) (v1 v2 v3 w1 w2 : Int) (M : JMem) : Option (Int × JMem) := chk (jin w1 256) <| letm (jup M 181 (jw w1).toNat w2) fun M1 => letv v3 fun y2 => f_X12_roomsOf_L27 n r2 n v1 v2 v3 y2 M1
set_option maxRecDepth 4000 in
theorem t_X12_roomsOf_L23 {g : JG} {ad : Nat → Nat} (hs : jStr g ad) (n : Nat) (r2 : Int → Int → Int → JMem → Option (Int × JMem)) (hr2 : ∀ (v1 v2 v3 : Int) (M : JMem), jB g D_X12_roomsOf ad 2 [some (.ref 167), some (ji v1), some (ji v2), some (ji v3), none] [] M (r2 v1 v2 v3 M)) (v1 v2 v3 w1 w2 : Int) (M : JMem) : jB g D_X12_roomsOf ad 23 [some (.ref 167), some (ji v1), some (ji v2), some (ji v3), none] [ji w2, ji w1, .ref 181] M (f_X12_roomsOf_L23 n r2 v1 v2 v3 w1 w2 M) := by
  unfold f_X12_roomsOf_L23
  refine jo_iast (N := 256) kc_181 d_X12_roomsOf_23 (fun M1 => ?_)
  refine jo_iload 3 d_X12_roomsOf_24 rfl rfl ?_
  refine jo_istoreW 4 d_X12_roomsOf_25 (Nat.le_of_ble_eq_true rfl) (fun y2 => ?_)
  exact jO.sub (t_X12_roomsOf_L27 hs n r2 hr2 n v1 v2 v3 y2 M1) (And.intro rfl (And.intro rfl (And.intro rfl (And.intro rfl (And.intro rfl True.intro)))))
def f_X12_roomsOf_L87 (n : Nat) (v1 : Int) (M : JMem) : Option (Int × JMem) := chk (jin v1 256) <| some ((M 181 (jw v1).toNat), M)
set_option maxRecDepth 4000 in
theorem t_X12_roomsOf_L87 {g : JG} {ad : Nat → Nat} (hs : jStr g ad) (n : Nat) (v1 : Int) (M : JMem) : jB g D_X12_roomsOf ad 87 [some (.ref 167), some (ji v1), none, none, none] [] M (f_X12_roomsOf_L87 n v1 M) := by
  unfold f_X12_roomsOf_L87
  refine jo_aload 0 d_X12_roomsOf_87 rfl rfl ?_
  refine jo_getR (k := 30) cl_12 (Nat.le_of_ble_eq_true rfl) lk_X12_62 rfl kc_167 kr_167_30 d_X12_roomsOf_88 ?_
  refine jo_iload 1 d_X12_roomsOf_91 rfl rfl ?_
  refine jo_iald (N := 256) kc_181 d_X12_roomsOf_92 ?_
  exact jo_iret rfl d_X12_roomsOf_93
def f_X12_roomsOf_L2 (n : Nat) : Nat → Int → Int → Int → JMem → Option (Int × JMem)
  | 0, _, _, _, _ => none
  | k + 1, v1, v2, v3, M => if jw v1 < jw v3 then (f_X12_roomsOf_L87 n v1 M) else (if jw v3 = 0 then (f_X12_roomsOf_L23 n (f_X12_roomsOf_L2 n k) v1 v2 v3 v3 0 M) else (f_X12_roomsOf_L23 n (f_X12_roomsOf_L2 n k) v1 v2 v3 v3 1000000 M))
set_option maxRecDepth 4000 in
theorem t_X12_roomsOf_L2 {g : JG} {ad : Nat → Nat} (hs : jStr g ad) (n : Nat) : ∀ (k : Nat) (v1 v2 v3 : Int) (M : JMem), jB g D_X12_roomsOf ad 2 [some (.ref 167), some (ji v1), some (ji v2), some (ji v3), none] [] M (f_X12_roomsOf_L2 n k v1 v2 v3 M) := by
  intro k
  induction k with
  | zero => intro v1 v2 v3 M; exact jO.none
  | succ k ih =>
    intro v1 v2 v3 M
    rw [f_X12_roomsOf_L2]
    refine jo_iload 3 d_X12_roomsOf_2 rfl rfl ?_
    refine jo_iload 1 d_X12_roomsOf_3 rfl rfl ?_
    refine jo_icmp_gt 87 d_X12_roomsOf_4 (by decide) ?_ ?_
    · skip
      exact jO.sub (t_X12_roomsOf_L87 hs n v1 M) (And.intro rfl (And.intro rfl True.intro))
    · skip
      refine jo_aload 0 d_X12_roomsOf_7 rfl rfl ?_
      refine jo_getR (k := 30) cl_12 (Nat.le_of_ble_eq_true rfl) lk_X12_62 rfl kc_167 kr_167_30 d_X12_roomsOf_8 ?_
      refine jo_iload 3 d_X12_roomsOf_11 rfl rfl ?_
      refine jo_iload 3 d_X12_roomsOf_12 rfl rfl ?_
      refine jo_if_ne 20 d_X12_roomsOf_13 (by decide) ?_ ?_
      · skip
        refine jo_ldcw 1000000 lc_X12_375 d_X12_roomsOf_20 ?_
        exact jO.sub (t_X12_roomsOf_L23 hs n (f_X12_roomsOf_L2 n k) ih v1 v2 v3 v3 1000000 M) (And.intro rfl (And.intro rfl (And.intro rfl (And.intro rfl True.intro))))
      · skip
        refine jo_iconst 0 d_X12_roomsOf_16 ?_
        refine jo_goto 23 d_X12_roomsOf_17 (by decide) ?_
        exact jO.sub (t_X12_roomsOf_L23 hs n (f_X12_roomsOf_L2 n k) ih v1 v2 v3 v3 0 M) (And.intro rfl (And.intro rfl (And.intro rfl (And.intro rfl True.intro))))
def f_X12_roomsOf (n : Nat) (x1 : Int) (x2 : Int) (M : JMem) : Option (Int × JMem) := letv 0 fun y1 => f_X12_roomsOf_L2 n n x1 x2 y1 M
set_option maxRecDepth 4000 in
theorem t_X12_roomsOf {g : JG} {ad : Nat → Nat} (hs : jStr g ad) (n : Nat) (x1 : Int) (x2 : Int) (M : JMem) : jB g D_X12_roomsOf ad 0 [some (.ref 167), some (ji x1), some (ji x2), none, none] [] M (f_X12_roomsOf n x1 x2 M) := by
  unfold f_X12_roomsOf
  refine jo_iconst 0 d_X12_roomsOf_0 ?_
  refine jo_istore 3 d_X12_roomsOf_1 rfl (Nat.le_of_ble_eq_true rfl) (fun y1 => ?_)
  exact jO.sub (t_X12_roomsOf_L2 hs n n x1 x2 y1 M) (And.intro rfl (And.intro rfl (And.intro rfl (And.intro rfl True.intro))))
theorem m_X12_roomsOf {g : JG} {ad : Nat → Nat} (hs : jStr g ad) (n : Nat) (x1 : Int) (x2 : Int) (M : JMem) : jMet g jNN ad jR D_X12_roomsOf yX12_roomsOf [.ref 167, ji x1, ji x2] M (f_X12_roomsOf n x1 x2 M) :=
  jMet.of (lo0 := [some (.ref 167), some (ji x1), some (ji x2), none, none]) (by decide) rfl rfl (Nat.le_of_ble_eq_true rfl) (And.intro rfl (And.intro rfl (And.intro rfl True.intro))) (t_X12_roomsOf hs n x1 x2 M)
/-! CageLeaveModel.roomSize(II)I -/
def D_X12_roomSize : JD := (RX12, cX12_roomSize, 4, some .int, "roomSize", { frames := 4, cells := 0, slots := 0, locals := 90 })
theorem ok_X12_roomSize : jOk D_X12_roomSize yX12_roomSize 2 := ⟨jTW_mem (k := 2005) (by decide +kernel) rfl, jTW_mem (k := 151) (by decide +kernel) rfl, ⟨by decide +kernel, by decide +kernel⟩, by decide +kernel, rfl, rfl⟩
theorem in_X12_roomSize : Cond.instanceMethod yX12_roomSize ∈ jTW := jTW_mem (k := 2003) (by decide +kernel) rfl
theorem se_X12_roomSize : Cond.selects yX12_roomSize.cls yX12_roomSize yX12_roomSize ∈ jTW := jTW_mem (k := 2004) (by decide +kernel) rfl
theorem lm_X12_407 : Cond.methodLink RX12 407 yX12_roomsOf ∈ jTW := jTW_mem (k := 1994) (by decide +kernel) rfl
theorem d_X12_roomSize_0 : decode (D_X12_roomSize).2.1 0 = .ok (.aload_n 0, 1) := by decide +kernel
theorem d_X12_roomSize_1 : decode (D_X12_roomSize).2.1 1 = .ok (.iload_n 1, 1) := by decide +kernel
theorem d_X12_roomSize_2 : decode (D_X12_roomSize).2.1 2 = .ok (.invokevirtual 366, 3) := by decide +kernel
theorem d_X12_roomSize_5 : decode (D_X12_roomSize).2.1 5 = .ok (.ifCond .eq 15, 3) := by decide +kernel
theorem d_X12_roomSize_8 : decode (D_X12_roomSize).2.1 8 = .ok (.iload_n 2, 1) := by decide +kernel
theorem d_X12_roomSize_9 : decode (D_X12_roomSize).2.1 9 = .ok (.i2l, 1) := by decide +kernel
theorem d_X12_roomSize_10 : decode (D_X12_roomSize).2.1 10 = .ok (.lconst 1, 1) := by decide +kernel
theorem d_X12_roomSize_11 : decode (D_X12_roomSize).2.1 11 = .ok (.ldc2_w 400, 3) := by decide +kernel
theorem d_X12_roomSize_14 : decode (D_X12_roomSize).2.1 14 = .ok (.invokestatic 266, 3) := by decide +kernel
theorem d_X12_roomSize_17 : decode (D_X12_roomSize).2.1 17 = .ok (.ifCond .ne 9, 3) := by decide +kernel
theorem d_X12_roomSize_20 : decode (D_X12_roomSize).2.1 20 = .ok (.aload_n 0, 1) := by decide +kernel
theorem d_X12_roomSize_21 : decode (D_X12_roomSize).2.1 21 = .ok (.iconst 1, 1) := by decide +kernel
theorem d_X12_roomSize_22 : decode (D_X12_roomSize).2.1 22 = .ok (.invokevirtual 87, 3) := by decide +kernel
theorem d_X12_roomSize_25 : decode (D_X12_roomSize).2.1 25 = .ok (.ireturn, 1) := by decide +kernel
theorem d_X12_roomSize_26 : decode (D_X12_roomSize).2.1 26 = .ok (.iconst 1, 1) := by decide +kernel
theorem d_X12_roomSize_27 : decode (D_X12_roomSize).2.1 27 = .ok (.istore_n 3, 1) := by decide +kernel
theorem d_X12_roomSize_28 : decode (D_X12_roomSize).2.1 28 = .ok (.iload_n 3, 1) := by decide +kernel
theorem d_X12_roomSize_29 : decode (D_X12_roomSize).2.1 29 = .ok (.bipush 72, 2) := by decide +kernel
theorem d_X12_roomSize_31 : decode (D_X12_roomSize).2.1 31 = .ok (.if_icmp .gt 25, 3) := by decide +kernel
theorem d_X12_roomSize_34 : decode (D_X12_roomSize).2.1 34 = .ok (.aload_n 0, 1) := by decide +kernel
theorem d_X12_roomSize_35 : decode (D_X12_roomSize).2.1 35 = .ok (.iload_n 1, 1) := by decide +kernel
theorem d_X12_roomSize_36 : decode (D_X12_roomSize).2.1 36 = .ok (.iload_n 3, 1) := by decide +kernel
theorem d_X12_roomSize_37 : decode (D_X12_roomSize).2.1 37 = .ok (.invokevirtual 407, 3) := by decide +kernel
theorem d_X12_roomSize_40 : decode (D_X12_roomSize).2.1 40 = .ok (.iload_n 2, 1) := by decide +kernel
theorem d_X12_roomSize_41 : decode (D_X12_roomSize).2.1 41 = .ok (.if_icmp .gt 9, 3) := by decide +kernel
theorem d_X12_roomSize_44 : decode (D_X12_roomSize).2.1 44 = .ok (.aload_n 0, 1) := by decide +kernel
theorem d_X12_roomSize_45 : decode (D_X12_roomSize).2.1 45 = .ok (.iload_n 3, 1) := by decide +kernel
theorem d_X12_roomSize_46 : decode (D_X12_roomSize).2.1 46 = .ok (.invokevirtual 91, 3) := by decide +kernel
theorem d_X12_roomSize_49 : decode (D_X12_roomSize).2.1 49 = .ok (.ireturn, 1) := by decide +kernel
theorem d_X12_roomSize_50 : decode (D_X12_roomSize).2.1 50 = .ok (.iinc 3 1, 3) := by decide +kernel
theorem d_X12_roomSize_53 : decode (D_X12_roomSize).2.1 53 = .ok (.goto (-25), 3) := by decide +kernel
theorem d_X12_roomSize_56 : decode (D_X12_roomSize).2.1 56 = .ok (.aload_n 0, 1) := by decide +kernel
theorem d_X12_roomSize_57 : decode (D_X12_roomSize).2.1 57 = .ok (.bipush 6, 2) := by decide +kernel
theorem d_X12_roomSize_59 : decode (D_X12_roomSize).2.1 59 = .ok (.invokevirtual 87, 3) := by decide +kernel
theorem d_X12_roomSize_62 : decode (D_X12_roomSize).2.1 62 = .ok (.ireturn, 1) := by decide +kernel
def f_X12_roomSize_L20 (n : Nat) (M : JMem) : Option (Int × JMem) := bnd (f_X12_refuse n 1 M) fun r1 M2 => some (r1, M2)
set_option maxRecDepth 4000 in
theorem t_X12_roomSize_L20 {g : JG} {ad : Nat → Nat} (hs : jStr g ad) (n : Nat) (M : JMem) : jB g D_X12_roomSize ad 20 [some (.ref 167), none, none, none] [] M (f_X12_roomSize_L20 n M) := by
  unfold f_X12_roomSize_L20
  refine jo_aload 0 d_X12_roomSize_20 rfl rfl ?_
  refine jo_iconst 1 d_X12_roomSize_21 ?_
  refine jo_callV (st := []) (m_X12_refuse hs n 1 M) ok_X12_refuse (And.intro (Nat.le_of_ble_eq_true rfl) (Nat.le_of_ble_eq_true rfl)) lm_X12_87 in_X12_refuse se_X12_refuse rfl kc_167 rfl rfl (And.intro (Nat.zero_le _) (Nat.zero_le _)) rfl (Nat.le_of_ble_eq_true rfl) d_X12_roomSize_22 (fun r1 M2 => ?_)
  exact jo_iret rfl d_X12_roomSize_25
def f_X12_roomSize_L44 (n : Nat) (v3 : Int) (M : JMem) : Option (Int × JMem) := bnd (f_X12_gives n v3 M) fun r1 M2 => some (r1, M2)
set_option maxRecDepth 4000 in
theorem t_X12_roomSize_L44 {g : JG} {ad : Nat → Nat} (hs : jStr g ad) (n : Nat) (v3 : Int) (M : JMem) : jB g D_X12_roomSize ad 44 [some (.ref 167), none, none, some (ji v3)] [] M (f_X12_roomSize_L44 n v3 M) := by
  unfold f_X12_roomSize_L44
  refine jo_aload 0 d_X12_roomSize_44 rfl rfl ?_
  refine jo_iload 3 d_X12_roomSize_45 rfl rfl ?_
  refine jo_callV (st := []) (m_X12_gives hs n v3 M) ok_X12_gives (And.intro (Nat.le_of_ble_eq_true rfl) (Nat.le_of_ble_eq_true rfl)) lm_X12_91 in_X12_gives se_X12_gives rfl kc_167 rfl rfl (And.intro (Nat.zero_le _) (Nat.zero_le _)) rfl (Nat.le_of_ble_eq_true rfl) d_X12_roomSize_46 (fun r1 M2 => ?_)
  exact jo_iret rfl d_X12_roomSize_49
def f_X12_roomSize_L56 (n : Nat) (M : JMem) : Option (Int × JMem) := bnd (f_X12_refuse n 6 M) fun r1 M2 => some (r1, M2)
set_option maxRecDepth 4000 in
theorem t_X12_roomSize_L56 {g : JG} {ad : Nat → Nat} (hs : jStr g ad) (n : Nat) (M : JMem) : jB g D_X12_roomSize ad 56 [some (.ref 167), none, none, none] [] M (f_X12_roomSize_L56 n M) := by
  unfold f_X12_roomSize_L56
  refine jo_aload 0 d_X12_roomSize_56 rfl rfl ?_
  refine jo_bipush 6 d_X12_roomSize_57 (by decide) ?_
  refine jo_callV (st := []) (m_X12_refuse hs n 6 M) ok_X12_refuse (And.intro (Nat.le_of_ble_eq_true rfl) (Nat.le_of_ble_eq_true rfl)) lm_X12_87 in_X12_refuse se_X12_refuse rfl kc_167 rfl rfl (And.intro (Nat.zero_le _) (Nat.zero_le _)) rfl (Nat.le_of_ble_eq_true rfl) d_X12_roomSize_59 (fun r1 M2 => ?_)
  exact jo_iret rfl d_X12_roomSize_62
def f_X12_roomSize_L28 (n : Nat) : Nat → Int → Int → Int → JMem → Option (Int × JMem)
  | 0, _, _, _, _ => none
  | k + 1, v1, v2, v3, M => if jw 72 < jw v3 then (f_X12_roomSize_L56 n M) else (bnd (f_X12_roomsOf n v1 v3 M) fun r1 M2 => if jw v2 < jw r1 then (letv (v3 + 1) fun y3 => (f_X12_roomSize_L28 n k) v1 v2 y3 M2) else (f_X12_roomSize_L44 n v3 M2))
set_option maxRecDepth 4000 in
theorem t_X12_roomSize_L28 {g : JG} {ad : Nat → Nat} (hs : jStr g ad) (n : Nat) : ∀ (k : Nat) (v1 v2 v3 : Int) (M : JMem), jB g D_X12_roomSize ad 28 [some (.ref 167), some (ji v1), some (ji v2), some (ji v3)] [] M (f_X12_roomSize_L28 n k v1 v2 v3 M) := by
  intro k
  induction k with
  | zero => intro v1 v2 v3 M; exact jO.none
  | succ k ih =>
    intro v1 v2 v3 M
    rw [f_X12_roomSize_L28]
    refine jo_iload 3 d_X12_roomSize_28 rfl rfl ?_
    refine jo_bipush 72 d_X12_roomSize_29 (by decide) ?_
    refine jo_icmp_gt 56 d_X12_roomSize_31 (by decide) ?_ ?_
    · skip
      exact jO.sub (t_X12_roomSize_L56 hs n M) (And.intro rfl True.intro)
    · skip
      refine jo_aload 0 d_X12_roomSize_34 rfl rfl ?_
      refine jo_iload 1 d_X12_roomSize_35 rfl rfl ?_
      refine jo_iload 3 d_X12_roomSize_36 rfl rfl ?_
      refine jo_callV (st := []) (m_X12_roomsOf hs n v1 v3 M) ok_X12_roomsOf (And.intro (Nat.le_of_ble_eq_true rfl) (Nat.le_of_ble_eq_true rfl)) lm_X12_407 in_X12_roomsOf se_X12_roomsOf rfl kc_167 rfl rfl (And.intro (Nat.zero_le _) (Nat.zero_le _)) rfl (Nat.le_of_ble_eq_true rfl) d_X12_roomSize_37 (fun r1 M2 => ?_)
      refine jo_iload 2 d_X12_roomSize_40 rfl rfl ?_
      refine jo_icmp_gt 50 d_X12_roomSize_41 (by decide) ?_ ?_
      · skip
        refine jo_iinc 3 d_X12_roomSize_50 rfl (Nat.le_of_ble_eq_true rfl) (fun y3 => ?_)
        refine jo_goto 28 d_X12_roomSize_53 (by decide) ?_
        exact jO.sub (ih v1 v2 y3 M2) (And.intro rfl (And.intro rfl (And.intro rfl (And.intro rfl True.intro))))
      · skip
        exact jO.sub (t_X12_roomSize_L44 hs n v3 M2) (And.intro rfl (And.intro rfl True.intro))
def f_X12_roomSize (n : Nat) (x1 : Int) (x2 : Int) (M : JMem) : Option (Int × JMem) := bnd (f_X12_areBeasts n x1 M) fun r1 M2 => if jw r1 = 0 then (f_X12_roomSize_L20 n M2) else (bnd (f_X12_isFrom n (jw x2) 1 8 M2) fun r3 M4 => if jw r3 = 0 then (f_X12_roomSize_L20 n M4) else (letv 1 fun y5 => f_X12_roomSize_L28 n n x1 x2 y5 M4))
set_option maxRecDepth 4000 in
theorem t_X12_roomSize {g : JG} {ad : Nat → Nat} (hs : jStr g ad) (n : Nat) (x1 : Int) (x2 : Int) (M : JMem) : jB g D_X12_roomSize ad 0 [some (.ref 167), some (ji x1), some (ji x2), none] [] M (f_X12_roomSize n x1 x2 M) := by
  unfold f_X12_roomSize
  refine jo_aload 0 d_X12_roomSize_0 rfl rfl ?_
  refine jo_iload 1 d_X12_roomSize_1 rfl rfl ?_
  refine jo_callV (st := []) (m_X12_areBeasts hs n x1 M) ok_X12_areBeasts (And.intro (Nat.le_of_ble_eq_true rfl) (Nat.le_of_ble_eq_true rfl)) lm_X12_366 in_X12_areBeasts se_X12_areBeasts rfl kc_167 rfl rfl (And.intro (Nat.zero_le _) (Nat.zero_le _)) rfl (Nat.le_of_ble_eq_true rfl) d_X12_roomSize_2 (fun r1 M2 => ?_)
  refine jo_if_eq 20 d_X12_roomSize_5 (by decide) ?_ ?_
  · skip
    exact jO.sub (t_X12_roomSize_L20 hs n M2) (And.intro rfl True.intro)
  · skip
    refine jo_iload 2 d_X12_roomSize_8 rfl rfl ?_
    refine jo_i2l d_X12_roomSize_9 ?_
    refine jo_lconst1 d_X12_roomSize_10 ?_
    refine jo_ldc2 8 lc_X12_400 d_X12_roomSize_11 ?_
    refine jo_callS (st := []) (m_X12_isFrom hs n (jw x2) 1 8 M2) ok_X12_isFrom (And.intro (Nat.le_of_ble_eq_true rfl) (Nat.le_of_ble_eq_true rfl)) lm_X12_266 st_X12_isFrom rfl (And.intro (Nat.zero_le _) (Nat.zero_le _)) rfl (Nat.le_of_ble_eq_true rfl) d_X12_roomSize_14 (fun r3 M4 => ?_)
    refine jo_if_ne 26 d_X12_roomSize_17 (by decide) ?_ ?_
    · skip
      refine jo_iconst 1 d_X12_roomSize_26 ?_
      refine jo_istore 3 d_X12_roomSize_27 rfl (Nat.le_of_ble_eq_true rfl) (fun y5 => ?_)
      exact jO.sub (t_X12_roomSize_L28 hs n n x1 x2 y5 M4) (And.intro rfl (And.intro rfl (And.intro rfl (And.intro rfl True.intro))))
    · skip
      exact jO.sub (t_X12_roomSize_L20 hs n M4) (And.intro rfl True.intro)
theorem m_X12_roomSize {g : JG} {ad : Nat → Nat} (hs : jStr g ad) (n : Nat) (x1 : Int) (x2 : Int) (M : JMem) : jMet g jNN ad jR D_X12_roomSize yX12_roomSize [.ref 167, ji x1, ji x2] M (f_X12_roomSize n x1 x2 M) :=
  jMet.of (lo0 := [some (.ref 167), some (ji x1), some (ji x2), none]) (by decide) rfl rfl (Nat.le_of_ble_eq_true rfl) (And.intro rfl (And.intro rfl (And.intro rfl True.intro))) (t_X12_roomSize hs n x1 x2 M)
/-! CageLeaveModel.rooms(II)I -/
def D_X12_rooms : JD := (RX12, cX12_rooms, 4, some .int, "rooms", { frames := 4, cells := 0, slots := 0, locals := 90 })
theorem ok_X12_rooms : jOk D_X12_rooms yX12_rooms 2 := ⟨jTW_mem (k := 1992) (by decide +kernel) rfl, jTW_mem (k := 151) (by decide +kernel) rfl, ⟨by decide +kernel, by decide +kernel⟩, by decide +kernel, rfl, rfl⟩
theorem in_X12_rooms : Cond.instanceMethod yX12_rooms ∈ jTW := jTW_mem (k := 1990) (by decide +kernel) rfl
theorem se_X12_rooms : Cond.selects yX12_rooms.cls yX12_rooms yX12_rooms ∈ jTW := jTW_mem (k := 1991) (by decide +kernel) rfl
theorem lc_X12_405 : Cond.constantLong RX12 405 (Int64.ofInt 72) ∈ jTW := jTW_mem (k := 1993) (by decide +kernel) rfl
theorem d_X12_rooms_0 : decode (D_X12_rooms).2.1 0 = .ok (.aload_n 0, 1) := by decide +kernel
theorem d_X12_rooms_1 : decode (D_X12_rooms).2.1 1 = .ok (.iload_n 1, 1) := by decide +kernel
theorem d_X12_rooms_2 : decode (D_X12_rooms).2.1 2 = .ok (.invokevirtual 366, 3) := by decide +kernel
theorem d_X12_rooms_5 : decode (D_X12_rooms).2.1 5 = .ok (.ifCond .eq 15, 3) := by decide +kernel
theorem d_X12_rooms_8 : decode (D_X12_rooms).2.1 8 = .ok (.iload_n 2, 1) := by decide +kernel
theorem d_X12_rooms_9 : decode (D_X12_rooms).2.1 9 = .ok (.i2l, 1) := by decide +kernel
theorem d_X12_rooms_10 : decode (D_X12_rooms).2.1 10 = .ok (.lconst 1, 1) := by decide +kernel
theorem d_X12_rooms_11 : decode (D_X12_rooms).2.1 11 = .ok (.ldc2_w 405, 3) := by decide +kernel
theorem d_X12_rooms_14 : decode (D_X12_rooms).2.1 14 = .ok (.invokestatic 266, 3) := by decide +kernel
theorem d_X12_rooms_17 : decode (D_X12_rooms).2.1 17 = .ok (.ifCond .ne 9, 3) := by decide +kernel
theorem d_X12_rooms_20 : decode (D_X12_rooms).2.1 20 = .ok (.aload_n 0, 1) := by decide +kernel
theorem d_X12_rooms_21 : decode (D_X12_rooms).2.1 21 = .ok (.iconst 1, 1) := by decide +kernel
theorem d_X12_rooms_22 : decode (D_X12_rooms).2.1 22 = .ok (.invokevirtual 87, 3) := by decide +kernel
theorem d_X12_rooms_25 : decode (D_X12_rooms).2.1 25 = .ok (.ireturn, 1) := by decide +kernel
theorem d_X12_rooms_26 : decode (D_X12_rooms).2.1 26 = .ok (.aload_n 0, 1) := by decide +kernel
theorem d_X12_rooms_27 : decode (D_X12_rooms).2.1 27 = .ok (.iload_n 1, 1) := by decide +kernel
theorem d_X12_rooms_28 : decode (D_X12_rooms).2.1 28 = .ok (.iload_n 2, 1) := by decide +kernel
theorem d_X12_rooms_29 : decode (D_X12_rooms).2.1 29 = .ok (.invokevirtual 407, 3) := by decide +kernel
theorem d_X12_rooms_32 : decode (D_X12_rooms).2.1 32 = .ok (.istore_n 3, 1) := by decide +kernel
theorem d_X12_rooms_33 : decode (D_X12_rooms).2.1 33 = .ok (.iload_n 3, 1) := by decide +kernel
theorem d_X12_rooms_34 : decode (D_X12_rooms).2.1 34 = .ok (.ldc_w 375, 3) := by decide +kernel
theorem d_X12_rooms_37 : decode (D_X12_rooms).2.1 37 = .ok (.if_icmp .lt 12, 3) := by decide +kernel
theorem d_X12_rooms_40 : decode (D_X12_rooms).2.1 40 = .ok (.aload_n 0, 1) := by decide +kernel
theorem d_X12_rooms_41 : decode (D_X12_rooms).2.1 41 = .ok (.bipush 6, 2) := by decide +kernel
theorem d_X12_rooms_43 : decode (D_X12_rooms).2.1 43 = .ok (.invokevirtual 87, 3) := by decide +kernel
theorem d_X12_rooms_46 : decode (D_X12_rooms).2.1 46 = .ok (.goto 8, 3) := by decide +kernel
theorem d_X12_rooms_49 : decode (D_X12_rooms).2.1 49 = .ok (.aload_n 0, 1) := by decide +kernel
theorem d_X12_rooms_50 : decode (D_X12_rooms).2.1 50 = .ok (.iload_n 3, 1) := by decide +kernel
theorem d_X12_rooms_51 : decode (D_X12_rooms).2.1 51 = .ok (.invokevirtual 91, 3) := by decide +kernel
theorem d_X12_rooms_54 : decode (D_X12_rooms).2.1 54 = .ok (.ireturn, 1) := by decide +kernel
def f_X12_rooms_L20 (n : Nat) (M : JMem) : Option (Int × JMem) := bnd (f_X12_refuse n 1 M) fun r1 M2 => some (r1, M2)
set_option maxRecDepth 4000 in
theorem t_X12_rooms_L20 {g : JG} {ad : Nat → Nat} (hs : jStr g ad) (n : Nat) (M : JMem) : jB g D_X12_rooms ad 20 [some (.ref 167), none, none, none] [] M (f_X12_rooms_L20 n M) := by
  unfold f_X12_rooms_L20
  refine jo_aload 0 d_X12_rooms_20 rfl rfl ?_
  refine jo_iconst 1 d_X12_rooms_21 ?_
  refine jo_callV (st := []) (m_X12_refuse hs n 1 M) ok_X12_refuse (And.intro (Nat.le_of_ble_eq_true rfl) (Nat.le_of_ble_eq_true rfl)) lm_X12_87 in_X12_refuse se_X12_refuse rfl kc_167 rfl rfl (And.intro (Nat.zero_le _) (Nat.zero_le _)) rfl (Nat.le_of_ble_eq_true rfl) d_X12_rooms_22 (fun r1 M2 => ?_)
  exact jo_iret rfl d_X12_rooms_25
def f_X12_rooms (n : Nat) (x1 : Int) (x2 : Int) (M : JMem) : Option (Int × JMem) := bnd (f_X12_areBeasts n x1 M) fun r1 M2 => if jw r1 = 0 then (f_X12_rooms_L20 n M2) else (bnd (f_X12_isFrom n (jw x2) 1 72 M2) fun r3 M4 => if jw r3 = 0 then (f_X12_rooms_L20 n M4) else (bnd (f_X12_roomsOf n x1 x2 M4) fun r5 M6 => letv r5 fun y7 => if jw y7 < jw 1000000 then (bnd (f_X12_gives n y7 M6) fun r8 M9 => some (r8, M9)) else (bnd (f_X12_refuse n 6 M6) fun r10 M11 => some (r10, M11))))
set_option maxRecDepth 4000 in
theorem t_X12_rooms {g : JG} {ad : Nat → Nat} (hs : jStr g ad) (n : Nat) (x1 : Int) (x2 : Int) (M : JMem) : jB g D_X12_rooms ad 0 [some (.ref 167), some (ji x1), some (ji x2), none] [] M (f_X12_rooms n x1 x2 M) := by
  unfold f_X12_rooms
  refine jo_aload 0 d_X12_rooms_0 rfl rfl ?_
  refine jo_iload 1 d_X12_rooms_1 rfl rfl ?_
  refine jo_callV (st := []) (m_X12_areBeasts hs n x1 M) ok_X12_areBeasts (And.intro (Nat.le_of_ble_eq_true rfl) (Nat.le_of_ble_eq_true rfl)) lm_X12_366 in_X12_areBeasts se_X12_areBeasts rfl kc_167 rfl rfl (And.intro (Nat.zero_le _) (Nat.zero_le _)) rfl (Nat.le_of_ble_eq_true rfl) d_X12_rooms_2 (fun r1 M2 => ?_)
  refine jo_if_eq 20 d_X12_rooms_5 (by decide) ?_ ?_
  · skip
    exact jO.sub (t_X12_rooms_L20 hs n M2) (And.intro rfl True.intro)
  · skip
    refine jo_iload 2 d_X12_rooms_8 rfl rfl ?_
    refine jo_i2l d_X12_rooms_9 ?_
    refine jo_lconst1 d_X12_rooms_10 ?_
    refine jo_ldc2 72 lc_X12_405 d_X12_rooms_11 ?_
    refine jo_callS (st := []) (m_X12_isFrom hs n (jw x2) 1 72 M2) ok_X12_isFrom (And.intro (Nat.le_of_ble_eq_true rfl) (Nat.le_of_ble_eq_true rfl)) lm_X12_266 st_X12_isFrom rfl (And.intro (Nat.zero_le _) (Nat.zero_le _)) rfl (Nat.le_of_ble_eq_true rfl) d_X12_rooms_14 (fun r3 M4 => ?_)
    refine jo_if_ne 26 d_X12_rooms_17 (by decide) ?_ ?_
    · skip
      refine jo_aload 0 d_X12_rooms_26 rfl rfl ?_
      refine jo_iload 1 d_X12_rooms_27 rfl rfl ?_
      refine jo_iload 2 d_X12_rooms_28 rfl rfl ?_
      refine jo_callV (st := []) (m_X12_roomsOf hs n x1 x2 M4) ok_X12_roomsOf (And.intro (Nat.le_of_ble_eq_true rfl) (Nat.le_of_ble_eq_true rfl)) lm_X12_407 in_X12_roomsOf se_X12_roomsOf rfl kc_167 rfl rfl (And.intro (Nat.zero_le _) (Nat.zero_le _)) rfl (Nat.le_of_ble_eq_true rfl) d_X12_rooms_29 (fun r5 M6 => ?_)
      refine jo_istore 3 d_X12_rooms_32 rfl (Nat.le_of_ble_eq_true rfl) (fun y7 => ?_)
      refine jo_iload 3 d_X12_rooms_33 rfl rfl ?_
      refine jo_ldcw 1000000 lc_X12_375 d_X12_rooms_34 ?_
      refine jo_icmp_lt 49 d_X12_rooms_37 (by decide) ?_ ?_
      · skip
        refine jo_aload 0 d_X12_rooms_49 rfl rfl ?_
        refine jo_iload 3 d_X12_rooms_50 rfl rfl ?_
        refine jo_callV (st := []) (m_X12_gives hs n y7 M6) ok_X12_gives (And.intro (Nat.le_of_ble_eq_true rfl) (Nat.le_of_ble_eq_true rfl)) lm_X12_91 in_X12_gives se_X12_gives rfl kc_167 rfl rfl (And.intro (Nat.zero_le _) (Nat.zero_le _)) rfl (Nat.le_of_ble_eq_true rfl) d_X12_rooms_51 (fun r8 M9 => ?_)
        exact jo_iret rfl d_X12_rooms_54
      · skip
        refine jo_aload 0 d_X12_rooms_40 rfl rfl ?_
        refine jo_bipush 6 d_X12_rooms_41 (by decide) ?_
        refine jo_callV (st := []) (m_X12_refuse hs n 6 M6) ok_X12_refuse (And.intro (Nat.le_of_ble_eq_true rfl) (Nat.le_of_ble_eq_true rfl)) lm_X12_87 in_X12_refuse se_X12_refuse rfl kc_167 rfl rfl (And.intro (Nat.zero_le _) (Nat.zero_le _)) rfl (Nat.le_of_ble_eq_true rfl) d_X12_rooms_43 (fun r10 M11 => ?_)
        refine jo_goto 54 d_X12_rooms_46 (by decide) ?_
        exact jo_iret rfl d_X12_rooms_54
    · skip
      exact jO.sub (t_X12_rooms_L20 hs n M4) (And.intro rfl True.intro)
theorem m_X12_rooms {g : JG} {ad : Nat → Nat} (hs : jStr g ad) (n : Nat) (x1 : Int) (x2 : Int) (M : JMem) : jMet g jNN ad jR D_X12_rooms yX12_rooms [.ref 167, ji x1, ji x2] M (f_X12_rooms n x1 x2 M) :=
  jMet.of (lo0 := [some (.ref 167), some (ji x1), some (ji x2), none]) (by decide) rfl rfl (Nat.le_of_ble_eq_true rfl) (And.intro rfl (And.intro rfl (And.intro rfl True.intro))) (t_X12_rooms hs n x1 x2 M)
/-! CageLeaveModel.rule(I)Z -/
def D_X12_rule : JD := (RX12, cX12_rule, 2, some .boolean, "rule", { frames := 1, cells := 0, slots := 0, locals := 25 })
theorem ok_X12_rule : jOk D_X12_rule yX12_rule 1 := ⟨jTW_mem (k := 1858) (by decide +kernel) rfl, jTW_mem (k := 151) (by decide +kernel) rfl, ⟨by decide +kernel, by decide +kernel⟩, by decide +kernel, rfl, rfl⟩
theorem in_X12_rule : Cond.instanceMethod yX12_rule ∈ jTW := jTW_mem (k := 1856) (by decide +kernel) rfl
theorem se_X12_rule : Cond.selects yX12_rule.cls yX12_rule yX12_rule ∈ jTW := jTW_mem (k := 1857) (by decide +kernel) rfl
theorem d_X12_rule_0 : decode (D_X12_rule).2.1 0 = .ok (.iload_n 1, 1) := by decide +kernel
theorem d_X12_rule_1 : decode (D_X12_rule).2.1 1 = .ok (.i2l, 1) := by decide +kernel
theorem d_X12_rule_2 : decode (D_X12_rule).2.1 2 = .ok (.lconst 0, 1) := by decide +kernel
theorem d_X12_rule_3 : decode (D_X12_rule).2.1 3 = .ok (.ldc2_w 347, 3) := by decide +kernel
theorem d_X12_rule_6 : decode (D_X12_rule).2.1 6 = .ok (.invokestatic 266, 3) := by decide +kernel
theorem d_X12_rule_9 : decode (D_X12_rule).2.1 9 = .ok (.ifCond .ne 9, 3) := by decide +kernel
theorem d_X12_rule_12 : decode (D_X12_rule).2.1 12 = .ok (.aload_n 0, 1) := by decide +kernel
theorem d_X12_rule_13 : decode (D_X12_rule).2.1 13 = .ok (.iconst 1, 1) := by decide +kernel
theorem d_X12_rule_14 : decode (D_X12_rule).2.1 14 = .ok (.invokevirtual 94, 3) := by decide +kernel
theorem d_X12_rule_17 : decode (D_X12_rule).2.1 17 = .ok (.ireturn, 1) := by decide +kernel
theorem d_X12_rule_18 : decode (D_X12_rule).2.1 18 = .ok (.aload_n 0, 1) := by decide +kernel
theorem d_X12_rule_19 : decode (D_X12_rule).2.1 19 = .ok (.getfield 7, 3) := by decide +kernel
theorem d_X12_rule_22 : decode (D_X12_rule).2.1 22 = .ok (.iconst 3, 1) := by decide +kernel
theorem d_X12_rule_23 : decode (D_X12_rule).2.1 23 = .ok (.iload_n 1, 1) := by decide +kernel
theorem d_X12_rule_24 : decode (D_X12_rule).2.1 24 = .ok (.iastore, 1) := by decide +kernel
theorem d_X12_rule_25 : decode (D_X12_rule).2.1 25 = .ok (.aload_n 0, 1) := by decide +kernel
theorem d_X12_rule_26 : decode (D_X12_rule).2.1 26 = .ok (.iconst 0, 1) := by decide +kernel
theorem d_X12_rule_27 : decode (D_X12_rule).2.1 27 = .ok (.invokevirtual 94, 3) := by decide +kernel
theorem d_X12_rule_30 : decode (D_X12_rule).2.1 30 = .ok (.ireturn, 1) := by decide +kernel
def f_X12_rule (n : Nat) (x1 : Int) (M : JMem) : Option (Int × JMem) := bnd (f_X12_isFrom n (jw x1) 0 16 M) fun r1 M2 => if jw r1 = 0 then (bnd (f_X12_is n 1 M2) fun r6 M7 => chk (jw r6 = 0 ∨ jw r6 = 1) (some (r6, M7))) else (chk (jin 3 3160) <| letm (jup M2 168 (jw 3).toNat x1) fun M3 => bnd (f_X12_is n 0 M3) fun r4 M5 => chk (jw r4 = 0 ∨ jw r4 = 1) (some (r4, M5)))
set_option maxRecDepth 4000 in
theorem t_X12_rule {g : JG} {ad : Nat → Nat} (hs : jStr g ad) (n : Nat) (x1 : Int) (M : JMem) : jB g D_X12_rule ad 0 [some (.ref 167), some (ji x1)] [] M (f_X12_rule n x1 M) := by
  unfold f_X12_rule
  refine jo_iload 1 d_X12_rule_0 rfl rfl ?_
  refine jo_i2l d_X12_rule_1 ?_
  refine jo_lconst0 d_X12_rule_2 ?_
  refine jo_ldc2 16 lc_X12_347 d_X12_rule_3 ?_
  refine jo_callS (st := []) (m_X12_isFrom hs n (jw x1) 0 16 M) ok_X12_isFrom (And.intro (Nat.le_of_ble_eq_true rfl) (Nat.le_of_ble_eq_true rfl)) lm_X12_266 st_X12_isFrom rfl (And.intro (Nat.zero_le _) (Nat.zero_le _)) rfl (Nat.le_of_ble_eq_true rfl) d_X12_rule_6 (fun r1 M2 => ?_)
  refine jo_if_ne 18 d_X12_rule_9 (by decide) ?_ ?_
  · skip
    refine jo_aload 0 d_X12_rule_18 rfl rfl ?_
    refine jo_getR (k := 0) cl_12 (Nat.le_of_ble_eq_true rfl) lk_X12_7 rfl kc_167 kr_167_0 d_X12_rule_19 ?_
    refine jo_iconst 3 d_X12_rule_22 ?_
    refine jo_iload 1 d_X12_rule_23 rfl rfl ?_
    refine jo_iast (N := 3160) kc_168 d_X12_rule_24 (fun M3 => ?_)
    refine jo_aload 0 d_X12_rule_25 rfl rfl ?_
    refine jo_iconst 0 d_X12_rule_26 ?_
    refine jo_callV (st := []) (m_X12_is hs n 0 M3) ok_X12_is (And.intro (Nat.le_of_ble_eq_true rfl) (Nat.le_of_ble_eq_true rfl)) lm_X12_94 in_X12_is se_X12_is rfl kc_167 rfl rfl (And.intro (Nat.zero_le _) (Nat.zero_le _)) rfl (Nat.le_of_ble_eq_true rfl) d_X12_rule_27 (fun r4 M5 => ?_)
    exact jo_zretq rfl d_X12_rule_30
  · skip
    refine jo_aload 0 d_X12_rule_12 rfl rfl ?_
    refine jo_iconst 1 d_X12_rule_13 ?_
    refine jo_callV (st := []) (m_X12_is hs n 1 M2) ok_X12_is (And.intro (Nat.le_of_ble_eq_true rfl) (Nat.le_of_ble_eq_true rfl)) lm_X12_94 in_X12_is se_X12_is rfl kc_167 rfl rfl (And.intro (Nat.zero_le _) (Nat.zero_le _)) rfl (Nat.le_of_ble_eq_true rfl) d_X12_rule_14 (fun r6 M7 => ?_)
    exact jo_zretq rfl d_X12_rule_17
theorem m_X12_rule {g : JG} {ad : Nat → Nat} (hs : jStr g ad) (n : Nat) (x1 : Int) (M : JMem) : jMet g jNN ad jR D_X12_rule yX12_rule [.ref 167, ji x1] M (f_X12_rule n x1 M) :=
  jMet.of (lo0 := [some (.ref 167), some (ji x1)]) (by decide) rfl rfl (Nat.le_of_ble_eq_true rfl) (And.intro rfl (And.intro rfl True.intro)) (t_X12_rule hs n x1 M)
/-! CageLeaveModel.wrongParrot(III)I -/
def D_X12_wrongParrot : JD := (RX12, cX12_wrongParrot, 6, some .int, "wrongParrot", { frames := 1, cells := 0, slots := 0, locals := 25 })
theorem ok_X12_wrongParrot : jOk D_X12_wrongParrot yX12_wrongParrot 3 := ⟨jTW_mem (k := 2013) (by decide +kernel) rfl, jTW_mem (k := 151) (by decide +kernel) rfl, ⟨by decide +kernel, by decide +kernel⟩, by decide +kernel, rfl, rfl⟩
theorem in_X12_wrongParrot : Cond.instanceMethod yX12_wrongParrot ∈ jTW := jTW_mem (k := 2012) (by decide +kernel) rfl
theorem se_X12_wrongParrot : Cond.selects yX12_wrongParrot.cls yX12_wrongParrot yX12_wrongParrot ∈ jTW := jTW_mem (k := 121) (by decide +kernel) rfl
theorem d_X12_wrongParrot_0 : decode (D_X12_wrongParrot).2.1 0 = .ok (.iload_n 1, 1) := by decide +kernel
theorem d_X12_wrongParrot_1 : decode (D_X12_wrongParrot).2.1 1 = .ok (.invokestatic 98, 3) := by decide +kernel
theorem d_X12_wrongParrot_4 : decode (D_X12_wrongParrot).2.1 4 = .ok (.ifCond .eq 27, 3) := by decide +kernel
theorem d_X12_wrongParrot_7 : decode (D_X12_wrongParrot).2.1 7 = .ok (.iload_n 2, 1) := by decide +kernel
theorem d_X12_wrongParrot_8 : decode (D_X12_wrongParrot).2.1 8 = .ok (.i2l, 1) := by decide +kernel
theorem d_X12_wrongParrot_9 : decode (D_X12_wrongParrot).2.1 9 = .ok (.lconst 0, 1) := by decide +kernel
theorem d_X12_wrongParrot_10 : decode (D_X12_wrongParrot).2.1 10 = .ok (.ldc2_w 410, 3) := by decide +kernel
theorem d_X12_wrongParrot_13 : decode (D_X12_wrongParrot).2.1 13 = .ok (.invokestatic 266, 3) := by decide +kernel
theorem d_X12_wrongParrot_16 : decode (D_X12_wrongParrot).2.1 16 = .ok (.ifCond .eq 15, 3) := by decide +kernel
theorem d_X12_wrongParrot_19 : decode (D_X12_wrongParrot).2.1 19 = .ok (.iload_n 3, 1) := by decide +kernel
theorem d_X12_wrongParrot_20 : decode (D_X12_wrongParrot).2.1 20 = .ok (.i2l, 1) := by decide +kernel
theorem d_X12_wrongParrot_21 : decode (D_X12_wrongParrot).2.1 21 = .ok (.lconst 0, 1) := by decide +kernel
theorem d_X12_wrongParrot_22 : decode (D_X12_wrongParrot).2.1 22 = .ok (.ldc2_w 410, 3) := by decide +kernel
theorem d_X12_wrongParrot_25 : decode (D_X12_wrongParrot).2.1 25 = .ok (.invokestatic 266, 3) := by decide +kernel
theorem d_X12_wrongParrot_28 : decode (D_X12_wrongParrot).2.1 28 = .ok (.ifCond .ne 5, 3) := by decide +kernel
theorem d_X12_wrongParrot_31 : decode (D_X12_wrongParrot).2.1 31 = .ok (.iconst 1, 1) := by decide +kernel
theorem d_X12_wrongParrot_32 : decode (D_X12_wrongParrot).2.1 32 = .ok (.ireturn, 1) := by decide +kernel
theorem d_X12_wrongParrot_33 : decode (D_X12_wrongParrot).2.1 33 = .ok (.aload_n 0, 1) := by decide +kernel
theorem d_X12_wrongParrot_34 : decode (D_X12_wrongParrot).2.1 34 = .ok (.getfield 24, 3) := by decide +kernel
theorem d_X12_wrongParrot_37 : decode (D_X12_wrongParrot).2.1 37 = .ok (.iload_n 1, 1) := by decide +kernel
theorem d_X12_wrongParrot_38 : decode (D_X12_wrongParrot).2.1 38 = .ok (.iaload, 1) := by decide +kernel
theorem d_X12_wrongParrot_39 : decode (D_X12_wrongParrot).2.1 39 = .ok (.iconst (-1), 1) := by decide +kernel
theorem d_X12_wrongParrot_40 : decode (D_X12_wrongParrot).2.1 40 = .ok (.if_icmp .ne 5, 3) := by decide +kernel
theorem d_X12_wrongParrot_43 : decode (D_X12_wrongParrot).2.1 43 = .ok (.iconst 2, 1) := by decide +kernel
theorem d_X12_wrongParrot_44 : decode (D_X12_wrongParrot).2.1 44 = .ok (.ireturn, 1) := by decide +kernel
theorem d_X12_wrongParrot_45 : decode (D_X12_wrongParrot).2.1 45 = .ok (.aload_n 0, 1) := by decide +kernel
theorem d_X12_wrongParrot_46 : decode (D_X12_wrongParrot).2.1 46 = .ok (.getfield 24, 3) := by decide +kernel
theorem d_X12_wrongParrot_49 : decode (D_X12_wrongParrot).2.1 49 = .ok (.iload_n 1, 1) := by decide +kernel
theorem d_X12_wrongParrot_50 : decode (D_X12_wrongParrot).2.1 50 = .ok (.iaload, 1) := by decide +kernel
theorem d_X12_wrongParrot_51 : decode (D_X12_wrongParrot).2.1 51 = .ok (.iconst 3, 1) := by decide +kernel
theorem d_X12_wrongParrot_52 : decode (D_X12_wrongParrot).2.1 52 = .ok (.iload_n 2, 1) := by decide +kernel
theorem d_X12_wrongParrot_53 : decode (D_X12_wrongParrot).2.1 53 = .ok (.imul, 1) := by decide +kernel
theorem d_X12_wrongParrot_54 : decode (D_X12_wrongParrot).2.1 54 = .ok (.if_icmp .ge 5, 3) := by decide +kernel
theorem d_X12_wrongParrot_57 : decode (D_X12_wrongParrot).2.1 57 = .ok (.iconst 3, 1) := by decide +kernel
theorem d_X12_wrongParrot_58 : decode (D_X12_wrongParrot).2.1 58 = .ok (.ireturn, 1) := by decide +kernel
theorem d_X12_wrongParrot_59 : decode (D_X12_wrongParrot).2.1 59 = .ok (.iconst 0, 1) := by decide +kernel
theorem d_X12_wrongParrot_60 : decode (D_X12_wrongParrot).2.1 60 = .ok (.istore 4, 2) := by decide +kernel
theorem d_X12_wrongParrot_62 : decode (D_X12_wrongParrot).2.1 62 = .ok (.iload 4, 2) := by decide +kernel
theorem d_X12_wrongParrot_64 : decode (D_X12_wrongParrot).2.1 64 = .ok (.iload_n 2, 1) := by decide +kernel
theorem d_X12_wrongParrot_65 : decode (D_X12_wrongParrot).2.1 65 = .ok (.if_icmp .ge 89, 3) := by decide +kernel
theorem d_X12_wrongParrot_68 : decode (D_X12_wrongParrot).2.1 68 = .ok (.bipush 60, 2) := by decide +kernel
theorem d_X12_wrongParrot_70 : decode (D_X12_wrongParrot).2.1 70 = .ok (.iload_n 1, 1) := by decide +kernel
theorem d_X12_wrongParrot_71 : decode (D_X12_wrongParrot).2.1 71 = .ok (.imul, 1) := by decide +kernel
theorem d_X12_wrongParrot_72 : decode (D_X12_wrongParrot).2.1 72 = .ok (.iconst 3, 1) := by decide +kernel
theorem d_X12_wrongParrot_73 : decode (D_X12_wrongParrot).2.1 73 = .ok (.iload 4, 2) := by decide +kernel
theorem d_X12_wrongParrot_75 : decode (D_X12_wrongParrot).2.1 75 = .ok (.imul, 1) := by decide +kernel
theorem d_X12_wrongParrot_76 : decode (D_X12_wrongParrot).2.1 76 = .ok (.iadd, 1) := by decide +kernel
theorem d_X12_wrongParrot_77 : decode (D_X12_wrongParrot).2.1 77 = .ok (.istore 5, 2) := by decide +kernel
theorem d_X12_wrongParrot_79 : decode (D_X12_wrongParrot).2.1 79 = .ok (.aload_n 0, 1) := by decide +kernel
theorem d_X12_wrongParrot_80 : decode (D_X12_wrongParrot).2.1 80 = .ok (.getfield 27, 3) := by decide +kernel
theorem d_X12_wrongParrot_83 : decode (D_X12_wrongParrot).2.1 83 = .ok (.iload 5, 2) := by decide +kernel
theorem d_X12_wrongParrot_85 : decode (D_X12_wrongParrot).2.1 85 = .ok (.laload, 1) := by decide +kernel
theorem d_X12_wrongParrot_86 : decode (D_X12_wrongParrot).2.1 86 = .ok (.lconst 0, 1) := by decide +kernel
theorem d_X12_wrongParrot_87 : decode (D_X12_wrongParrot).2.1 87 = .ok (.ldc2_w 330, 3) := by decide +kernel
theorem d_X12_wrongParrot_90 : decode (D_X12_wrongParrot).2.1 90 = .ok (.invokestatic 266, 3) := by decide +kernel
theorem d_X12_wrongParrot_93 : decode (D_X12_wrongParrot).2.1 93 = .ok (.ifCond .eq 53, 3) := by decide +kernel
theorem d_X12_wrongParrot_96 : decode (D_X12_wrongParrot).2.1 96 = .ok (.aload_n 0, 1) := by decide +kernel
theorem d_X12_wrongParrot_97 : decode (D_X12_wrongParrot).2.1 97 = .ok (.getfield 27, 3) := by decide +kernel
theorem d_X12_wrongParrot_100 : decode (D_X12_wrongParrot).2.1 100 = .ok (.iload 5, 2) := by decide +kernel
theorem d_X12_wrongParrot_102 : decode (D_X12_wrongParrot).2.1 102 = .ok (.iconst 1, 1) := by decide +kernel
theorem d_X12_wrongParrot_103 : decode (D_X12_wrongParrot).2.1 103 = .ok (.iadd, 1) := by decide +kernel
theorem d_X12_wrongParrot_104 : decode (D_X12_wrongParrot).2.1 104 = .ok (.laload, 1) := by decide +kernel
theorem d_X12_wrongParrot_105 : decode (D_X12_wrongParrot).2.1 105 = .ok (.lconst 1, 1) := by decide +kernel
theorem d_X12_wrongParrot_106 : decode (D_X12_wrongParrot).2.1 106 = .ok (.aload_n 0, 1) := by decide +kernel
theorem d_X12_wrongParrot_107 : decode (D_X12_wrongParrot).2.1 107 = .ok (.getfield 7, 3) := by decide +kernel
theorem d_X12_wrongParrot_110 : decode (D_X12_wrongParrot).2.1 110 = .ok (.iconst 0, 1) := by decide +kernel
theorem d_X12_wrongParrot_111 : decode (D_X12_wrongParrot).2.1 111 = .ok (.iaload, 1) := by decide +kernel
theorem d_X12_wrongParrot_112 : decode (D_X12_wrongParrot).2.1 112 = .ok (.i2l, 1) := by decide +kernel
theorem d_X12_wrongParrot_113 : decode (D_X12_wrongParrot).2.1 113 = .ok (.lconst 1, 1) := by decide +kernel
theorem d_X12_wrongParrot_114 : decode (D_X12_wrongParrot).2.1 114 = .ok (.lsub, 1) := by decide +kernel
theorem d_X12_wrongParrot_115 : decode (D_X12_wrongParrot).2.1 115 = .ok (.invokestatic 266, 3) := by decide +kernel
theorem d_X12_wrongParrot_118 : decode (D_X12_wrongParrot).2.1 118 = .ok (.ifCond .eq 28, 3) := by decide +kernel
theorem d_X12_wrongParrot_121 : decode (D_X12_wrongParrot).2.1 121 = .ok (.aload_n 0, 1) := by decide +kernel
theorem d_X12_wrongParrot_122 : decode (D_X12_wrongParrot).2.1 122 = .ok (.getfield 27, 3) := by decide +kernel
theorem d_X12_wrongParrot_125 : decode (D_X12_wrongParrot).2.1 125 = .ok (.iload 5, 2) := by decide +kernel
theorem d_X12_wrongParrot_127 : decode (D_X12_wrongParrot).2.1 127 = .ok (.iconst 2, 1) := by decide +kernel
theorem d_X12_wrongParrot_128 : decode (D_X12_wrongParrot).2.1 128 = .ok (.iadd, 1) := by decide +kernel
theorem d_X12_wrongParrot_129 : decode (D_X12_wrongParrot).2.1 129 = .ok (.laload, 1) := by decide +kernel
theorem d_X12_wrongParrot_130 : decode (D_X12_wrongParrot).2.1 130 = .ok (.lconst 0, 1) := by decide +kernel
theorem d_X12_wrongParrot_131 : decode (D_X12_wrongParrot).2.1 131 = .ok (.aload_n 0, 1) := by decide +kernel
theorem d_X12_wrongParrot_132 : decode (D_X12_wrongParrot).2.1 132 = .ok (.getfield 7, 3) := by decide +kernel
theorem d_X12_wrongParrot_135 : decode (D_X12_wrongParrot).2.1 135 = .ok (.iconst 2, 1) := by decide +kernel
theorem d_X12_wrongParrot_136 : decode (D_X12_wrongParrot).2.1 136 = .ok (.iaload, 1) := by decide +kernel
theorem d_X12_wrongParrot_137 : decode (D_X12_wrongParrot).2.1 137 = .ok (.i2l, 1) := by decide +kernel
theorem d_X12_wrongParrot_138 : decode (D_X12_wrongParrot).2.1 138 = .ok (.lconst 1, 1) := by decide +kernel
theorem d_X12_wrongParrot_139 : decode (D_X12_wrongParrot).2.1 139 = .ok (.lsub, 1) := by decide +kernel
theorem d_X12_wrongParrot_140 : decode (D_X12_wrongParrot).2.1 140 = .ok (.invokestatic 266, 3) := by decide +kernel
theorem d_X12_wrongParrot_143 : decode (D_X12_wrongParrot).2.1 143 = .ok (.ifCond .ne 5, 3) := by decide +kernel
theorem d_X12_wrongParrot_146 : decode (D_X12_wrongParrot).2.1 146 = .ok (.iconst 5, 1) := by decide +kernel
theorem d_X12_wrongParrot_147 : decode (D_X12_wrongParrot).2.1 147 = .ok (.ireturn, 1) := by decide +kernel
theorem d_X12_wrongParrot_148 : decode (D_X12_wrongParrot).2.1 148 = .ok (.iinc 4 1, 3) := by decide +kernel
theorem d_X12_wrongParrot_151 : decode (D_X12_wrongParrot).2.1 151 = .ok (.goto (-89), 3) := by decide +kernel
theorem d_X12_wrongParrot_154 : decode (D_X12_wrongParrot).2.1 154 = .ok (.iconst 0, 1) := by decide +kernel
theorem d_X12_wrongParrot_155 : decode (D_X12_wrongParrot).2.1 155 = .ok (.ireturn, 1) := by decide +kernel
def f_X12_wrongParrot_L62 (n : Nat) : Nat → Int → Int → Int → JMem → Option (Int × JMem)
  | 0, _, _, _, _ => none
  | k + 1, v1, v2, v4, M => if jw v2 ≤ jw v4 then (some (0, M)) else (letv ((60 * v1) + (3 * v4)) fun y1 => chk (jin y1 240) <| bnd (f_X12_isFrom n (M 172 (jw y1).toNat) 0 64 M) fun r2 M3 => if jw r2 = 0 then (some (5, M3)) else (chk (jin (y1 + 1) 240) <| chk (jin 0 3160) <| bnd (f_X12_isFrom n (M3 172 (jw (y1 + 1)).toNat) 1 ((jw (M3 168 (jw 0).toNat)) - 1) M3) fun r4 M5 => if jw r4 = 0 then (some (5, M5)) else (chk (jin (y1 + 2) 240) <| chk (jin 2 3160) <| bnd (f_X12_isFrom n (M5 172 (jw (y1 + 2)).toNat) 0 ((jw (M5 168 (jw 2).toNat)) - 1) M5) fun r6 M7 => if jw r6 = 0 then (some (5, M7)) else (letv (v4 + 1) fun y8 => (f_X12_wrongParrot_L62 n k) v1 v2 y8 M7))))
set_option maxRecDepth 4000 in
theorem t_X12_wrongParrot_L62 {g : JG} {ad : Nat → Nat} (hs : jStr g ad) (n : Nat) : ∀ (k : Nat) (v1 v2 v4 : Int) (M : JMem), jB g D_X12_wrongParrot ad 62 [some (.ref 167), some (ji v1), some (ji v2), none, some (ji v4), none] [] M (f_X12_wrongParrot_L62 n k v1 v2 v4 M) := by
  intro k
  induction k with
  | zero => intro v1 v2 v4 M; exact jO.none
  | succ k ih =>
    intro v1 v2 v4 M
    rw [f_X12_wrongParrot_L62]
    refine jo_iloadW 4 d_X12_wrongParrot_62 rfl ?_
    refine jo_iload 2 d_X12_wrongParrot_64 rfl rfl ?_
    refine jo_icmp_ge 154 d_X12_wrongParrot_65 (by decide) ?_ ?_
    · skip
      refine jo_iconst 0 d_X12_wrongParrot_154 ?_
      exact jo_iret rfl d_X12_wrongParrot_155
    · skip
      refine jo_bipush 60 d_X12_wrongParrot_68 (by decide) ?_
      refine jo_iload 1 d_X12_wrongParrot_70 rfl rfl ?_
      refine jo_imul d_X12_wrongParrot_71 ?_
      refine jo_iconst 3 d_X12_wrongParrot_72 ?_
      refine jo_iloadW 4 d_X12_wrongParrot_73 rfl ?_
      refine jo_imul d_X12_wrongParrot_75 ?_
      refine jo_iadd d_X12_wrongParrot_76 ?_
      refine jo_istoreW 5 d_X12_wrongParrot_77 (Nat.le_of_ble_eq_true rfl) (fun y1 => ?_)
      refine jo_aload 0 d_X12_wrongParrot_79 rfl rfl ?_
      refine jo_getR (k := 7) cl_12 (Nat.le_of_ble_eq_true rfl) lk_X12_27 rfl kc_167 kr_167_7 d_X12_wrongParrot_80 ?_
      refine jo_iloadW 5 d_X12_wrongParrot_83 rfl ?_
      refine jo_lald (N := 240) kc_172 d_X12_wrongParrot_85 ?_
      refine jo_lconst0 d_X12_wrongParrot_86 ?_
      refine jo_ldc2 64 lc_X12_330 d_X12_wrongParrot_87 ?_
      refine jo_callS (st := []) (m_X12_isFrom hs n (M 172 (jw y1).toNat) 0 64 M) ok_X12_isFrom (And.intro (Nat.le_of_ble_eq_true rfl) (Nat.le_of_ble_eq_true rfl)) lm_X12_266 st_X12_isFrom rfl (And.intro (Nat.zero_le _) (Nat.zero_le _)) rfl (Nat.le_of_ble_eq_true rfl) d_X12_wrongParrot_90 (fun r2 M3 => ?_)
      refine jo_if_eq 146 d_X12_wrongParrot_93 (by decide) ?_ ?_
      · skip
        refine jo_iconst 5 d_X12_wrongParrot_146 ?_
        exact jo_iret rfl d_X12_wrongParrot_147
      · skip
        refine jo_aload 0 d_X12_wrongParrot_96 rfl rfl ?_
        refine jo_getR (k := 7) cl_12 (Nat.le_of_ble_eq_true rfl) lk_X12_27 rfl kc_167 kr_167_7 d_X12_wrongParrot_97 ?_
        refine jo_iloadW 5 d_X12_wrongParrot_100 rfl ?_
        refine jo_iconst 1 d_X12_wrongParrot_102 ?_
        refine jo_iadd d_X12_wrongParrot_103 ?_
        refine jo_lald (N := 240) kc_172 d_X12_wrongParrot_104 ?_
        refine jo_lconst1 d_X12_wrongParrot_105 ?_
        refine jo_aload 0 d_X12_wrongParrot_106 rfl rfl ?_
        refine jo_getR (k := 0) cl_12 (Nat.le_of_ble_eq_true rfl) lk_X12_7 rfl kc_167 kr_167_0 d_X12_wrongParrot_107 ?_
        refine jo_iconst 0 d_X12_wrongParrot_110 ?_
        refine jo_iald (N := 3160) kc_168 d_X12_wrongParrot_111 ?_
        refine jo_i2l d_X12_wrongParrot_112 ?_
        refine jo_lconst1 d_X12_wrongParrot_113 ?_
        refine jo_lsub d_X12_wrongParrot_114 ?_
        refine jo_callS (st := []) (m_X12_isFrom hs n (M3 172 (jw (y1 + 1)).toNat) 1 ((jw (M3 168 (jw 0).toNat)) - 1) M3) ok_X12_isFrom (And.intro (Nat.le_of_ble_eq_true rfl) (Nat.le_of_ble_eq_true rfl)) lm_X12_266 st_X12_isFrom rfl (And.intro (Nat.zero_le _) (Nat.zero_le _)) rfl (Nat.le_of_ble_eq_true rfl) d_X12_wrongParrot_115 (fun r4 M5 => ?_)
        refine jo_if_eq 146 d_X12_wrongParrot_118 (by decide) ?_ ?_
        · skip
          refine jo_iconst 5 d_X12_wrongParrot_146 ?_
          exact jo_iret rfl d_X12_wrongParrot_147
        · skip
          refine jo_aload 0 d_X12_wrongParrot_121 rfl rfl ?_
          refine jo_getR (k := 7) cl_12 (Nat.le_of_ble_eq_true rfl) lk_X12_27 rfl kc_167 kr_167_7 d_X12_wrongParrot_122 ?_
          refine jo_iloadW 5 d_X12_wrongParrot_125 rfl ?_
          refine jo_iconst 2 d_X12_wrongParrot_127 ?_
          refine jo_iadd d_X12_wrongParrot_128 ?_
          refine jo_lald (N := 240) kc_172 d_X12_wrongParrot_129 ?_
          refine jo_lconst0 d_X12_wrongParrot_130 ?_
          refine jo_aload 0 d_X12_wrongParrot_131 rfl rfl ?_
          refine jo_getR (k := 0) cl_12 (Nat.le_of_ble_eq_true rfl) lk_X12_7 rfl kc_167 kr_167_0 d_X12_wrongParrot_132 ?_
          refine jo_iconst 2 d_X12_wrongParrot_135 ?_
          refine jo_iald (N := 3160) kc_168 d_X12_wrongParrot_136 ?_
          refine jo_i2l d_X12_wrongParrot_137 ?_
          refine jo_lconst1 d_X12_wrongParrot_138 ?_
          refine jo_lsub d_X12_wrongParrot_139 ?_
          refine jo_callS (st := []) (m_X12_isFrom hs n (M5 172 (jw (y1 + 2)).toNat) 0 ((jw (M5 168 (jw 2).toNat)) - 1) M5) ok_X12_isFrom (And.intro (Nat.le_of_ble_eq_true rfl) (Nat.le_of_ble_eq_true rfl)) lm_X12_266 st_X12_isFrom rfl (And.intro (Nat.zero_le _) (Nat.zero_le _)) rfl (Nat.le_of_ble_eq_true rfl) d_X12_wrongParrot_140 (fun r6 M7 => ?_)
          refine jo_if_ne 148 d_X12_wrongParrot_143 (by decide) ?_ ?_
          · skip
            refine jo_iinc 4 d_X12_wrongParrot_148 rfl (Nat.le_of_ble_eq_true rfl) (fun y8 => ?_)
            refine jo_goto 62 d_X12_wrongParrot_151 (by decide) ?_
            exact jO.sub (ih v1 v2 y8 M7) (And.intro rfl (And.intro rfl (And.intro rfl (And.intro rfl True.intro))))
          · skip
            refine jo_iconst 5 d_X12_wrongParrot_146 ?_
            exact jo_iret rfl d_X12_wrongParrot_147
def f_X12_wrongParrot (n : Nat) (x1 : Int) (x2 : Int) (x3 : Int) (M : JMem) : Option (Int × JMem) := bnd (f_X12_isTray n x1 M) fun r1 M2 => if jw r1 = 0 then (some (1, M2)) else (bnd (f_X12_isFrom n (jw x2) 0 20 M2) fun r3 M4 => if jw r3 = 0 then (some (1, M4)) else (bnd (f_X12_isFrom n (jw x3) 0 20 M4) fun r5 M6 => if jw r5 = 0 then (some (1, M6)) else (chk (jin x1 4) <| if jw (M6 171 (jw x1).toNat) = jw (-1) then (some (2, M6)) else (chk (jin x1 4) <| if jw (3 * x2) ≤ jw (M6 171 (jw x1).toNat) then (letv 0 fun y7 => f_X12_wrongParrot_L62 n n x1 x2 y7 M6) else (some (3, M6))))))
set_option maxRecDepth 4000 in
theorem t_X12_wrongParrot {g : JG} {ad : Nat → Nat} (hs : jStr g ad) (n : Nat) (x1 : Int) (x2 : Int) (x3 : Int) (M : JMem) : jB g D_X12_wrongParrot ad 0 [some (.ref 167), some (ji x1), some (ji x2), some (ji x3), none, none] [] M (f_X12_wrongParrot n x1 x2 x3 M) := by
  unfold f_X12_wrongParrot
  refine jo_iload 1 d_X12_wrongParrot_0 rfl rfl ?_
  refine jo_callS (st := []) (m_X12_isTray hs n x1 M) ok_X12_isTray (And.intro (Nat.le_of_ble_eq_true rfl) (Nat.le_of_ble_eq_true rfl)) lm_X12_98 st_X12_isTray rfl (And.intro (Nat.zero_le _) (Nat.zero_le _)) rfl (Nat.le_of_ble_eq_true rfl) d_X12_wrongParrot_1 (fun r1 M2 => ?_)
  refine jo_if_eq 31 d_X12_wrongParrot_4 (by decide) ?_ ?_
  · skip
    refine jo_iconst 1 d_X12_wrongParrot_31 ?_
    exact jo_iret rfl d_X12_wrongParrot_32
  · skip
    refine jo_iload 2 d_X12_wrongParrot_7 rfl rfl ?_
    refine jo_i2l d_X12_wrongParrot_8 ?_
    refine jo_lconst0 d_X12_wrongParrot_9 ?_
    refine jo_ldc2 20 lc_X12_410 d_X12_wrongParrot_10 ?_
    refine jo_callS (st := []) (m_X12_isFrom hs n (jw x2) 0 20 M2) ok_X12_isFrom (And.intro (Nat.le_of_ble_eq_true rfl) (Nat.le_of_ble_eq_true rfl)) lm_X12_266 st_X12_isFrom rfl (And.intro (Nat.zero_le _) (Nat.zero_le _)) rfl (Nat.le_of_ble_eq_true rfl) d_X12_wrongParrot_13 (fun r3 M4 => ?_)
    refine jo_if_eq 31 d_X12_wrongParrot_16 (by decide) ?_ ?_
    · skip
      refine jo_iconst 1 d_X12_wrongParrot_31 ?_
      exact jo_iret rfl d_X12_wrongParrot_32
    · skip
      refine jo_iload 3 d_X12_wrongParrot_19 rfl rfl ?_
      refine jo_i2l d_X12_wrongParrot_20 ?_
      refine jo_lconst0 d_X12_wrongParrot_21 ?_
      refine jo_ldc2 20 lc_X12_410 d_X12_wrongParrot_22 ?_
      refine jo_callS (st := []) (m_X12_isFrom hs n (jw x3) 0 20 M4) ok_X12_isFrom (And.intro (Nat.le_of_ble_eq_true rfl) (Nat.le_of_ble_eq_true rfl)) lm_X12_266 st_X12_isFrom rfl (And.intro (Nat.zero_le _) (Nat.zero_le _)) rfl (Nat.le_of_ble_eq_true rfl) d_X12_wrongParrot_25 (fun r5 M6 => ?_)
      refine jo_if_ne 33 d_X12_wrongParrot_28 (by decide) ?_ ?_
      · skip
        refine jo_aload 0 d_X12_wrongParrot_33 rfl rfl ?_
        refine jo_getR (k := 6) cl_12 (Nat.le_of_ble_eq_true rfl) lk_X12_24 rfl kc_167 kr_167_6 d_X12_wrongParrot_34 ?_
        refine jo_iload 1 d_X12_wrongParrot_37 rfl rfl ?_
        refine jo_iald (N := 4) kc_171 d_X12_wrongParrot_38 ?_
        refine jo_iconst (-1) d_X12_wrongParrot_39 ?_
        refine jo_icmp_ne 45 d_X12_wrongParrot_40 (by decide) ?_ ?_
        · skip
          refine jo_aload 0 d_X12_wrongParrot_45 rfl rfl ?_
          refine jo_getR (k := 6) cl_12 (Nat.le_of_ble_eq_true rfl) lk_X12_24 rfl kc_167 kr_167_6 d_X12_wrongParrot_46 ?_
          refine jo_iload 1 d_X12_wrongParrot_49 rfl rfl ?_
          refine jo_iald (N := 4) kc_171 d_X12_wrongParrot_50 ?_
          refine jo_iconst 3 d_X12_wrongParrot_51 ?_
          refine jo_iload 2 d_X12_wrongParrot_52 rfl rfl ?_
          refine jo_imul d_X12_wrongParrot_53 ?_
          refine jo_icmp_ge 59 d_X12_wrongParrot_54 (by decide) ?_ ?_
          · skip
            refine jo_iconst 0 d_X12_wrongParrot_59 ?_
            refine jo_istoreW 4 d_X12_wrongParrot_60 (Nat.le_of_ble_eq_true rfl) (fun y7 => ?_)
            exact jO.sub (t_X12_wrongParrot_L62 hs n n x1 x2 y7 M6) (And.intro rfl (And.intro rfl (And.intro rfl (And.intro rfl True.intro))))
          · skip
            refine jo_iconst 3 d_X12_wrongParrot_57 ?_
            exact jo_iret rfl d_X12_wrongParrot_58
        · skip
          refine jo_iconst 2 d_X12_wrongParrot_43 ?_
          exact jo_iret rfl d_X12_wrongParrot_44
      · skip
        refine jo_iconst 1 d_X12_wrongParrot_31 ?_
        exact jo_iret rfl d_X12_wrongParrot_32
theorem m_X12_wrongParrot {g : JG} {ad : Nat → Nat} (hs : jStr g ad) (n : Nat) (x1 : Int) (x2 : Int) (x3 : Int) (M : JMem) : jMet g jNN ad jR D_X12_wrongParrot yX12_wrongParrot [.ref 167, ji x1, ji x2, ji x3] M (f_X12_wrongParrot n x1 x2 x3 M) :=
  jMet.of (lo0 := [some (.ref 167), some (ji x1), some (ji x2), some (ji x3), none, none]) (by decide) rfl rfl (Nat.le_of_ble_eq_true rfl) (And.intro rfl (And.intro rfl (And.intro rfl (And.intro rfl True.intro)))) (t_X12_wrongParrot hs n x1 x2 x3 M)
/-! CageLeaveModel.sets(III)I -/
def D_X12_sets : JD := (RX12, cX12_sets, 7, some .int, "sets", { frames := 10, cells := 0, slots := 0, locals := 223 })
theorem ok_X12_sets : jOk D_X12_sets yX12_sets 3 := ⟨jTW_mem (k := 2009) (by decide +kernel) rfl, jTW_mem (k := 151) (by decide +kernel) rfl, ⟨by decide +kernel, by decide +kernel⟩, by decide +kernel, rfl, rfl⟩
theorem in_X12_sets : Cond.instanceMethod yX12_sets ∈ jTW := jTW_mem (k := 2007) (by decide +kernel) rfl
theorem se_X12_sets : Cond.selects yX12_sets.cls yX12_sets yX12_sets ∈ jTW := jTW_mem (k := 2008) (by decide +kernel) rfl
theorem lm_X12_412 : Cond.methodLink RX12 412 yX12_wrongParrot ∈ jTW := jTW_mem (k := 2010) (by decide +kernel) rfl
theorem lm_X12_415 : Cond.methodLink RX12 415 yX12_laysSlips ∈ jTW := jTW_mem (k := 2015) (by decide +kernel) rfl
theorem d_X12_sets_0 : decode (D_X12_sets).2.1 0 = .ok (.aload_n 0, 1) := by decide +kernel
theorem d_X12_sets_1 : decode (D_X12_sets).2.1 1 = .ok (.iload_n 1, 1) := by decide +kernel
theorem d_X12_sets_2 : decode (D_X12_sets).2.1 2 = .ok (.iload_n 2, 1) := by decide +kernel
theorem d_X12_sets_3 : decode (D_X12_sets).2.1 3 = .ok (.iload_n 3, 1) := by decide +kernel
theorem d_X12_sets_4 : decode (D_X12_sets).2.1 4 = .ok (.invokevirtual 412, 3) := by decide +kernel
theorem d_X12_sets_7 : decode (D_X12_sets).2.1 7 = .ok (.istore 4, 2) := by decide +kernel
theorem d_X12_sets_9 : decode (D_X12_sets).2.1 9 = .ok (.iload 4, 2) := by decide +kernel
theorem d_X12_sets_11 : decode (D_X12_sets).2.1 11 = .ok (.ifCond .le 10, 3) := by decide +kernel
theorem d_X12_sets_14 : decode (D_X12_sets).2.1 14 = .ok (.aload_n 0, 1) := by decide +kernel
theorem d_X12_sets_15 : decode (D_X12_sets).2.1 15 = .ok (.iload 4, 2) := by decide +kernel
theorem d_X12_sets_17 : decode (D_X12_sets).2.1 17 = .ok (.invokevirtual 87, 3) := by decide +kernel
theorem d_X12_sets_20 : decode (D_X12_sets).2.1 20 = .ok (.ireturn, 1) := by decide +kernel
theorem d_X12_sets_21 : decode (D_X12_sets).2.1 21 = .ok (.aload_n 0, 1) := by decide +kernel
theorem d_X12_sets_22 : decode (D_X12_sets).2.1 22 = .ok (.iload_n 1, 1) := by decide +kernel
theorem d_X12_sets_23 : decode (D_X12_sets).2.1 23 = .ok (.iload_n 2, 1) := by decide +kernel
theorem d_X12_sets_24 : decode (D_X12_sets).2.1 24 = .ok (.invokevirtual 415, 3) := by decide +kernel
theorem d_X12_sets_27 : decode (D_X12_sets).2.1 27 = .ok (.iconst 0, 1) := by decide +kernel
theorem d_X12_sets_28 : decode (D_X12_sets).2.1 28 = .ok (.istore 5, 2) := by decide +kernel
theorem d_X12_sets_30 : decode (D_X12_sets).2.1 30 = .ok (.iconst 0, 1) := by decide +kernel
theorem d_X12_sets_31 : decode (D_X12_sets).2.1 31 = .ok (.istore 6, 2) := by decide +kernel
theorem d_X12_sets_33 : decode (D_X12_sets).2.1 33 = .ok (.iload 6, 2) := by decide +kernel
theorem d_X12_sets_35 : decode (D_X12_sets).2.1 35 = .ok (.iconst 1, 1) := by decide +kernel
theorem d_X12_sets_36 : decode (D_X12_sets).2.1 36 = .ok (.aload_n 0, 1) := by decide +kernel
theorem d_X12_sets_37 : decode (D_X12_sets).2.1 37 = .ok (.getfield 7, 3) := by decide +kernel
theorem d_X12_sets_40 : decode (D_X12_sets).2.1 40 = .ok (.iconst 2, 1) := by decide +kernel
theorem d_X12_sets_41 : decode (D_X12_sets).2.1 41 = .ok (.iaload, 1) := by decide +kernel
theorem d_X12_sets_42 : decode (D_X12_sets).2.1 42 = .ok (.ishl, 1) := by decide +kernel
theorem d_X12_sets_43 : decode (D_X12_sets).2.1 43 = .ok (.if_icmp .ge 30, 3) := by decide +kernel
theorem d_X12_sets_46 : decode (D_X12_sets).2.1 46 = .ok (.iload 5, 2) := by decide +kernel
theorem d_X12_sets_48 : decode (D_X12_sets).2.1 48 = .ok (.aload_n 0, 1) := by decide +kernel
theorem d_X12_sets_49 : decode (D_X12_sets).2.1 49 = .ok (.getfield 65, 3) := by decide +kernel
theorem d_X12_sets_52 : decode (D_X12_sets).2.1 52 = .ok (.iload 6, 2) := by decide +kernel
theorem d_X12_sets_54 : decode (D_X12_sets).2.1 54 = .ok (.iaload, 1) := by decide +kernel
theorem d_X12_sets_55 : decode (D_X12_sets).2.1 55 = .ok (.iload_n 3, 1) := by decide +kernel
theorem d_X12_sets_56 : decode (D_X12_sets).2.1 56 = .ok (.if_icmp .gt 7, 3) := by decide +kernel
theorem d_X12_sets_59 : decode (D_X12_sets).2.1 59 = .ok (.iconst 1, 1) := by decide +kernel
theorem d_X12_sets_60 : decode (D_X12_sets).2.1 60 = .ok (.goto 4, 3) := by decide +kernel
theorem d_X12_sets_63 : decode (D_X12_sets).2.1 63 = .ok (.iconst 0, 1) := by decide +kernel
theorem d_X12_sets_64 : decode (D_X12_sets).2.1 64 = .ok (.iadd, 1) := by decide +kernel
theorem d_X12_sets_65 : decode (D_X12_sets).2.1 65 = .ok (.istore 5, 2) := by decide +kernel
theorem d_X12_sets_67 : decode (D_X12_sets).2.1 67 = .ok (.iinc 6 1, 3) := by decide +kernel
theorem d_X12_sets_70 : decode (D_X12_sets).2.1 70 = .ok (.goto (-37), 3) := by decide +kernel
theorem d_X12_sets_73 : decode (D_X12_sets).2.1 73 = .ok (.aload_n 0, 1) := by decide +kernel
theorem d_X12_sets_74 : decode (D_X12_sets).2.1 74 = .ok (.iload 5, 2) := by decide +kernel
theorem d_X12_sets_76 : decode (D_X12_sets).2.1 76 = .ok (.invokevirtual 91, 3) := by decide +kernel
theorem d_X12_sets_79 : decode (D_X12_sets).2.1 79 = .ok (.ireturn, 1) := by decide +kernel
def f_X12_sets_L64 (n : Nat) (r33 : Int → Int → Int → JMem → Option (Int × JMem)) (v3 v6 w0 w1 : Int) (M : JMem) : Option (Int × JMem) := letv (w0 + w1) fun y1 => letv (v6 + 1) fun y2 => r33 v3 y1 y2 M
set_option maxRecDepth 4000 in
theorem t_X12_sets_L64 {g : JG} {ad : Nat → Nat} (hs : jStr g ad) (n : Nat) (r33 : Int → Int → Int → JMem → Option (Int × JMem)) (hr33 : ∀ (v3 v5 v6 : Int) (M : JMem), jB g D_X12_sets ad 33 [some (.ref 167), none, none, some (ji v3), none, some (ji v5), some (ji v6)] [] M (r33 v3 v5 v6 M)) (v3 v6 w0 w1 : Int) (M : JMem) : jB g D_X12_sets ad 64 [some (.ref 167), none, none, some (ji v3), none, none, some (ji v6)] [ji w1, ji w0] M (f_X12_sets_L64 n r33 v3 v6 w0 w1 M) := by
  unfold f_X12_sets_L64
  refine jo_iadd d_X12_sets_64 ?_
  refine jo_istoreW 5 d_X12_sets_65 (Nat.le_of_ble_eq_true rfl) (fun y1 => ?_)
  refine jo_iinc 6 d_X12_sets_67 rfl (Nat.le_of_ble_eq_true rfl) (fun y2 => ?_)
  refine jo_goto 33 d_X12_sets_70 (by decide) ?_
  exact jO.sub (hr33 v3 y1 y2 M) (And.intro rfl (And.intro rfl (And.intro rfl (And.intro rfl True.intro))))
def f_X12_sets_L73 (n : Nat) (v5 : Int) (M : JMem) : Option (Int × JMem) := bnd (f_X12_gives n v5 M) fun r1 M2 => some (r1, M2)
set_option maxRecDepth 4000 in
theorem t_X12_sets_L73 {g : JG} {ad : Nat → Nat} (hs : jStr g ad) (n : Nat) (v5 : Int) (M : JMem) : jB g D_X12_sets ad 73 [some (.ref 167), none, none, none, none, some (ji v5), none] [] M (f_X12_sets_L73 n v5 M) := by
  unfold f_X12_sets_L73
  refine jo_aload 0 d_X12_sets_73 rfl rfl ?_
  refine jo_iloadW 5 d_X12_sets_74 rfl ?_
  refine jo_callV (st := []) (m_X12_gives hs n v5 M) ok_X12_gives (And.intro (Nat.le_of_ble_eq_true rfl) (Nat.le_of_ble_eq_true rfl)) lm_X12_91 in_X12_gives se_X12_gives rfl kc_167 rfl rfl (And.intro (Nat.zero_le _) (Nat.zero_le _)) rfl (Nat.le_of_ble_eq_true rfl) d_X12_sets_76 (fun r1 M2 => ?_)
  exact jo_iret rfl d_X12_sets_79
def f_X12_sets_L33 (n : Nat) : Nat → Int → Int → Int → JMem → Option (Int × JMem)
  | 0, _, _, _, _ => none
  | k + 1, v3, v5, v6, M => chk (jin 2 3160) <| if jw (jshl 1 (M 168 (jw 2).toNat)) ≤ jw v6 then (f_X12_sets_L73 n v5 M) else (chk (jin v6 256) <| if jw v3 < jw (M 182 (jw v6).toNat) then (f_X12_sets_L64 n (f_X12_sets_L33 n k) v3 v6 v5 0 M) else (f_X12_sets_L64 n (f_X12_sets_L33 n k) v3 v6 v5 1 M))
set_option maxRecDepth 4000 in
theorem t_X12_sets_L33 {g : JG} {ad : Nat → Nat} (hs : jStr g ad) (n : Nat) : ∀ (k : Nat) (v3 v5 v6 : Int) (M : JMem), jB g D_X12_sets ad 33 [some (.ref 167), none, none, some (ji v3), none, some (ji v5), some (ji v6)] [] M (f_X12_sets_L33 n k v3 v5 v6 M) := by
  intro k
  induction k with
  | zero => intro v3 v5 v6 M; exact jO.none
  | succ k ih =>
    intro v3 v5 v6 M
    rw [f_X12_sets_L33]
    refine jo_iloadW 6 d_X12_sets_33 rfl ?_
    refine jo_iconst 1 d_X12_sets_35 ?_
    refine jo_aload 0 d_X12_sets_36 rfl rfl ?_
    refine jo_getR (k := 0) cl_12 (Nat.le_of_ble_eq_true rfl) lk_X12_7 rfl kc_167 kr_167_0 d_X12_sets_37 ?_
    refine jo_iconst 2 d_X12_sets_40 ?_
    refine jo_iald (N := 3160) kc_168 d_X12_sets_41 ?_
    refine jo_ishl d_X12_sets_42 ?_
    refine jo_icmp_ge 73 d_X12_sets_43 (by decide) ?_ ?_
    · skip
      exact jO.sub (t_X12_sets_L73 hs n v5 M) (And.intro rfl (And.intro rfl True.intro))
    · skip
      refine jo_iloadW 5 d_X12_sets_46 rfl ?_
      refine jo_aload 0 d_X12_sets_48 rfl rfl ?_
      refine jo_getR (k := 31) cl_12 (Nat.le_of_ble_eq_true rfl) lk_X12_65 rfl kc_167 kr_167_31 d_X12_sets_49 ?_
      refine jo_iloadW 6 d_X12_sets_52 rfl ?_
      refine jo_iald (N := 256) kc_182 d_X12_sets_54 ?_
      refine jo_iload 3 d_X12_sets_55 rfl rfl ?_
      refine jo_icmp_gt 63 d_X12_sets_56 (by decide) ?_ ?_
      · skip
        refine jo_iconst 0 d_X12_sets_63 ?_
        exact jO.sub (t_X12_sets_L64 hs n (f_X12_sets_L33 n k) ih v3 v6 v5 0 M) (And.intro rfl (And.intro rfl (And.intro rfl True.intro)))
      · skip
        refine jo_iconst 1 d_X12_sets_59 ?_
        refine jo_goto 64 d_X12_sets_60 (by decide) ?_
        exact jO.sub (t_X12_sets_L64 hs n (f_X12_sets_L33 n k) ih v3 v6 v5 1 M) (And.intro rfl (And.intro rfl (And.intro rfl True.intro)))
def f_X12_sets (n : Nat) (x1 : Int) (x2 : Int) (x3 : Int) (M : JMem) : Option (Int × JMem) := bnd (f_X12_wrongParrot n x1 x2 x3 M) fun r1 M2 => letv r1 fun y3 => if jw y3 ≤ 0 then (bnd (f_X12_laysSlips n x1 x2 M2) fun _ M5 => letv 0 fun y6 => letv 0 fun y7 => f_X12_sets_L33 n n x3 y6 y7 M5) else (bnd (f_X12_refuse n y3 M2) fun r8 M9 => some (r8, M9))
set_option maxRecDepth 4000 in
theorem t_X12_sets {g : JG} {ad : Nat → Nat} (hs : jStr g ad) (n : Nat) (x1 : Int) (x2 : Int) (x3 : Int) (M : JMem) : jB g D_X12_sets ad 0 [some (.ref 167), some (ji x1), some (ji x2), some (ji x3), none, none, none] [] M (f_X12_sets n x1 x2 x3 M) := by
  unfold f_X12_sets
  refine jo_aload 0 d_X12_sets_0 rfl rfl ?_
  refine jo_iload 1 d_X12_sets_1 rfl rfl ?_
  refine jo_iload 2 d_X12_sets_2 rfl rfl ?_
  refine jo_iload 3 d_X12_sets_3 rfl rfl ?_
  refine jo_callV (st := []) (m_X12_wrongParrot hs n x1 x2 x3 M) ok_X12_wrongParrot (And.intro (Nat.le_of_ble_eq_true rfl) (Nat.le_of_ble_eq_true rfl)) lm_X12_412 in_X12_wrongParrot se_X12_wrongParrot rfl kc_167 rfl rfl (And.intro (Nat.zero_le _) (Nat.zero_le _)) rfl (Nat.le_of_ble_eq_true rfl) d_X12_sets_4 (fun r1 M2 => ?_)
  refine jo_istoreW 4 d_X12_sets_7 (Nat.le_of_ble_eq_true rfl) (fun y3 => ?_)
  refine jo_iloadW 4 d_X12_sets_9 rfl ?_
  refine jo_if_le 21 d_X12_sets_11 (by decide) ?_ ?_
  · skip
    refine jo_aload 0 d_X12_sets_21 rfl rfl ?_
    refine jo_iload 1 d_X12_sets_22 rfl rfl ?_
    refine jo_iload 2 d_X12_sets_23 rfl rfl ?_
    refine jo_callV (st := []) (m_X12_laysSlips hs n x1 x2 M2) ok_X12_laysSlips (And.intro (Nat.le_of_ble_eq_true rfl) (Nat.le_of_ble_eq_true rfl)) lm_X12_415 in_X12_laysSlips se_X12_laysSlips rfl kc_167 rfl rfl (And.intro (Nat.zero_le _) (Nat.zero_le _)) rfl (Nat.le_of_ble_eq_true rfl) d_X12_sets_24 (fun _ M5 => ?_)
    refine jo_iconst 0 d_X12_sets_27 ?_
    refine jo_istoreW 5 d_X12_sets_28 (Nat.le_of_ble_eq_true rfl) (fun y6 => ?_)
    refine jo_iconst 0 d_X12_sets_30 ?_
    refine jo_istoreW 6 d_X12_sets_31 (Nat.le_of_ble_eq_true rfl) (fun y7 => ?_)
    exact jO.sub (t_X12_sets_L33 hs n n x3 y6 y7 M5) (And.intro rfl (And.intro rfl (And.intro rfl (And.intro rfl True.intro))))
  · skip
    refine jo_aload 0 d_X12_sets_14 rfl rfl ?_
    refine jo_iloadW 4 d_X12_sets_15 rfl ?_
    refine jo_callV (st := []) (m_X12_refuse hs n y3 M2) ok_X12_refuse (And.intro (Nat.le_of_ble_eq_true rfl) (Nat.le_of_ble_eq_true rfl)) lm_X12_87 in_X12_refuse se_X12_refuse rfl kc_167 rfl rfl (And.intro (Nat.zero_le _) (Nat.zero_le _)) rfl (Nat.le_of_ble_eq_true rfl) d_X12_sets_17 (fun r8 M9 => ?_)
    exact jo_iret rfl d_X12_sets_20
theorem m_X12_sets {g : JG} {ad : Nat → Nat} (hs : jStr g ad) (n : Nat) (x1 : Int) (x2 : Int) (x3 : Int) (M : JMem) : jMet g jNN ad jR D_X12_sets yX12_sets [.ref 167, ji x1, ji x2, ji x3] M (f_X12_sets n x1 x2 x3 M) :=
  jMet.of (lo0 := [some (.ref 167), some (ji x1), some (ji x2), some (ji x3), none, none, none]) (by decide) rfl rfl (Nat.le_of_ble_eq_true rfl) (And.intro rfl (And.intro rfl (And.intro rfl (And.intro rfl True.intro)))) (t_X12_sets hs n x1 x2 x3 M)
/-! CageLeaveModel.shift(II)Z -/
def D_X12_shift : JD := (RX12, cX12_shift, 3, some .boolean, "shift", { frames := 5, cells := 0, slots := 0, locals := 107 })
theorem ok_X12_shift : jOk D_X12_shift yX12_shift 2 := ⟨jTW_mem (k := 1845) (by decide +kernel) rfl, jTW_mem (k := 151) (by decide +kernel) rfl, ⟨by decide +kernel, by decide +kernel⟩, by decide +kernel, rfl, rfl⟩
theorem in_X12_shift : Cond.instanceMethod yX12_shift ∈ jTW := jTW_mem (k := 1843) (by decide +kernel) rfl
theorem se_X12_shift : Cond.selects yX12_shift.cls yX12_shift yX12_shift ∈ jTW := jTW_mem (k := 1844) (by decide +kernel) rfl
theorem d_X12_shift_0 : decode (D_X12_shift).2.1 0 = .ok (.aload_n 0, 1) := by decide +kernel
theorem d_X12_shift_1 : decode (D_X12_shift).2.1 1 = .ok (.iload_n 1, 1) := by decide +kernel
theorem d_X12_shift_2 : decode (D_X12_shift).2.1 2 = .ok (.invokevirtual 300, 3) := by decide +kernel
theorem d_X12_shift_5 : decode (D_X12_shift).2.1 5 = .ok (.ifCond .eq 15, 3) := by decide +kernel
theorem d_X12_shift_8 : decode (D_X12_shift).2.1 8 = .ok (.iload_n 2, 1) := by decide +kernel
theorem d_X12_shift_9 : decode (D_X12_shift).2.1 9 = .ok (.i2l, 1) := by decide +kernel
theorem d_X12_shift_10 : decode (D_X12_shift).2.1 10 = .ok (.lconst 0, 1) := by decide +kernel
theorem d_X12_shift_11 : decode (D_X12_shift).2.1 11 = .ok (.ldc2_w 349, 3) := by decide +kernel
theorem d_X12_shift_14 : decode (D_X12_shift).2.1 14 = .ok (.invokestatic 266, 3) := by decide +kernel
theorem d_X12_shift_17 : decode (D_X12_shift).2.1 17 = .ok (.ifCond .ne 9, 3) := by decide +kernel
theorem d_X12_shift_20 : decode (D_X12_shift).2.1 20 = .ok (.aload_n 0, 1) := by decide +kernel
theorem d_X12_shift_21 : decode (D_X12_shift).2.1 21 = .ok (.iconst 1, 1) := by decide +kernel
theorem d_X12_shift_22 : decode (D_X12_shift).2.1 22 = .ok (.invokevirtual 94, 3) := by decide +kernel
theorem d_X12_shift_25 : decode (D_X12_shift).2.1 25 = .ok (.ireturn, 1) := by decide +kernel
theorem d_X12_shift_26 : decode (D_X12_shift).2.1 26 = .ok (.aload_n 0, 1) := by decide +kernel
theorem d_X12_shift_27 : decode (D_X12_shift).2.1 27 = .ok (.bipush 10, 2) := by decide +kernel
theorem d_X12_shift_29 : decode (D_X12_shift).2.1 29 = .ok (.iload_n 1, 1) := by decide +kernel
theorem d_X12_shift_30 : decode (D_X12_shift).2.1 30 = .ok (.iadd, 1) := by decide +kernel
theorem d_X12_shift_31 : decode (D_X12_shift).2.1 31 = .ok (.invokevirtual 285, 3) := by decide +kernel
theorem d_X12_shift_34 : decode (D_X12_shift).2.1 34 = .ok (.ifCond .eq 10, 3) := by decide +kernel
theorem d_X12_shift_37 : decode (D_X12_shift).2.1 37 = .ok (.aload_n 0, 1) := by decide +kernel
theorem d_X12_shift_38 : decode (D_X12_shift).2.1 38 = .ok (.bipush 7, 2) := by decide +kernel
theorem d_X12_shift_40 : decode (D_X12_shift).2.1 40 = .ok (.invokevirtual 94, 3) := by decide +kernel
theorem d_X12_shift_43 : decode (D_X12_shift).2.1 43 = .ok (.ireturn, 1) := by decide +kernel
theorem d_X12_shift_44 : decode (D_X12_shift).2.1 44 = .ok (.aload_n 0, 1) := by decide +kernel
theorem d_X12_shift_45 : decode (D_X12_shift).2.1 45 = .ok (.getfield 7, 3) := by decide +kernel
theorem d_X12_shift_48 : decode (D_X12_shift).2.1 48 = .ok (.iload_n 1, 1) := by decide +kernel
theorem d_X12_shift_49 : decode (D_X12_shift).2.1 49 = .ok (.invokestatic 273, 3) := by decide +kernel
theorem d_X12_shift_52 : decode (D_X12_shift).2.1 52 = .ok (.iconst 2, 1) := by decide +kernel
theorem d_X12_shift_53 : decode (D_X12_shift).2.1 53 = .ok (.iadd, 1) := by decide +kernel
theorem d_X12_shift_54 : decode (D_X12_shift).2.1 54 = .ok (.iload_n 2, 1) := by decide +kernel
theorem d_X12_shift_55 : decode (D_X12_shift).2.1 55 = .ok (.iastore, 1) := by decide +kernel
theorem d_X12_shift_56 : decode (D_X12_shift).2.1 56 = .ok (.aload_n 0, 1) := by decide +kernel
theorem d_X12_shift_57 : decode (D_X12_shift).2.1 57 = .ok (.iconst 0, 1) := by decide +kernel
theorem d_X12_shift_58 : decode (D_X12_shift).2.1 58 = .ok (.invokevirtual 94, 3) := by decide +kernel
theorem d_X12_shift_61 : decode (D_X12_shift).2.1 61 = .ok (.ireturn, 1) := by decide +kernel
def f_X12_shift_L20 (n : Nat) (M : JMem) : Option (Int × JMem) := bnd (f_X12_is n 1 M) fun r1 M2 => chk (jw r1 = 0 ∨ jw r1 = 1) (some (r1, M2))
set_option maxRecDepth 4000 in
theorem t_X12_shift_L20 {g : JG} {ad : Nat → Nat} (hs : jStr g ad) (n : Nat) (M : JMem) : jB g D_X12_shift ad 20 [some (.ref 167), none, none] [] M (f_X12_shift_L20 n M) := by
  unfold f_X12_shift_L20
  refine jo_aload 0 d_X12_shift_20 rfl rfl ?_
  refine jo_iconst 1 d_X12_shift_21 ?_
  refine jo_callV (st := []) (m_X12_is hs n 1 M) ok_X12_is (And.intro (Nat.le_of_ble_eq_true rfl) (Nat.le_of_ble_eq_true rfl)) lm_X12_94 in_X12_is se_X12_is rfl kc_167 rfl rfl (And.intro (Nat.zero_le _) (Nat.zero_le _)) rfl (Nat.le_of_ble_eq_true rfl) d_X12_shift_22 (fun r1 M2 => ?_)
  exact jo_zretq rfl d_X12_shift_25
def f_X12_shift (n : Nat) (x1 : Int) (x2 : Int) (M : JMem) : Option (Int × JMem) := bnd (f_X12_isTrain n x1 M) fun r1 M2 => if jw r1 = 0 then (f_X12_shift_L20 n M2) else (bnd (f_X12_isFrom n (jw x2) 0 63 M2) fun r3 M4 => if jw r3 = 0 then (f_X12_shift_L20 n M4) else (bnd (f_X12_beastsAt n (10 + x1) M4) fun r5 M6 => if jw r5 = 0 then (bnd (f_X12_trainRow n x1 M6) fun r7 M8 => chk (jin (r7 + 2) 3160) <| letm (jup M8 168 (jw (r7 + 2)).toNat x2) fun M9 => bnd (f_X12_is n 0 M9) fun r10 M11 => chk (jw r10 = 0 ∨ jw r10 = 1) (some (r10, M11))) else (bnd (f_X12_is n 7 M6) fun r12 M13 => chk (jw r12 = 0 ∨ jw r12 = 1) (some (r12, M13)))))
set_option maxRecDepth 4000 in
theorem t_X12_shift {g : JG} {ad : Nat → Nat} (hs : jStr g ad) (n : Nat) (x1 : Int) (x2 : Int) (M : JMem) : jB g D_X12_shift ad 0 [some (.ref 167), some (ji x1), some (ji x2)] [] M (f_X12_shift n x1 x2 M) := by
  unfold f_X12_shift
  refine jo_aload 0 d_X12_shift_0 rfl rfl ?_
  refine jo_iload 1 d_X12_shift_1 rfl rfl ?_
  refine jo_callV (st := []) (m_X12_isTrain hs n x1 M) ok_X12_isTrain (And.intro (Nat.le_of_ble_eq_true rfl) (Nat.le_of_ble_eq_true rfl)) lm_X12_300 in_X12_isTrain se_X12_isTrain rfl kc_167 rfl rfl (And.intro (Nat.zero_le _) (Nat.zero_le _)) rfl (Nat.le_of_ble_eq_true rfl) d_X12_shift_2 (fun r1 M2 => ?_)
  refine jo_if_eq 20 d_X12_shift_5 (by decide) ?_ ?_
  · skip
    exact jO.sub (t_X12_shift_L20 hs n M2) (And.intro rfl True.intro)
  · skip
    refine jo_iload 2 d_X12_shift_8 rfl rfl ?_
    refine jo_i2l d_X12_shift_9 ?_
    refine jo_lconst0 d_X12_shift_10 ?_
    refine jo_ldc2 63 lc_X12_349 d_X12_shift_11 ?_
    refine jo_callS (st := []) (m_X12_isFrom hs n (jw x2) 0 63 M2) ok_X12_isFrom (And.intro (Nat.le_of_ble_eq_true rfl) (Nat.le_of_ble_eq_true rfl)) lm_X12_266 st_X12_isFrom rfl (And.intro (Nat.zero_le _) (Nat.zero_le _)) rfl (Nat.le_of_ble_eq_true rfl) d_X12_shift_14 (fun r3 M4 => ?_)
    refine jo_if_ne 26 d_X12_shift_17 (by decide) ?_ ?_
    · skip
      refine jo_aload 0 d_X12_shift_26 rfl rfl ?_
      refine jo_bipush 10 d_X12_shift_27 (by decide) ?_
      refine jo_iload 1 d_X12_shift_29 rfl rfl ?_
      refine jo_iadd d_X12_shift_30 ?_
      refine jo_callV (st := []) (m_X12_beastsAt hs n (10 + x1) M4) ok_X12_beastsAt (And.intro (Nat.le_of_ble_eq_true rfl) (Nat.le_of_ble_eq_true rfl)) lm_X12_285 in_X12_beastsAt se_X12_beastsAt rfl kc_167 rfl rfl (And.intro (Nat.zero_le _) (Nat.zero_le _)) rfl (Nat.le_of_ble_eq_true rfl) d_X12_shift_31 (fun r5 M6 => ?_)
      refine jo_if_eq 44 d_X12_shift_34 (by decide) ?_ ?_
      · skip
        refine jo_aload 0 d_X12_shift_44 rfl rfl ?_
        refine jo_getR (k := 0) cl_12 (Nat.le_of_ble_eq_true rfl) lk_X12_7 rfl kc_167 kr_167_0 d_X12_shift_45 ?_
        refine jo_iload 1 d_X12_shift_48 rfl rfl ?_
        refine jo_callS (st := [.ref 168]) (m_X12_trainRow hs n x1 M6) ok_X12_trainRow (And.intro (Nat.le_of_ble_eq_true rfl) (Nat.le_of_ble_eq_true rfl)) lm_X12_273 st_X12_trainRow rfl (And.intro (Nat.zero_le _) (Nat.zero_le _)) rfl (Nat.le_of_ble_eq_true rfl) d_X12_shift_49 (fun r7 M8 => ?_)
        refine jo_iconst 2 d_X12_shift_52 ?_
        refine jo_iadd d_X12_shift_53 ?_
        refine jo_iload 2 d_X12_shift_54 rfl rfl ?_
        refine jo_iast (N := 3160) kc_168 d_X12_shift_55 (fun M9 => ?_)
        refine jo_aload 0 d_X12_shift_56 rfl rfl ?_
        refine jo_iconst 0 d_X12_shift_57 ?_
        refine jo_callV (st := []) (m_X12_is hs n 0 M9) ok_X12_is (And.intro (Nat.le_of_ble_eq_true rfl) (Nat.le_of_ble_eq_true rfl)) lm_X12_94 in_X12_is se_X12_is rfl kc_167 rfl rfl (And.intro (Nat.zero_le _) (Nat.zero_le _)) rfl (Nat.le_of_ble_eq_true rfl) d_X12_shift_58 (fun r10 M11 => ?_)
        exact jo_zretq rfl d_X12_shift_61
      · skip
        refine jo_aload 0 d_X12_shift_37 rfl rfl ?_
        refine jo_bipush 7 d_X12_shift_38 (by decide) ?_
        refine jo_callV (st := []) (m_X12_is hs n 7 M6) ok_X12_is (And.intro (Nat.le_of_ble_eq_true rfl) (Nat.le_of_ble_eq_true rfl)) lm_X12_94 in_X12_is se_X12_is rfl kc_167 rfl rfl (And.intro (Nat.zero_le _) (Nat.zero_le _)) rfl (Nat.le_of_ble_eq_true rfl) d_X12_shift_40 (fun r12 M13 => ?_)
        exact jo_zretq rfl d_X12_shift_43
    · skip
      exact jO.sub (t_X12_shift_L20 hs n M4) (And.intro rfl True.intro)
theorem m_X12_shift {g : JG} {ad : Nat → Nat} (hs : jStr g ad) (n : Nat) (x1 : Int) (x2 : Int) (M : JMem) : jMet g jNN ad jR D_X12_shift yX12_shift [.ref 167, ji x1, ji x2] M (f_X12_shift n x1 x2 M) :=
  jMet.of (lo0 := [some (.ref 167), some (ji x1), some (ji x2)]) (by decide) rfl rfl (Nat.le_of_ble_eq_true rfl) (And.intro rfl (And.intro rfl (And.intro rfl True.intro))) (t_X12_shift hs n x1 x2 M)
/-! CageLeaveModel.slips(II)I -/
def D_X12_slips : JD := (RX12, cX12_slips, 6, some .int, "slips", { frames := 10, cells := 0, slots := 0, locals := 223 })
theorem ok_X12_slips : jOk D_X12_slips yX12_slips 2 := ⟨jTW_mem (k := 2026) (by decide +kernel) rfl, jTW_mem (k := 151) (by decide +kernel) rfl, ⟨by decide +kernel, by decide +kernel⟩, by decide +kernel, rfl, rfl⟩
theorem in_X12_slips : Cond.instanceMethod yX12_slips ∈ jTW := jTW_mem (k := 2024) (by decide +kernel) rfl
theorem se_X12_slips : Cond.selects yX12_slips.cls yX12_slips yX12_slips ∈ jTW := jTW_mem (k := 2025) (by decide +kernel) rfl
theorem d_X12_slips_0 : decode (D_X12_slips).2.1 0 = .ok (.aload_n 0, 1) := by decide +kernel
theorem d_X12_slips_1 : decode (D_X12_slips).2.1 1 = .ok (.iload_n 1, 1) := by decide +kernel
theorem d_X12_slips_2 : decode (D_X12_slips).2.1 2 = .ok (.iload_n 2, 1) := by decide +kernel
theorem d_X12_slips_3 : decode (D_X12_slips).2.1 3 = .ok (.iconst 0, 1) := by decide +kernel
theorem d_X12_slips_4 : decode (D_X12_slips).2.1 4 = .ok (.invokevirtual 412, 3) := by decide +kernel
theorem d_X12_slips_7 : decode (D_X12_slips).2.1 7 = .ok (.istore_n 3, 1) := by decide +kernel
theorem d_X12_slips_8 : decode (D_X12_slips).2.1 8 = .ok (.iload_n 3, 1) := by decide +kernel
theorem d_X12_slips_9 : decode (D_X12_slips).2.1 9 = .ok (.ifCond .le 9, 3) := by decide +kernel
theorem d_X12_slips_12 : decode (D_X12_slips).2.1 12 = .ok (.aload_n 0, 1) := by decide +kernel
theorem d_X12_slips_13 : decode (D_X12_slips).2.1 13 = .ok (.iload_n 3, 1) := by decide +kernel
theorem d_X12_slips_14 : decode (D_X12_slips).2.1 14 = .ok (.invokevirtual 87, 3) := by decide +kernel
theorem d_X12_slips_17 : decode (D_X12_slips).2.1 17 = .ok (.ireturn, 1) := by decide +kernel
theorem d_X12_slips_18 : decode (D_X12_slips).2.1 18 = .ok (.aload_n 0, 1) := by decide +kernel
theorem d_X12_slips_19 : decode (D_X12_slips).2.1 19 = .ok (.iload_n 1, 1) := by decide +kernel
theorem d_X12_slips_20 : decode (D_X12_slips).2.1 20 = .ok (.iload_n 2, 1) := by decide +kernel
theorem d_X12_slips_21 : decode (D_X12_slips).2.1 21 = .ok (.invokevirtual 415, 3) := by decide +kernel
theorem d_X12_slips_24 : decode (D_X12_slips).2.1 24 = .ok (.ldc_w 375, 3) := by decide +kernel
theorem d_X12_slips_27 : decode (D_X12_slips).2.1 27 = .ok (.istore 4, 2) := by decide +kernel
theorem d_X12_slips_29 : decode (D_X12_slips).2.1 29 = .ok (.iconst 0, 1) := by decide +kernel
theorem d_X12_slips_30 : decode (D_X12_slips).2.1 30 = .ok (.istore 5, 2) := by decide +kernel
theorem d_X12_slips_32 : decode (D_X12_slips).2.1 32 = .ok (.iload 5, 2) := by decide +kernel
theorem d_X12_slips_34 : decode (D_X12_slips).2.1 34 = .ok (.iconst 1, 1) := by decide +kernel
theorem d_X12_slips_35 : decode (D_X12_slips).2.1 35 = .ok (.aload_n 0, 1) := by decide +kernel
theorem d_X12_slips_36 : decode (D_X12_slips).2.1 36 = .ok (.getfield 7, 3) := by decide +kernel
theorem d_X12_slips_39 : decode (D_X12_slips).2.1 39 = .ok (.iconst 2, 1) := by decide +kernel
theorem d_X12_slips_40 : decode (D_X12_slips).2.1 40 = .ok (.iaload, 1) := by decide +kernel
theorem d_X12_slips_41 : decode (D_X12_slips).2.1 41 = .ok (.ishl, 1) := by decide +kernel
theorem d_X12_slips_42 : decode (D_X12_slips).2.1 42 = .ok (.if_icmp .ge 23, 3) := by decide +kernel
theorem d_X12_slips_45 : decode (D_X12_slips).2.1 45 = .ok (.iload 4, 2) := by decide +kernel
theorem d_X12_slips_47 : decode (D_X12_slips).2.1 47 = .ok (.aload_n 0, 1) := by decide +kernel
theorem d_X12_slips_48 : decode (D_X12_slips).2.1 48 = .ok (.getfield 65, 3) := by decide +kernel
theorem d_X12_slips_51 : decode (D_X12_slips).2.1 51 = .ok (.iload 5, 2) := by decide +kernel
theorem d_X12_slips_53 : decode (D_X12_slips).2.1 53 = .ok (.iaload, 1) := by decide +kernel
theorem d_X12_slips_54 : decode (D_X12_slips).2.1 54 = .ok (.invokestatic 142, 3) := by decide +kernel
theorem d_X12_slips_57 : decode (D_X12_slips).2.1 57 = .ok (.istore 4, 2) := by decide +kernel
theorem d_X12_slips_59 : decode (D_X12_slips).2.1 59 = .ok (.iinc 5 1, 3) := by decide +kernel
theorem d_X12_slips_62 : decode (D_X12_slips).2.1 62 = .ok (.goto (-30), 3) := by decide +kernel
theorem d_X12_slips_65 : decode (D_X12_slips).2.1 65 = .ok (.aload_n 0, 1) := by decide +kernel
theorem d_X12_slips_66 : decode (D_X12_slips).2.1 66 = .ok (.iload 4, 2) := by decide +kernel
theorem d_X12_slips_68 : decode (D_X12_slips).2.1 68 = .ok (.invokevirtual 91, 3) := by decide +kernel
theorem d_X12_slips_71 : decode (D_X12_slips).2.1 71 = .ok (.ireturn, 1) := by decide +kernel
def f_X12_slips_L65 (n : Nat) (v4 : Int) (M : JMem) : Option (Int × JMem) := bnd (f_X12_gives n v4 M) fun r1 M2 => some (r1, M2)
set_option maxRecDepth 4000 in
theorem t_X12_slips_L65 {g : JG} {ad : Nat → Nat} (hs : jStr g ad) (n : Nat) (v4 : Int) (M : JMem) : jB g D_X12_slips ad 65 [some (.ref 167), none, none, none, some (ji v4), none] [] M (f_X12_slips_L65 n v4 M) := by
  unfold f_X12_slips_L65
  refine jo_aload 0 d_X12_slips_65 rfl rfl ?_
  refine jo_iloadW 4 d_X12_slips_66 rfl ?_
  refine jo_callV (st := []) (m_X12_gives hs n v4 M) ok_X12_gives (And.intro (Nat.le_of_ble_eq_true rfl) (Nat.le_of_ble_eq_true rfl)) lm_X12_91 in_X12_gives se_X12_gives rfl kc_167 rfl rfl (And.intro (Nat.zero_le _) (Nat.zero_le _)) rfl (Nat.le_of_ble_eq_true rfl) d_X12_slips_68 (fun r1 M2 => ?_)
  exact jo_iret rfl d_X12_slips_71
def f_X12_slips_L32 (n : Nat) : Nat → Int → Int → JMem → Option (Int × JMem)
  | 0, _, _, _ => none
  | k + 1, v4, v5, M => chk (jin 2 3160) <| if jw (jshl 1 (M 168 (jw 2).toNat)) ≤ jw v5 then (f_X12_slips_L65 n v4 M) else (chk (jin v5 256) <| letv (jmin v4 (M 182 (jw v5).toNat)) fun y1 => letv (v5 + 1) fun y2 => (f_X12_slips_L32 n k) y1 y2 M)
set_option maxRecDepth 4000 in
theorem t_X12_slips_L32 {g : JG} {ad : Nat → Nat} (hs : jStr g ad) (n : Nat) : ∀ (k : Nat) (v4 v5 : Int) (M : JMem), jB g D_X12_slips ad 32 [some (.ref 167), none, none, none, some (ji v4), some (ji v5)] [] M (f_X12_slips_L32 n k v4 v5 M) := by
  intro k
  induction k with
  | zero => intro v4 v5 M; exact jO.none
  | succ k ih =>
    intro v4 v5 M
    rw [f_X12_slips_L32]
    refine jo_iloadW 5 d_X12_slips_32 rfl ?_
    refine jo_iconst 1 d_X12_slips_34 ?_
    refine jo_aload 0 d_X12_slips_35 rfl rfl ?_
    refine jo_getR (k := 0) cl_12 (Nat.le_of_ble_eq_true rfl) lk_X12_7 rfl kc_167 kr_167_0 d_X12_slips_36 ?_
    refine jo_iconst 2 d_X12_slips_39 ?_
    refine jo_iald (N := 3160) kc_168 d_X12_slips_40 ?_
    refine jo_ishl d_X12_slips_41 ?_
    refine jo_icmp_ge 65 d_X12_slips_42 (by decide) ?_ ?_
    · skip
      exact jO.sub (t_X12_slips_L65 hs n v4 M) (And.intro rfl (And.intro rfl True.intro))
    · skip
      refine jo_iloadW 4 d_X12_slips_45 rfl ?_
      refine jo_aload 0 d_X12_slips_47 rfl rfl ?_
      refine jo_getR (k := 31) cl_12 (Nat.le_of_ble_eq_true rfl) lk_X12_65 rfl kc_167 kr_167_31 d_X12_slips_48 ?_
      refine jo_iloadW 5 d_X12_slips_51 rfl ?_
      refine jo_iald (N := 256) kc_182 d_X12_slips_53 ?_
      refine jo_mmin lm_X12_142 (Nat.le_of_ble_eq_true rfl) (Nat.le_of_ble_eq_true rfl) (And.intro (Nat.zero_le _) (Nat.zero_le _)) d_X12_slips_54 ?_
      refine jo_istoreW 4 d_X12_slips_57 (Nat.le_of_ble_eq_true rfl) (fun y1 => ?_)
      refine jo_iinc 5 d_X12_slips_59 rfl (Nat.le_of_ble_eq_true rfl) (fun y2 => ?_)
      refine jo_goto 32 d_X12_slips_62 (by decide) ?_
      exact jO.sub (ih y1 y2 M) (And.intro rfl (And.intro rfl (And.intro rfl True.intro)))
def f_X12_slips (n : Nat) (x1 : Int) (x2 : Int) (M : JMem) : Option (Int × JMem) := bnd (f_X12_wrongParrot n x1 x2 0 M) fun r1 M2 => letv r1 fun y3 => if jw y3 ≤ 0 then (bnd (f_X12_laysSlips n x1 x2 M2) fun _ M5 => letv 1000000 fun y6 => letv 0 fun y7 => f_X12_slips_L32 n n y6 y7 M5) else (bnd (f_X12_refuse n y3 M2) fun r8 M9 => some (r8, M9))
set_option maxRecDepth 4000 in
theorem t_X12_slips {g : JG} {ad : Nat → Nat} (hs : jStr g ad) (n : Nat) (x1 : Int) (x2 : Int) (M : JMem) : jB g D_X12_slips ad 0 [some (.ref 167), some (ji x1), some (ji x2), none, none, none] [] M (f_X12_slips n x1 x2 M) := by
  unfold f_X12_slips
  refine jo_aload 0 d_X12_slips_0 rfl rfl ?_
  refine jo_iload 1 d_X12_slips_1 rfl rfl ?_
  refine jo_iload 2 d_X12_slips_2 rfl rfl ?_
  refine jo_iconst 0 d_X12_slips_3 ?_
  refine jo_callV (st := []) (m_X12_wrongParrot hs n x1 x2 0 M) ok_X12_wrongParrot (And.intro (Nat.le_of_ble_eq_true rfl) (Nat.le_of_ble_eq_true rfl)) lm_X12_412 in_X12_wrongParrot se_X12_wrongParrot rfl kc_167 rfl rfl (And.intro (Nat.zero_le _) (Nat.zero_le _)) rfl (Nat.le_of_ble_eq_true rfl) d_X12_slips_4 (fun r1 M2 => ?_)
  refine jo_istore 3 d_X12_slips_7 rfl (Nat.le_of_ble_eq_true rfl) (fun y3 => ?_)
  refine jo_iload 3 d_X12_slips_8 rfl rfl ?_
  refine jo_if_le 18 d_X12_slips_9 (by decide) ?_ ?_
  · skip
    refine jo_aload 0 d_X12_slips_18 rfl rfl ?_
    refine jo_iload 1 d_X12_slips_19 rfl rfl ?_
    refine jo_iload 2 d_X12_slips_20 rfl rfl ?_
    refine jo_callV (st := []) (m_X12_laysSlips hs n x1 x2 M2) ok_X12_laysSlips (And.intro (Nat.le_of_ble_eq_true rfl) (Nat.le_of_ble_eq_true rfl)) lm_X12_415 in_X12_laysSlips se_X12_laysSlips rfl kc_167 rfl rfl (And.intro (Nat.zero_le _) (Nat.zero_le _)) rfl (Nat.le_of_ble_eq_true rfl) d_X12_slips_21 (fun _ M5 => ?_)
    refine jo_ldcw 1000000 lc_X12_375 d_X12_slips_24 ?_
    refine jo_istoreW 4 d_X12_slips_27 (Nat.le_of_ble_eq_true rfl) (fun y6 => ?_)
    refine jo_iconst 0 d_X12_slips_29 ?_
    refine jo_istoreW 5 d_X12_slips_30 (Nat.le_of_ble_eq_true rfl) (fun y7 => ?_)
    exact jO.sub (t_X12_slips_L32 hs n n y6 y7 M5) (And.intro rfl (And.intro rfl (And.intro rfl True.intro)))
  · skip
    refine jo_aload 0 d_X12_slips_12 rfl rfl ?_
    refine jo_iload 3 d_X12_slips_13 rfl rfl ?_
    refine jo_callV (st := []) (m_X12_refuse hs n y3 M2) ok_X12_refuse (And.intro (Nat.le_of_ble_eq_true rfl) (Nat.le_of_ble_eq_true rfl)) lm_X12_87 in_X12_refuse se_X12_refuse rfl kc_167 rfl rfl (And.intro (Nat.zero_le _) (Nat.zero_le _)) rfl (Nat.le_of_ble_eq_true rfl) d_X12_slips_14 (fun r8 M9 => ?_)
    exact jo_iret rfl d_X12_slips_17
theorem m_X12_slips {g : JG} {ad : Nat → Nat} (hs : jStr g ad) (n : Nat) (x1 : Int) (x2 : Int) (M : JMem) : jMet g jNN ad jR D_X12_slips yX12_slips [.ref 167, ji x1, ji x2] M (f_X12_slips n x1 x2 M) :=
  jMet.of (lo0 := [some (.ref 167), some (ji x1), some (ji x2), none, none, none]) (by decide) rfl rfl (Nat.le_of_ble_eq_true rfl) (And.intro rfl (And.intro rfl (And.intro rfl True.intro))) (t_X12_slips hs n x1 x2 M)
/-! CageLeaveModel.snow(I)Z -/
def D_X12_snow : JD := (RX12, cX12_snow, 10, some .boolean, "snow", { frames := 4, cells := 0, slots := 0, locals := 91 })
theorem ok_X12_snow : jOk D_X12_snow yX12_snow 1 := ⟨jTW_mem (k := 1975) (by decide +kernel) rfl, jTW_mem (k := 151) (by decide +kernel) rfl, ⟨by decide +kernel, by decide +kernel⟩, by decide +kernel, rfl, rfl⟩
theorem in_X12_snow : Cond.instanceMethod yX12_snow ∈ jTW := jTW_mem (k := 1973) (by decide +kernel) rfl
theorem se_X12_snow : Cond.selects yX12_snow.cls yX12_snow yX12_snow ∈ jTW := jTW_mem (k := 1974) (by decide +kernel) rfl
theorem d_X12_snow_0 : decode (D_X12_snow).2.1 0 = .ok (.aload_n 0, 1) := by decide +kernel
theorem d_X12_snow_1 : decode (D_X12_snow).2.1 1 = .ok (.iload_n 1, 1) := by decide +kernel
theorem d_X12_snow_2 : decode (D_X12_snow).2.1 2 = .ok (.invokevirtual 306, 3) := by decide +kernel
theorem d_X12_snow_5 : decode (D_X12_snow).2.1 5 = .ok (.ifCond .ne 9, 3) := by decide +kernel
theorem d_X12_snow_8 : decode (D_X12_snow).2.1 8 = .ok (.aload_n 0, 1) := by decide +kernel
theorem d_X12_snow_9 : decode (D_X12_snow).2.1 9 = .ok (.iconst 1, 1) := by decide +kernel
theorem d_X12_snow_10 : decode (D_X12_snow).2.1 10 = .ok (.invokevirtual 94, 3) := by decide +kernel
theorem d_X12_snow_13 : decode (D_X12_snow).2.1 13 = .ok (.ireturn, 1) := by decide +kernel
theorem d_X12_snow_14 : decode (D_X12_snow).2.1 14 = .ok (.lconst 0, 1) := by decide +kernel
theorem d_X12_snow_15 : decode (D_X12_snow).2.1 15 = .ok (.lstore_n 2, 1) := by decide +kernel
theorem d_X12_snow_16 : decode (D_X12_snow).2.1 16 = .ok (.lconst 1, 1) := by decide +kernel
theorem d_X12_snow_17 : decode (D_X12_snow).2.1 17 = .ok (.lstore 4, 2) := by decide +kernel
theorem d_X12_snow_19 : decode (D_X12_snow).2.1 19 = .ok (.iconst 0, 1) := by decide +kernel
theorem d_X12_snow_20 : decode (D_X12_snow).2.1 20 = .ok (.istore 6, 2) := by decide +kernel
theorem d_X12_snow_22 : decode (D_X12_snow).2.1 22 = .ok (.iload 6, 2) := by decide +kernel
theorem d_X12_snow_24 : decode (D_X12_snow).2.1 24 = .ok (.aload_n 0, 1) := by decide +kernel
theorem d_X12_snow_25 : decode (D_X12_snow).2.1 25 = .ok (.getfield 7, 3) := by decide +kernel
theorem d_X12_snow_28 : decode (D_X12_snow).2.1 28 = .ok (.iconst 1, 1) := by decide +kernel
theorem d_X12_snow_29 : decode (D_X12_snow).2.1 29 = .ok (.iaload, 1) := by decide +kernel
theorem d_X12_snow_30 : decode (D_X12_snow).2.1 30 = .ok (.if_icmp .ge 34, 3) := by decide +kernel
theorem d_X12_snow_33 : decode (D_X12_snow).2.1 33 = .ok (.lload 4, 2) := by decide +kernel
theorem d_X12_snow_35 : decode (D_X12_snow).2.1 35 = .ok (.aload_n 0, 1) := by decide +kernel
theorem d_X12_snow_36 : decode (D_X12_snow).2.1 36 = .ok (.aload_n 0, 1) := by decide +kernel
theorem d_X12_snow_37 : decode (D_X12_snow).2.1 37 = .ok (.invokevirtual 379, 3) := by decide +kernel
theorem d_X12_snow_40 : decode (D_X12_snow).2.1 40 = .ok (.iload 6, 2) := by decide +kernel
theorem d_X12_snow_42 : decode (D_X12_snow).2.1 42 = .ok (.invokevirtual 315, 3) := by decide +kernel
theorem d_X12_snow_45 : decode (D_X12_snow).2.1 45 = .ok (.ifCond .eq 9, 3) := by decide +kernel
theorem d_X12_snow_48 : decode (D_X12_snow).2.1 48 = .ok (.ldc2_w 347, 3) := by decide +kernel
theorem d_X12_snow_51 : decode (D_X12_snow).2.1 51 = .ok (.goto 4, 3) := by decide +kernel
theorem d_X12_snow_54 : decode (D_X12_snow).2.1 54 = .ok (.lconst 1, 1) := by decide +kernel
theorem d_X12_snow_55 : decode (D_X12_snow).2.1 55 = .ok (.lmul, 1) := by decide +kernel
theorem d_X12_snow_56 : decode (D_X12_snow).2.1 56 = .ok (.lstore 4, 2) := by decide +kernel
theorem d_X12_snow_58 : decode (D_X12_snow).2.1 58 = .ok (.iinc 6 1, 3) := by decide +kernel
theorem d_X12_snow_61 : decode (D_X12_snow).2.1 61 = .ok (.goto (-39), 3) := by decide +kernel
theorem d_X12_snow_64 : decode (D_X12_snow).2.1 64 = .ok (.iconst 0, 1) := by decide +kernel
theorem d_X12_snow_65 : decode (D_X12_snow).2.1 65 = .ok (.istore 6, 2) := by decide +kernel
theorem d_X12_snow_67 : decode (D_X12_snow).2.1 67 = .ok (.iload 6, 2) := by decide +kernel
theorem d_X12_snow_69 : decode (D_X12_snow).2.1 69 = .ok (.iconst 1, 1) := by decide +kernel
theorem d_X12_snow_70 : decode (D_X12_snow).2.1 70 = .ok (.aload_n 0, 1) := by decide +kernel
theorem d_X12_snow_71 : decode (D_X12_snow).2.1 71 = .ok (.getfield 7, 3) := by decide +kernel
theorem d_X12_snow_74 : decode (D_X12_snow).2.1 74 = .ok (.iconst 1, 1) := by decide +kernel
theorem d_X12_snow_75 : decode (D_X12_snow).2.1 75 = .ok (.iaload, 1) := by decide +kernel
theorem d_X12_snow_76 : decode (D_X12_snow).2.1 76 = .ok (.ishl, 1) := by decide +kernel
theorem d_X12_snow_77 : decode (D_X12_snow).2.1 77 = .ok (.if_icmp .ge 119, 3) := by decide +kernel
theorem d_X12_snow_80 : decode (D_X12_snow).2.1 80 = .ok (.iload 6, 2) := by decide +kernel
theorem d_X12_snow_82 : decode (D_X12_snow).2.1 82 = .ok (.aload_n 0, 1) := by decide +kernel
theorem d_X12_snow_83 : decode (D_X12_snow).2.1 83 = .ok (.invokevirtual 379, 3) := by decide +kernel
theorem d_X12_snow_86 : decode (D_X12_snow).2.1 86 = .ok (.iconst (-1), 1) := by decide +kernel
theorem d_X12_snow_87 : decode (D_X12_snow).2.1 87 = .ok (.ixor, 1) := by decide +kernel
theorem d_X12_snow_88 : decode (D_X12_snow).2.1 88 = .ok (.iand, 1) := by decide +kernel
theorem d_X12_snow_89 : decode (D_X12_snow).2.1 89 = .ok (.ifCond .ne 101, 3) := by decide +kernel
theorem d_X12_snow_92 : decode (D_X12_snow).2.1 92 = .ok (.aload_n 0, 1) := by decide +kernel
theorem d_X12_snow_93 : decode (D_X12_snow).2.1 93 = .ok (.aload_n 0, 1) := by decide +kernel
theorem d_X12_snow_94 : decode (D_X12_snow).2.1 94 = .ok (.iload 6, 2) := by decide +kernel
theorem d_X12_snow_96 : decode (D_X12_snow).2.1 96 = .ok (.invokevirtual 390, 3) := by decide +kernel
theorem d_X12_snow_99 : decode (D_X12_snow).2.1 99 = .ok (.iload_n 1, 1) := by decide +kernel
theorem d_X12_snow_100 : decode (D_X12_snow).2.1 100 = .ok (.invokevirtual 315, 3) := by decide +kernel
theorem d_X12_snow_103 : decode (D_X12_snow).2.1 103 = .ok (.ifCond .ne 6, 3) := by decide +kernel
theorem d_X12_snow_106 : decode (D_X12_snow).2.1 106 = .ok (.goto 84, 3) := by decide +kernel
theorem d_X12_snow_109 : decode (D_X12_snow).2.1 109 = .ok (.lconst 1, 1) := by decide +kernel
theorem d_X12_snow_110 : decode (D_X12_snow).2.1 110 = .ok (.lstore 7, 2) := by decide +kernel
theorem d_X12_snow_112 : decode (D_X12_snow).2.1 112 = .ok (.iconst 0, 1) := by decide +kernel
theorem d_X12_snow_113 : decode (D_X12_snow).2.1 113 = .ok (.istore 9, 2) := by decide +kernel
theorem d_X12_snow_115 : decode (D_X12_snow).2.1 115 = .ok (.iload 9, 2) := by decide +kernel
theorem d_X12_snow_117 : decode (D_X12_snow).2.1 117 = .ok (.aload_n 0, 1) := by decide +kernel
theorem d_X12_snow_118 : decode (D_X12_snow).2.1 118 = .ok (.getfield 7, 3) := by decide +kernel
theorem d_X12_snow_121 : decode (D_X12_snow).2.1 121 = .ok (.iconst 1, 1) := by decide +kernel
theorem d_X12_snow_122 : decode (D_X12_snow).2.1 122 = .ok (.iaload, 1) := by decide +kernel
theorem d_X12_snow_123 : decode (D_X12_snow).2.1 123 = .ok (.if_icmp .ge 62, 3) := by decide +kernel
theorem d_X12_snow_126 : decode (D_X12_snow).2.1 126 = .ok (.lload 7, 2) := by decide +kernel
theorem d_X12_snow_128 : decode (D_X12_snow).2.1 128 = .ok (.aload_n 0, 1) := by decide +kernel
theorem d_X12_snow_129 : decode (D_X12_snow).2.1 129 = .ok (.aload_n 0, 1) := by decide +kernel
theorem d_X12_snow_130 : decode (D_X12_snow).2.1 130 = .ok (.invokevirtual 379, 3) := by decide +kernel
theorem d_X12_snow_133 : decode (D_X12_snow).2.1 133 = .ok (.iload 9, 2) := by decide +kernel
theorem d_X12_snow_135 : decode (D_X12_snow).2.1 135 = .ok (.invokevirtual 315, 3) := by decide +kernel
theorem d_X12_snow_138 : decode (D_X12_snow).2.1 138 = .ok (.ifCond .ne 7, 3) := by decide +kernel
theorem d_X12_snow_141 : decode (D_X12_snow).2.1 141 = .ok (.lconst 1, 1) := by decide +kernel
theorem d_X12_snow_142 : decode (D_X12_snow).2.1 142 = .ok (.goto 34, 3) := by decide +kernel
theorem d_X12_snow_145 : decode (D_X12_snow).2.1 145 = .ok (.aload_n 0, 1) := by decide +kernel
theorem d_X12_snow_146 : decode (D_X12_snow).2.1 146 = .ok (.iload 6, 2) := by decide +kernel
theorem d_X12_snow_148 : decode (D_X12_snow).2.1 148 = .ok (.iload 9, 2) := by decide +kernel
theorem d_X12_snow_150 : decode (D_X12_snow).2.1 150 = .ok (.invokevirtual 315, 3) := by decide +kernel
theorem d_X12_snow_153 : decode (D_X12_snow).2.1 153 = .ok (.ifCond .eq 16, 3) := by decide +kernel
theorem d_X12_snow_156 : decode (D_X12_snow).2.1 156 = .ok (.bipush 16, 2) := by decide +kernel
theorem d_X12_snow_158 : decode (D_X12_snow).2.1 158 = .ok (.aload_n 0, 1) := by decide +kernel
theorem d_X12_snow_159 : decode (D_X12_snow).2.1 159 = .ok (.getfield 7, 3) := by decide +kernel
theorem d_X12_snow_162 : decode (D_X12_snow).2.1 162 = .ok (.iconst 3, 1) := by decide +kernel
theorem d_X12_snow_163 : decode (D_X12_snow).2.1 163 = .ok (.iaload, 1) := by decide +kernel
theorem d_X12_snow_164 : decode (D_X12_snow).2.1 164 = .ok (.isub, 1) := by decide +kernel
theorem d_X12_snow_165 : decode (D_X12_snow).2.1 165 = .ok (.i2l, 1) := by decide +kernel
theorem d_X12_snow_166 : decode (D_X12_snow).2.1 166 = .ok (.goto 10, 3) := by decide +kernel
theorem d_X12_snow_169 : decode (D_X12_snow).2.1 169 = .ok (.aload_n 0, 1) := by decide +kernel
theorem d_X12_snow_170 : decode (D_X12_snow).2.1 170 = .ok (.getfield 7, 3) := by decide +kernel
theorem d_X12_snow_173 : decode (D_X12_snow).2.1 173 = .ok (.iconst 3, 1) := by decide +kernel
theorem d_X12_snow_174 : decode (D_X12_snow).2.1 174 = .ok (.iaload, 1) := by decide +kernel
theorem d_X12_snow_175 : decode (D_X12_snow).2.1 175 = .ok (.i2l, 1) := by decide +kernel
theorem d_X12_snow_176 : decode (D_X12_snow).2.1 176 = .ok (.lmul, 1) := by decide +kernel
theorem d_X12_snow_177 : decode (D_X12_snow).2.1 177 = .ok (.lstore 7, 2) := by decide +kernel
theorem d_X12_snow_179 : decode (D_X12_snow).2.1 179 = .ok (.iinc 9 1, 3) := by decide +kernel
theorem d_X12_snow_182 : decode (D_X12_snow).2.1 182 = .ok (.goto (-67), 3) := by decide +kernel
theorem d_X12_snow_185 : decode (D_X12_snow).2.1 185 = .ok (.lload_n 2, 1) := by decide +kernel
theorem d_X12_snow_186 : decode (D_X12_snow).2.1 186 = .ok (.lload 7, 2) := by decide +kernel
theorem d_X12_snow_188 : decode (D_X12_snow).2.1 188 = .ok (.ladd, 1) := by decide +kernel
theorem d_X12_snow_189 : decode (D_X12_snow).2.1 189 = .ok (.lstore_n 2, 1) := by decide +kernel
theorem d_X12_snow_190 : decode (D_X12_snow).2.1 190 = .ok (.iinc 6 1, 3) := by decide +kernel
theorem d_X12_snow_193 : decode (D_X12_snow).2.1 193 = .ok (.goto (-126), 3) := by decide +kernel
theorem d_X12_snow_196 : decode (D_X12_snow).2.1 196 = .ok (.aload_n 0, 1) := by decide +kernel
theorem d_X12_snow_197 : decode (D_X12_snow).2.1 197 = .ok (.lload_n 2, 1) := by decide +kernel
theorem d_X12_snow_198 : decode (D_X12_snow).2.1 198 = .ok (.lload 4, 2) := by decide +kernel
theorem d_X12_snow_200 : decode (D_X12_snow).2.1 200 = .ok (.invokevirtual 396, 3) := by decide +kernel
theorem d_X12_snow_203 : decode (D_X12_snow).2.1 203 = .ok (.ireturn, 1) := by decide +kernel
def f_X12_snow_L55 (n : Nat) (r22 : Int → Int → Int → Int → JMem → Option (Int × JMem)) (v1 v2 v6 w0 w1 : Int) (M : JMem) : Option (Int × JMem) := letv (w0 * w1) fun y1 => letv (v6 + 1) fun y2 => r22 v1 v2 y1 y2 M
set_option maxRecDepth 4000 in
theorem t_X12_snow_L55 {g : JG} {ad : Nat → Nat} (hs : jStr g ad) (n : Nat) (r22 : Int → Int → Int → Int → JMem → Option (Int × JMem)) (hr22 : ∀ (v1 v2 v4 v6 : Int) (M : JMem), jB g D_X12_snow ad 22 [some (.ref 167), some (ji v1), some (jl v2), none, some (jl v4), none, some (ji v6), none, none, none] [] M (r22 v1 v2 v4 v6 M)) (v1 v2 v6 w0 w1 : Int) (M : JMem) : jB g D_X12_snow ad 55 [some (.ref 167), some (ji v1), some (jl v2), none, none, none, some (ji v6), none, none, none] [jl w1, jl w0] M (f_X12_snow_L55 n r22 v1 v2 v6 w0 w1 M) := by
  unfold f_X12_snow_L55
  refine jo_lmul d_X12_snow_55 ?_
  refine jo_lstoreW 4 d_X12_snow_56 (Nat.le_of_ble_eq_true rfl) (fun y1 => ?_)
  refine jo_iinc 6 d_X12_snow_58 rfl (Nat.le_of_ble_eq_true rfl) (fun y2 => ?_)
  refine jo_goto 22 d_X12_snow_61 (by decide) ?_
  exact jO.sub (hr22 v1 v2 y1 y2 M) (And.intro rfl (And.intro rfl (And.intro rfl (And.intro rfl (And.intro rfl True.intro)))))
def f_X12_snow_L176 (n : Nat) (r67 : Int → Int → Int → Int → JMem → Option (Int × JMem)) (r115 : Int → Int → Int → Int → Int → Int → JMem → Option (Int × JMem)) (v1 v2 v4 v6 v9 w0 w1 : Int) (M : JMem) : Option (Int × JMem) := letv (w0 * w1) fun y1 => letv (v9 + 1) fun y2 => r115 v1 v2 v4 v6 y1 y2 M
set_option maxRecDepth 4000 in
theorem t_X12_snow_L176 {g : JG} {ad : Nat → Nat} (hs : jStr g ad) (n : Nat) (r67 : Int → Int → Int → Int → JMem → Option (Int × JMem)) (r115 : Int → Int → Int → Int → Int → Int → JMem → Option (Int × JMem)) (hr67 : ∀ (v1 v2 v4 v6 : Int) (M : JMem), jB g D_X12_snow ad 67 [some (.ref 167), some (ji v1), some (jl v2), none, some (jl v4), none, some (ji v6), none, none, none] [] M (r67 v1 v2 v4 v6 M)) (hr115 : ∀ (v1 v2 v4 v6 v7 v9 : Int) (M : JMem), jB g D_X12_snow ad 115 [some (.ref 167), some (ji v1), some (jl v2), none, some (jl v4), none, some (ji v6), some (jl v7), none, some (ji v9)] [] M (r115 v1 v2 v4 v6 v7 v9 M)) (v1 v2 v4 v6 v9 w0 w1 : Int) (M : JMem) : jB g D_X12_snow ad 176 [some (.ref 167), some (ji v1), some (jl v2), none, some (jl v4), none, some (ji v6), none, none, some (ji v9)] [jl w1, jl w0] M (f_X12_snow_L176 n r67 r115 v1 v2 v4 v6 v9 w0 w1 M) := by
  unfold f_X12_snow_L176
  refine jo_lmul d_X12_snow_176 ?_
  refine jo_lstoreW 7 d_X12_snow_177 (Nat.le_of_ble_eq_true rfl) (fun y1 => ?_)
  refine jo_iinc 9 d_X12_snow_179 rfl (Nat.le_of_ble_eq_true rfl) (fun y2 => ?_)
  refine jo_goto 115 d_X12_snow_182 (by decide) ?_
  exact jO.sub (hr115 v1 v2 v4 v6 y1 y2 M) (And.intro rfl (And.intro rfl (And.intro rfl (And.intro rfl (And.intro rfl (And.intro rfl (And.intro rfl True.intro)))))))
def f_X12_snow_L190 (n : Nat) (r67 : Int → Int → Int → Int → JMem → Option (Int × JMem)) (v1 v2 v4 v6 : Int) (M : JMem) : Option (Int × JMem) := letv (v6 + 1) fun y1 => r67 v1 v2 v4 y1 M
set_option maxRecDepth 4000 in
theorem t_X12_snow_L190 {g : JG} {ad : Nat → Nat} (hs : jStr g ad) (n : Nat) (r67 : Int → Int → Int → Int → JMem → Option (Int × JMem)) (hr67 : ∀ (v1 v2 v4 v6 : Int) (M : JMem), jB g D_X12_snow ad 67 [some (.ref 167), some (ji v1), some (jl v2), none, some (jl v4), none, some (ji v6), none, none, none] [] M (r67 v1 v2 v4 v6 M)) (v1 v2 v4 v6 : Int) (M : JMem) : jB g D_X12_snow ad 190 [some (.ref 167), some (ji v1), some (jl v2), none, some (jl v4), none, some (ji v6), none, none, none] [] M (f_X12_snow_L190 n r67 v1 v2 v4 v6 M) := by
  unfold f_X12_snow_L190
  refine jo_iinc 6 d_X12_snow_190 rfl (Nat.le_of_ble_eq_true rfl) (fun y1 => ?_)
  refine jo_goto 67 d_X12_snow_193 (by decide) ?_
  exact jO.sub (hr67 v1 v2 v4 y1 M) (And.intro rfl (And.intro rfl (And.intro rfl (And.intro rfl (And.intro rfl True.intro)))))
def f_X12_snow_L185 (n : Nat) (r67 : Int → Int → Int → Int → JMem → Option (Int × JMem)) (v1 v2 v4 v6 v7 : Int) (M : JMem) : Option (Int × JMem) := letv (v2 + v7) fun y1 => f_X12_snow_L190 n r67 v1 y1 v4 v6 M
set_option maxRecDepth 4000 in
theorem t_X12_snow_L185 {g : JG} {ad : Nat → Nat} (hs : jStr g ad) (n : Nat) (r67 : Int → Int → Int → Int → JMem → Option (Int × JMem)) (hr67 : ∀ (v1 v2 v4 v6 : Int) (M : JMem), jB g D_X12_snow ad 67 [some (.ref 167), some (ji v1), some (jl v2), none, some (jl v4), none, some (ji v6), none, none, none] [] M (r67 v1 v2 v4 v6 M)) (v1 v2 v4 v6 v7 : Int) (M : JMem) : jB g D_X12_snow ad 185 [some (.ref 167), some (ji v1), some (jl v2), none, some (jl v4), none, some (ji v6), some (jl v7), none, none] [] M (f_X12_snow_L185 n r67 v1 v2 v4 v6 v7 M) := by
  unfold f_X12_snow_L185
  refine jo_lload 2 d_X12_snow_185 rfl rfl ?_
  refine jo_lloadW 7 d_X12_snow_186 rfl ?_
  refine jo_ladd d_X12_snow_188 ?_
  refine jo_lstore 2 d_X12_snow_189 rfl (Nat.le_of_ble_eq_true rfl) (fun y1 => ?_)
  exact jO.sub (t_X12_snow_L190 hs n r67 hr67 v1 y1 v4 v6 M) (And.intro rfl (And.intro rfl (And.intro rfl (And.intro rfl (And.intro rfl True.intro)))))
def f_X12_snow_L115 (n : Nat) (r67 : Int → Int → Int → Int → JMem → Option (Int × JMem)) : Nat → Int → Int → Int → Int → Int → Int → JMem → Option (Int × JMem)
  | 0, _, _, _, _, _, _, _ => none
  | k + 1, v1, v2, v4, v6, v7, v9, M => chk (jin 1 3160) <| if jw (M 168 (jw 1).toNat) ≤ jw v9 then (f_X12_snow_L185 n r67 v1 v2 v4 v6 v7 M) else (bnd (f_X12_going n M) fun r1 M2 => bnd (f_X12_isIn n r1 v9 M2) fun r3 M4 => if jw r3 = 0 then (f_X12_snow_L176 n r67 (f_X12_snow_L115 n r67 k) v1 v2 v4 v6 v9 v7 1 M4) else (bnd (f_X12_isIn n v6 v9 M4) fun r5 M6 => if jw r5 = 0 then (chk (jin 3 3160) <| f_X12_snow_L176 n r67 (f_X12_snow_L115 n r67 k) v1 v2 v4 v6 v9 v7 (jw (M6 168 (jw 3).toNat)) M6) else (chk (jin 3 3160) <| f_X12_snow_L176 n r67 (f_X12_snow_L115 n r67 k) v1 v2 v4 v6 v9 v7 (jw (16 - (M6 168 (jw 3).toNat))) M6)))
set_option maxRecDepth 4000 in
theorem t_X12_snow_L115 {g : JG} {ad : Nat → Nat} (hs : jStr g ad) (n : Nat) (r67 : Int → Int → Int → Int → JMem → Option (Int × JMem)) (hr67 : ∀ (v1 v2 v4 v6 : Int) (M : JMem), jB g D_X12_snow ad 67 [some (.ref 167), some (ji v1), some (jl v2), none, some (jl v4), none, some (ji v6), none, none, none] [] M (r67 v1 v2 v4 v6 M)) : ∀ (k : Nat) (v1 v2 v4 v6 v7 v9 : Int) (M : JMem), jB g D_X12_snow ad 115 [some (.ref 167), some (ji v1), some (jl v2), none, some (jl v4), none, some (ji v6), some (jl v7), none, some (ji v9)] [] M (f_X12_snow_L115 n r67 k v1 v2 v4 v6 v7 v9 M) := by
  intro k
  induction k with
  | zero => intro v1 v2 v4 v6 v7 v9 M; exact jO.none
  | succ k ih =>
    intro v1 v2 v4 v6 v7 v9 M
    rw [f_X12_snow_L115]
    refine jo_iloadW 9 d_X12_snow_115 rfl ?_
    refine jo_aload 0 d_X12_snow_117 rfl rfl ?_
    refine jo_getR (k := 0) cl_12 (Nat.le_of_ble_eq_true rfl) lk_X12_7 rfl kc_167 kr_167_0 d_X12_snow_118 ?_
    refine jo_iconst 1 d_X12_snow_121 ?_
    refine jo_iald (N := 3160) kc_168 d_X12_snow_122 ?_
    refine jo_icmp_ge 185 d_X12_snow_123 (by decide) ?_ ?_
    · skip
      exact jO.sub (t_X12_snow_L185 hs n r67 hr67 v1 v2 v4 v6 v7 M) (And.intro rfl (And.intro rfl (And.intro rfl (And.intro rfl (And.intro rfl (And.intro rfl True.intro))))))
    · skip
      refine jo_lloadW 7 d_X12_snow_126 rfl ?_
      refine jo_aload 0 d_X12_snow_128 rfl rfl ?_
      refine jo_aload 0 d_X12_snow_129 rfl rfl ?_
      refine jo_callV (st := [.ref 167, jl v7]) (m_X12_going hs n M) ok_X12_going (And.intro (Nat.le_of_ble_eq_true rfl) (Nat.le_of_ble_eq_true rfl)) lm_X12_379 in_X12_going se_X12_going rfl kc_167 rfl rfl (And.intro (Nat.zero_le _) (Nat.zero_le _)) rfl (Nat.le_of_ble_eq_true rfl) d_X12_snow_130 (fun r1 M2 => ?_)
      refine jo_iloadW 9 d_X12_snow_133 rfl ?_
      refine jo_callV (st := [jl v7]) (m_X12_isIn hs n r1 v9 M2) ok_X12_isIn (And.intro (Nat.le_of_ble_eq_true rfl) (Nat.le_of_ble_eq_true rfl)) lm_X12_315 in_X12_isIn se_X12_isIn rfl kc_167 rfl rfl (And.intro (Nat.zero_le _) (Nat.zero_le _)) rfl (Nat.le_of_ble_eq_true rfl) d_X12_snow_135 (fun r3 M4 => ?_)
      refine jo_if_ne 145 d_X12_snow_138 (by decide) ?_ ?_
      · skip
        refine jo_aload 0 d_X12_snow_145 rfl rfl ?_
        refine jo_iloadW 6 d_X12_snow_146 rfl ?_
        refine jo_iloadW 9 d_X12_snow_148 rfl ?_
        refine jo_callV (st := [jl v7]) (m_X12_isIn hs n v6 v9 M4) ok_X12_isIn (And.intro (Nat.le_of_ble_eq_true rfl) (Nat.le_of_ble_eq_true rfl)) lm_X12_315 in_X12_isIn se_X12_isIn rfl kc_167 rfl rfl (And.intro (Nat.zero_le _) (Nat.zero_le _)) rfl (Nat.le_of_ble_eq_true rfl) d_X12_snow_150 (fun r5 M6 => ?_)
        refine jo_if_eq 169 d_X12_snow_153 (by decide) ?_ ?_
        · skip
          refine jo_aload 0 d_X12_snow_169 rfl rfl ?_
          refine jo_getR (k := 0) cl_12 (Nat.le_of_ble_eq_true rfl) lk_X12_7 rfl kc_167 kr_167_0 d_X12_snow_170 ?_
          refine jo_iconst 3 d_X12_snow_173 ?_
          refine jo_iald (N := 3160) kc_168 d_X12_snow_174 ?_
          refine jo_i2l d_X12_snow_175 ?_
          exact jO.sub (t_X12_snow_L176 hs n r67 (f_X12_snow_L115 n r67 k) hr67 ih v1 v2 v4 v6 v9 v7 (jw (M6 168 (jw 3).toNat)) M6) (And.intro rfl (And.intro rfl (And.intro rfl (And.intro rfl (And.intro rfl (And.intro rfl True.intro))))))
        · skip
          refine jo_bipush 16 d_X12_snow_156 (by decide) ?_
          refine jo_aload 0 d_X12_snow_158 rfl rfl ?_
          refine jo_getR (k := 0) cl_12 (Nat.le_of_ble_eq_true rfl) lk_X12_7 rfl kc_167 kr_167_0 d_X12_snow_159 ?_
          refine jo_iconst 3 d_X12_snow_162 ?_
          refine jo_iald (N := 3160) kc_168 d_X12_snow_163 ?_
          refine jo_isub d_X12_snow_164 ?_
          refine jo_i2l d_X12_snow_165 ?_
          refine jo_goto 176 d_X12_snow_166 (by decide) ?_
          exact jO.sub (t_X12_snow_L176 hs n r67 (f_X12_snow_L115 n r67 k) hr67 ih v1 v2 v4 v6 v9 v7 (jw (16 - (M6 168 (jw 3).toNat))) M6) (And.intro rfl (And.intro rfl (And.intro rfl (And.intro rfl (And.intro rfl (And.intro rfl True.intro))))))
      · skip
        refine jo_lconst1 d_X12_snow_141 ?_
        refine jo_goto 176 d_X12_snow_142 (by decide) ?_
        exact jO.sub (t_X12_snow_L176 hs n r67 (f_X12_snow_L115 n r67 k) hr67 ih v1 v2 v4 v6 v9 v7 1 M4) (And.intro rfl (And.intro rfl (And.intro rfl (And.intro rfl (And.intro rfl (And.intro rfl True.intro))))))
def f_X12_snow_L196 (n : Nat) (v2 v4 : Int) (M : JMem) : Option (Int × JMem) := bnd (f_X12_tellsBy n v2 v4 M) fun r1 M2 => chk (jw r1 = 0 ∨ jw r1 = 1) (some (r1, M2))
set_option maxRecDepth 4000 in
theorem t_X12_snow_L196 {g : JG} {ad : Nat → Nat} (hs : jStr g ad) (n : Nat) (v2 v4 : Int) (M : JMem) : jB g D_X12_snow ad 196 [some (.ref 167), none, some (jl v2), none, some (jl v4), none, none, none, none, none] [] M (f_X12_snow_L196 n v2 v4 M) := by
  unfold f_X12_snow_L196
  refine jo_aload 0 d_X12_snow_196 rfl rfl ?_
  refine jo_lload 2 d_X12_snow_197 rfl rfl ?_
  refine jo_lloadW 4 d_X12_snow_198 rfl ?_
  refine jo_callV (st := []) (m_X12_tellsBy hs n v2 v4 M) ok_X12_tellsBy (And.intro (Nat.le_of_ble_eq_true rfl) (Nat.le_of_ble_eq_true rfl)) lm_X12_396 in_X12_tellsBy se_X12_tellsBy rfl kc_167 rfl rfl (And.intro (Nat.zero_le _) (Nat.zero_le _)) rfl (Nat.le_of_ble_eq_true rfl) d_X12_snow_200 (fun r1 M2 => ?_)
  exact jo_zretq rfl d_X12_snow_203
def f_X12_snow_L67 (n : Nat) : Nat → Int → Int → Int → Int → JMem → Option (Int × JMem)
  | 0, _, _, _, _, _ => none
  | k + 1, v1, v2, v4, v6, M => chk (jin 1 3160) <| if jw (jshl 1 (M 168 (jw 1).toNat)) ≤ jw v6 then (f_X12_snow_L196 n v2 v4 M) else (bnd (f_X12_going n M) fun r1 M2 => if jw (jand v6 (jxor r1 (-1))) = 0 then (bnd (f_X12_reachBy n v6 M2) fun r3 M4 => bnd (f_X12_isIn n r3 v1 M4) fun r5 M6 => if jw r5 = 0 then (f_X12_snow_L190 n (f_X12_snow_L67 n k) v1 v2 v4 v6 M6) else (letv 1 fun y7 => letv 0 fun y8 => f_X12_snow_L115 n (f_X12_snow_L67 n k) n v1 v2 v4 v6 y7 y8 M6)) else (f_X12_snow_L190 n (f_X12_snow_L67 n k) v1 v2 v4 v6 M2))
set_option maxRecDepth 4000 in
theorem t_X12_snow_L67 {g : JG} {ad : Nat → Nat} (hs : jStr g ad) (n : Nat) : ∀ (k : Nat) (v1 v2 v4 v6 : Int) (M : JMem), jB g D_X12_snow ad 67 [some (.ref 167), some (ji v1), some (jl v2), none, some (jl v4), none, some (ji v6), none, none, none] [] M (f_X12_snow_L67 n k v1 v2 v4 v6 M) := by
  intro k
  induction k with
  | zero => intro v1 v2 v4 v6 M; exact jO.none
  | succ k ih =>
    intro v1 v2 v4 v6 M
    rw [f_X12_snow_L67]
    refine jo_iloadW 6 d_X12_snow_67 rfl ?_
    refine jo_iconst 1 d_X12_snow_69 ?_
    refine jo_aload 0 d_X12_snow_70 rfl rfl ?_
    refine jo_getR (k := 0) cl_12 (Nat.le_of_ble_eq_true rfl) lk_X12_7 rfl kc_167 kr_167_0 d_X12_snow_71 ?_
    refine jo_iconst 1 d_X12_snow_74 ?_
    refine jo_iald (N := 3160) kc_168 d_X12_snow_75 ?_
    refine jo_ishl d_X12_snow_76 ?_
    refine jo_icmp_ge 196 d_X12_snow_77 (by decide) ?_ ?_
    · skip
      exact jO.sub (t_X12_snow_L196 hs n v2 v4 M) (And.intro rfl (And.intro rfl (And.intro rfl True.intro)))
    · skip
      refine jo_iloadW 6 d_X12_snow_80 rfl ?_
      refine jo_aload 0 d_X12_snow_82 rfl rfl ?_
      refine jo_callV (st := [ji v6]) (m_X12_going hs n M) ok_X12_going (And.intro (Nat.le_of_ble_eq_true rfl) (Nat.le_of_ble_eq_true rfl)) lm_X12_379 in_X12_going se_X12_going rfl kc_167 rfl rfl (And.intro (Nat.zero_le _) (Nat.zero_le _)) rfl (Nat.le_of_ble_eq_true rfl) d_X12_snow_83 (fun r1 M2 => ?_)
      refine jo_iconst (-1) d_X12_snow_86 ?_
      refine jo_ixor d_X12_snow_87 ?_
      refine jo_iand d_X12_snow_88 ?_
      refine jo_if_ne 190 d_X12_snow_89 (by decide) ?_ ?_
      · skip
        exact jO.sub (t_X12_snow_L190 hs n (f_X12_snow_L67 n k) ih v1 v2 v4 v6 M2) (And.intro rfl (And.intro rfl (And.intro rfl (And.intro rfl (And.intro rfl True.intro)))))
      · skip
        refine jo_aload 0 d_X12_snow_92 rfl rfl ?_
        refine jo_aload 0 d_X12_snow_93 rfl rfl ?_
        refine jo_iloadW 6 d_X12_snow_94 rfl ?_
        refine jo_callV (st := [.ref 167]) (m_X12_reachBy hs n v6 M2) ok_X12_reachBy (And.intro (Nat.le_of_ble_eq_true rfl) (Nat.le_of_ble_eq_true rfl)) lm_X12_390 in_X12_reachBy se_X12_reachBy rfl kc_167 rfl rfl (And.intro (Nat.zero_le _) (Nat.zero_le _)) rfl (Nat.le_of_ble_eq_true rfl) d_X12_snow_96 (fun r3 M4 => ?_)
        refine jo_iload 1 d_X12_snow_99 rfl rfl ?_
        refine jo_callV (st := []) (m_X12_isIn hs n r3 v1 M4) ok_X12_isIn (And.intro (Nat.le_of_ble_eq_true rfl) (Nat.le_of_ble_eq_true rfl)) lm_X12_315 in_X12_isIn se_X12_isIn rfl kc_167 rfl rfl (And.intro (Nat.zero_le _) (Nat.zero_le _)) rfl (Nat.le_of_ble_eq_true rfl) d_X12_snow_100 (fun r5 M6 => ?_)
        refine jo_if_ne 109 d_X12_snow_103 (by decide) ?_ ?_
        · skip
          refine jo_lconst1 d_X12_snow_109 ?_
          refine jo_lstoreW 7 d_X12_snow_110 (Nat.le_of_ble_eq_true rfl) (fun y7 => ?_)
          refine jo_iconst 0 d_X12_snow_112 ?_
          refine jo_istoreW 9 d_X12_snow_113 (Nat.le_of_ble_eq_true rfl) (fun y8 => ?_)
          exact jO.sub (t_X12_snow_L115 hs n (f_X12_snow_L67 n k) ih n v1 v2 v4 v6 y7 y8 M6) (And.intro rfl (And.intro rfl (And.intro rfl (And.intro rfl (And.intro rfl (And.intro rfl (And.intro rfl True.intro)))))))
        · skip
          refine jo_goto 190 d_X12_snow_106 (by decide) ?_
          exact jO.sub (t_X12_snow_L190 hs n (f_X12_snow_L67 n k) ih v1 v2 v4 v6 M6) (And.intro rfl (And.intro rfl (And.intro rfl (And.intro rfl (And.intro rfl True.intro)))))
def f_X12_snow_L64 (n : Nat) (v1 v2 v4 : Int) (M : JMem) : Option (Int × JMem) := letv 0 fun y1 => f_X12_snow_L67 n n v1 v2 v4 y1 M
set_option maxRecDepth 4000 in
theorem t_X12_snow_L64 {g : JG} {ad : Nat → Nat} (hs : jStr g ad) (n : Nat) (v1 v2 v4 : Int) (M : JMem) : jB g D_X12_snow ad 64 [some (.ref 167), some (ji v1), some (jl v2), none, some (jl v4), none, none, none, none, none] [] M (f_X12_snow_L64 n v1 v2 v4 M) := by
  unfold f_X12_snow_L64
  refine jo_iconst 0 d_X12_snow_64 ?_
  refine jo_istoreW 6 d_X12_snow_65 (Nat.le_of_ble_eq_true rfl) (fun y1 => ?_)
  exact jO.sub (t_X12_snow_L67 hs n n v1 v2 v4 y1 M) (And.intro rfl (And.intro rfl (And.intro rfl (And.intro rfl (And.intro rfl True.intro)))))
def f_X12_snow_L22 (n : Nat) : Nat → Int → Int → Int → Int → JMem → Option (Int × JMem)
  | 0, _, _, _, _, _ => none
  | k + 1, v1, v2, v4, v6, M => chk (jin 1 3160) <| if jw (M 168 (jw 1).toNat) ≤ jw v6 then (f_X12_snow_L64 n v1 v2 v4 M) else (bnd (f_X12_going n M) fun r1 M2 => bnd (f_X12_isIn n r1 v6 M2) fun r3 M4 => if jw r3 = 0 then (f_X12_snow_L55 n (f_X12_snow_L22 n k) v1 v2 v6 v4 1 M4) else (f_X12_snow_L55 n (f_X12_snow_L22 n k) v1 v2 v6 v4 16 M4))
set_option maxRecDepth 4000 in
theorem t_X12_snow_L22 {g : JG} {ad : Nat → Nat} (hs : jStr g ad) (n : Nat) : ∀ (k : Nat) (v1 v2 v4 v6 : Int) (M : JMem), jB g D_X12_snow ad 22 [some (.ref 167), some (ji v1), some (jl v2), none, some (jl v4), none, some (ji v6), none, none, none] [] M (f_X12_snow_L22 n k v1 v2 v4 v6 M) := by
  intro k
  induction k with
  | zero => intro v1 v2 v4 v6 M; exact jO.none
  | succ k ih =>
    intro v1 v2 v4 v6 M
    rw [f_X12_snow_L22]
    refine jo_iloadW 6 d_X12_snow_22 rfl ?_
    refine jo_aload 0 d_X12_snow_24 rfl rfl ?_
    refine jo_getR (k := 0) cl_12 (Nat.le_of_ble_eq_true rfl) lk_X12_7 rfl kc_167 kr_167_0 d_X12_snow_25 ?_
    refine jo_iconst 1 d_X12_snow_28 ?_
    refine jo_iald (N := 3160) kc_168 d_X12_snow_29 ?_
    refine jo_icmp_ge 64 d_X12_snow_30 (by decide) ?_ ?_
    · skip
      exact jO.sub (t_X12_snow_L64 hs n v1 v2 v4 M) (And.intro rfl (And.intro rfl (And.intro rfl (And.intro rfl True.intro))))
    · skip
      refine jo_lloadW 4 d_X12_snow_33 rfl ?_
      refine jo_aload 0 d_X12_snow_35 rfl rfl ?_
      refine jo_aload 0 d_X12_snow_36 rfl rfl ?_
      refine jo_callV (st := [.ref 167, jl v4]) (m_X12_going hs n M) ok_X12_going (And.intro (Nat.le_of_ble_eq_true rfl) (Nat.le_of_ble_eq_true rfl)) lm_X12_379 in_X12_going se_X12_going rfl kc_167 rfl rfl (And.intro (Nat.zero_le _) (Nat.zero_le _)) rfl (Nat.le_of_ble_eq_true rfl) d_X12_snow_37 (fun r1 M2 => ?_)
      refine jo_iloadW 6 d_X12_snow_40 rfl ?_
      refine jo_callV (st := [jl v4]) (m_X12_isIn hs n r1 v6 M2) ok_X12_isIn (And.intro (Nat.le_of_ble_eq_true rfl) (Nat.le_of_ble_eq_true rfl)) lm_X12_315 in_X12_isIn se_X12_isIn rfl kc_167 rfl rfl (And.intro (Nat.zero_le _) (Nat.zero_le _)) rfl (Nat.le_of_ble_eq_true rfl) d_X12_snow_42 (fun r3 M4 => ?_)
      refine jo_if_eq 54 d_X12_snow_45 (by decide) ?_ ?_
      · skip
        refine jo_lconst1 d_X12_snow_54 ?_
        exact jO.sub (t_X12_snow_L55 hs n (f_X12_snow_L22 n k) ih v1 v2 v6 v4 1 M4) (And.intro rfl (And.intro rfl (And.intro rfl (And.intro rfl True.intro))))
      · skip
        refine jo_ldc2 16 lc_X12_347 d_X12_snow_48 ?_
        refine jo_goto 55 d_X12_snow_51 (by decide) ?_
        exact jO.sub (t_X12_snow_L55 hs n (f_X12_snow_L22 n k) ih v1 v2 v6 v4 16 M4) (And.intro rfl (And.intro rfl (And.intro rfl (And.intro rfl True.intro))))
def f_X12_snow (n : Nat) (x1 : Int) (M : JMem) : Option (Int × JMem) := bnd (f_X12_isPlace n x1 M) fun r1 M2 => if jw r1 = 0 then (bnd (f_X12_is n 1 M2) fun r6 M7 => chk (jw r6 = 0 ∨ jw r6 = 1) (some (r6, M7))) else (letv 0 fun y3 => letv 1 fun y4 => letv 0 fun y5 => f_X12_snow_L22 n n x1 y3 y4 y5 M2)
set_option maxRecDepth 4000 in
theorem t_X12_snow {g : JG} {ad : Nat → Nat} (hs : jStr g ad) (n : Nat) (x1 : Int) (M : JMem) : jB g D_X12_snow ad 0 [some (.ref 167), some (ji x1), none, none, none, none, none, none, none, none] [] M (f_X12_snow n x1 M) := by
  unfold f_X12_snow
  refine jo_aload 0 d_X12_snow_0 rfl rfl ?_
  refine jo_iload 1 d_X12_snow_1 rfl rfl ?_
  refine jo_callV (st := []) (m_X12_isPlace hs n x1 M) ok_X12_isPlace (And.intro (Nat.le_of_ble_eq_true rfl) (Nat.le_of_ble_eq_true rfl)) lm_X12_306 in_X12_isPlace se_X12_isPlace rfl kc_167 rfl rfl (And.intro (Nat.zero_le _) (Nat.zero_le _)) rfl (Nat.le_of_ble_eq_true rfl) d_X12_snow_2 (fun r1 M2 => ?_)
  refine jo_if_ne 14 d_X12_snow_5 (by decide) ?_ ?_
  · skip
    refine jo_lconst0 d_X12_snow_14 ?_
    refine jo_lstore 2 d_X12_snow_15 rfl (Nat.le_of_ble_eq_true rfl) (fun y3 => ?_)
    refine jo_lconst1 d_X12_snow_16 ?_
    refine jo_lstoreW 4 d_X12_snow_17 (Nat.le_of_ble_eq_true rfl) (fun y4 => ?_)
    refine jo_iconst 0 d_X12_snow_19 ?_
    refine jo_istoreW 6 d_X12_snow_20 (Nat.le_of_ble_eq_true rfl) (fun y5 => ?_)
    exact jO.sub (t_X12_snow_L22 hs n n x1 y3 y4 y5 M2) (And.intro rfl (And.intro rfl (And.intro rfl (And.intro rfl (And.intro rfl True.intro)))))
  · skip
    refine jo_aload 0 d_X12_snow_8 rfl rfl ?_
    refine jo_iconst 1 d_X12_snow_9 ?_
    refine jo_callV (st := []) (m_X12_is hs n 1 M2) ok_X12_is (And.intro (Nat.le_of_ble_eq_true rfl) (Nat.le_of_ble_eq_true rfl)) lm_X12_94 in_X12_is se_X12_is rfl kc_167 rfl rfl (And.intro (Nat.zero_le _) (Nat.zero_le _)) rfl (Nat.le_of_ble_eq_true rfl) d_X12_snow_10 (fun r6 M7 => ?_)
    exact jo_zretq rfl d_X12_snow_13
theorem m_X12_snow {g : JG} {ad : Nat → Nat} (hs : jStr g ad) (n : Nat) (x1 : Int) (M : JMem) : jMet g jNN ad jR D_X12_snow yX12_snow [.ref 167, ji x1] M (f_X12_snow n x1 M) :=
  jMet.of (lo0 := [some (.ref 167), some (ji x1), none, none, none, none, none, none, none, none]) (by decide) rfl rfl (Nat.le_of_ble_eq_true rfl) (And.intro rfl (And.intro rfl True.intro)) (t_X12_snow hs n x1 M)
end

section
/-! CageLeave$Now.isBusy(LCageLeave$Plan;)Z -/
def D_X1_isBusy : JD := (RX1, cX1_isBusy, 3, some .boolean, "isBusy", { frames := 0, cells := 0, slots := 0, locals := 0 })
theorem ok_X1_isBusy : jOk D_X1_isBusy yX1_isBusy 1 := ⟨jTW_mem (k := 1018) (by decide +kernel) rfl, jTW_mem (k := 144) (by decide +kernel) rfl, ⟨by decide +kernel, by decide +kernel⟩, by decide +kernel, rfl, rfl⟩
theorem in_X1_isBusy : Cond.instanceMethod yX1_isBusy ∈ jTW := jTW_mem (k := 1017) (by decide +kernel) rfl
theorem se_X1_isBusy : Cond.selects yX1_isBusy.cls yX1_isBusy yX1_isBusy ∈ jTW := jTW_mem (k := 23) (by decide +kernel) rfl
theorem lk_X1_75 : Cond.fieldLink RX1 75 (TX4 1).1 (TX4 1).2.1 (TX4 1).2.2.1 ∈ jTW := jTW_mem (k := 310) (by decide +kernel) rfl
theorem lk_X1_95 : Cond.fieldLink RX1 95 (TX4 10).1 (TX4 10).2.1 (TX4 10).2.2.1 ∈ jTW := jTW_mem (k := 340) (by decide +kernel) rfl
theorem d_X1_isBusy_0 : decode (D_X1_isBusy).2.1 0 = .ok (.iconst 0, 1) := by decide +kernel
theorem d_X1_isBusy_1 : decode (D_X1_isBusy).2.1 1 = .ok (.istore_n 2, 1) := by decide +kernel
theorem d_X1_isBusy_2 : decode (D_X1_isBusy).2.1 2 = .ok (.iload_n 2, 1) := by decide +kernel
theorem d_X1_isBusy_3 : decode (D_X1_isBusy).2.1 3 = .ok (.aload_n 1, 1) := by decide +kernel
theorem d_X1_isBusy_4 : decode (D_X1_isBusy).2.1 4 = .ok (.getfield 75, 3) := by decide +kernel
theorem d_X1_isBusy_7 : decode (D_X1_isBusy).2.1 7 = .ok (.if_icmp .ge 46, 3) := by decide +kernel
theorem d_X1_isBusy_10 : decode (D_X1_isBusy).2.1 10 = .ok (.aload_n 1, 1) := by decide +kernel
theorem d_X1_isBusy_11 : decode (D_X1_isBusy).2.1 11 = .ok (.getfield 95, 3) := by decide +kernel
theorem d_X1_isBusy_14 : decode (D_X1_isBusy).2.1 14 = .ok (.iload_n 2, 1) := by decide +kernel
theorem d_X1_isBusy_15 : decode (D_X1_isBusy).2.1 15 = .ok (.iaload, 1) := by decide +kernel
theorem d_X1_isBusy_16 : decode (D_X1_isBusy).2.1 16 = .ok (.aload_n 0, 1) := by decide +kernel
theorem d_X1_isBusy_17 : decode (D_X1_isBusy).2.1 17 = .ok (.getfield 15, 3) := by decide +kernel
theorem d_X1_isBusy_20 : decode (D_X1_isBusy).2.1 20 = .ok (.if_icmp .eq 25, 3) := by decide +kernel
theorem d_X1_isBusy_23 : decode (D_X1_isBusy).2.1 23 = .ok (.aload_n 0, 1) := by decide +kernel
theorem d_X1_isBusy_24 : decode (D_X1_isBusy).2.1 24 = .ok (.getfield 37, 3) := by decide +kernel
theorem d_X1_isBusy_27 : decode (D_X1_isBusy).2.1 27 = .ok (.iload_n 2, 1) := by decide +kernel
theorem d_X1_isBusy_28 : decode (D_X1_isBusy).2.1 28 = .ok (.iaload, 1) := by decide +kernel
theorem d_X1_isBusy_29 : decode (D_X1_isBusy).2.1 29 = .ok (.ifCond .eq 18, 3) := by decide +kernel
theorem d_X1_isBusy_32 : decode (D_X1_isBusy).2.1 32 = .ok (.aload_n 0, 1) := by decide +kernel
theorem d_X1_isBusy_33 : decode (D_X1_isBusy).2.1 33 = .ok (.getfield 40, 3) := by decide +kernel
theorem d_X1_isBusy_36 : decode (D_X1_isBusy).2.1 36 = .ok (.iload_n 2, 1) := by decide +kernel
theorem d_X1_isBusy_37 : decode (D_X1_isBusy).2.1 37 = .ok (.iaload, 1) := by decide +kernel
theorem d_X1_isBusy_38 : decode (D_X1_isBusy).2.1 38 = .ok (.aload_n 0, 1) := by decide +kernel
theorem d_X1_isBusy_39 : decode (D_X1_isBusy).2.1 39 = .ok (.getfield 15, 3) := by decide +kernel
theorem d_X1_isBusy_42 : decode (D_X1_isBusy).2.1 42 = .ok (.if_icmp .ne 5, 3) := by decide +kernel
theorem d_X1_isBusy_45 : decode (D_X1_isBusy).2.1 45 = .ok (.iconst 1, 1) := by decide +kernel
theorem d_X1_isBusy_46 : decode (D_X1_isBusy).2.1 46 = .ok (.ireturn, 1) := by decide +kernel
theorem d_X1_isBusy_47 : decode (D_X1_isBusy).2.1 47 = .ok (.iinc 2 1, 3) := by decide +kernel
theorem d_X1_isBusy_50 : decode (D_X1_isBusy).2.1 50 = .ok (.goto (-48), 3) := by decide +kernel
theorem d_X1_isBusy_53 : decode (D_X1_isBusy).2.1 53 = .ok (.iconst 0, 1) := by decide +kernel
theorem d_X1_isBusy_54 : decode (D_X1_isBusy).2.1 54 = .ok (.ireturn, 1) := by decide +kernel
def f_X1_isBusy_L47 (n : Nat) (th : Nat) (p1 : Nat) (r2 : Int → JMem → Option (Int × JMem)) (v2 : Int) (M : JMem) : Option (Int × JMem) := letv (v2 + 1) fun y1 => r2 y1 M
set_option maxRecDepth 4000 in
theorem t_X1_isBusy_L47 {g : JG} {ad : Nat → Nat} (hs : jStr g ad) (n : Nat) (th : Nat) (p1 : Nat) (hth : jK jNN (0, 1) th) (hp1 : jK jNN (0, 4) p1) (r2 : Int → JMem → Option (Int × JMem)) (hr2 : ∀ (v2 : Int) (M : JMem), jB g D_X1_isBusy ad 2 [some (.ref th), some (.ref p1), some (ji v2)] [] M (r2 v2 M)) (v2 : Int) (M : JMem) : jB g D_X1_isBusy ad 47 [some (.ref th), some (.ref p1), some (ji v2)] [] M (f_X1_isBusy_L47 n th p1 r2 v2 M) := by
  unfold f_X1_isBusy_L47
  refine jo_iinc 2 d_X1_isBusy_47 rfl (Nat.le_of_ble_eq_true rfl) (fun y1 => ?_)
  refine jo_goto 2 d_X1_isBusy_50 (by decide) ?_
  exact jO.sub (hr2 y1 M) (And.intro rfl (And.intro rfl (And.intro rfl True.intro)))
def f_X1_isBusy_L2 (n : Nat) (th : Nat) (p1 : Nat) : Nat → Int → JMem → Option (Int × JMem)
  | 0, _, _ => none
  | k + 1, v2, M => if jw (M p1 1) ≤ jw v2 then (some (0, M)) else (chk (jin v2 8) <| if jw (M (p1 + 6) (jw v2).toNat) = jw (M th 1) then (some (1, M)) else (chk (jin v2 8) <| if jw (M (th + 4) (jw v2).toNat) = 0 then (f_X1_isBusy_L47 n th p1 (f_X1_isBusy_L2 n th p1 k) v2 M) else (chk (jin v2 8) <| if jw (M (th + 5) (jw v2).toNat) = jw (M th 1) then (some (1, M)) else (f_X1_isBusy_L47 n th p1 (f_X1_isBusy_L2 n th p1 k) v2 M))))
set_option maxRecDepth 4000 in
theorem t_X1_isBusy_L2 {g : JG} {ad : Nat → Nat} (hs : jStr g ad) (n : Nat) (th : Nat) (p1 : Nat) (hth : jK jNN (0, 1) th) (hp1 : jK jNN (0, 4) p1) : ∀ (k : Nat) (v2 : Int) (M : JMem), jB g D_X1_isBusy ad 2 [some (.ref th), some (.ref p1), some (ji v2)] [] M (f_X1_isBusy_L2 n th p1 k v2 M) := by
  intro k
  induction k with
  | zero => intro v2 M; exact jO.none
  | succ k ih =>
    intro v2 M
    rw [f_X1_isBusy_L2]
    refine jo_iload 2 d_X1_isBusy_2 rfl rfl ?_
    refine jo_aload 1 d_X1_isBusy_3 rfl rfl ?_
    refine jo_getI (k := 1) cl_4 (Nat.le_of_ble_eq_true rfl) lk_X1_75 (Or.inl rfl) hp1 d_X1_isBusy_4 ?_
    refine jo_icmp_ge 53 d_X1_isBusy_7 (by decide) ?_ ?_
    · skip
      refine jo_iconst 0 d_X1_isBusy_53 ?_
      exact jo_zret rfl (by decide) d_X1_isBusy_54
    · skip
      refine jo_aload 1 d_X1_isBusy_10 rfl rfl ?_
      refine jo_getR (k := 10) cl_4 (Nat.le_of_ble_eq_true rfl) lk_X1_95 rfl hp1 (kr_Plan_10 hp1) d_X1_isBusy_11 ?_
      refine jo_iload 2 d_X1_isBusy_14 rfl rfl ?_
      refine jo_iald (N := 8) (ka_Plan_10 hp1) d_X1_isBusy_15 ?_
      refine jo_aload 0 d_X1_isBusy_16 rfl rfl ?_
      refine jo_getI (k := 1) cl_1 (Nat.le_of_ble_eq_true rfl) lk_X1_15 (Or.inl rfl) hth d_X1_isBusy_17 ?_
      refine jo_icmp_eq 45 d_X1_isBusy_20 (by decide) ?_ ?_
      · skip
        refine jo_iconst 1 d_X1_isBusy_45 ?_
        exact jo_zret rfl (by decide) d_X1_isBusy_46
      · skip
        refine jo_aload 0 d_X1_isBusy_23 rfl rfl ?_
        refine jo_getR (k := 8) cl_1 (Nat.le_of_ble_eq_true rfl) lk_X1_37 rfl hth (kr_Now_8 hth) d_X1_isBusy_24 ?_
        refine jo_iload 2 d_X1_isBusy_27 rfl rfl ?_
        refine jo_iald (N := 8) (ka_Now_8 hth) d_X1_isBusy_28 ?_
        refine jo_if_eq 47 d_X1_isBusy_29 (by decide) ?_ ?_
        · skip
          exact jO.sub (t_X1_isBusy_L47 hs n th p1 hth hp1 (f_X1_isBusy_L2 n th p1 k) ih v2 M) (And.intro rfl (And.intro rfl (And.intro rfl True.intro)))
        · skip
          refine jo_aload 0 d_X1_isBusy_32 rfl rfl ?_
          refine jo_getR (k := 9) cl_1 (Nat.le_of_ble_eq_true rfl) lk_X1_40 rfl hth (kr_Now_9 hth) d_X1_isBusy_33 ?_
          refine jo_iload 2 d_X1_isBusy_36 rfl rfl ?_
          refine jo_iald (N := 8) (ka_Now_9 hth) d_X1_isBusy_37 ?_
          refine jo_aload 0 d_X1_isBusy_38 rfl rfl ?_
          refine jo_getI (k := 1) cl_1 (Nat.le_of_ble_eq_true rfl) lk_X1_15 (Or.inl rfl) hth d_X1_isBusy_39 ?_
          refine jo_icmp_ne 47 d_X1_isBusy_42 (by decide) ?_ ?_
          · skip
            exact jO.sub (t_X1_isBusy_L47 hs n th p1 hth hp1 (f_X1_isBusy_L2 n th p1 k) ih v2 M) (And.intro rfl (And.intro rfl (And.intro rfl True.intro)))
          · skip
            refine jo_iconst 1 d_X1_isBusy_45 ?_
            exact jo_zret rfl (by decide) d_X1_isBusy_46
def f_X1_isBusy (n : Nat) (th : Nat) (p1 : Nat) (M : JMem) : Option (Int × JMem) := letv 0 fun y1 => f_X1_isBusy_L2 n th p1 n y1 M
set_option maxRecDepth 4000 in
theorem t_X1_isBusy {g : JG} {ad : Nat → Nat} (hs : jStr g ad) (n : Nat) (th : Nat) (p1 : Nat) (hth : jK jNN (0, 1) th) (hp1 : jK jNN (0, 4) p1) (M : JMem) : jB g D_X1_isBusy ad 0 [some (.ref th), some (.ref p1), none] [] M (f_X1_isBusy n th p1 M) := by
  unfold f_X1_isBusy
  refine jo_iconst 0 d_X1_isBusy_0 ?_
  refine jo_istore 2 d_X1_isBusy_1 rfl (Nat.le_of_ble_eq_true rfl) (fun y1 => ?_)
  exact jO.sub (t_X1_isBusy_L2 hs n th p1 hth hp1 n y1 M) (And.intro rfl (And.intro rfl (And.intro rfl True.intro)))
theorem m_X1_isBusy {g : JG} {ad : Nat → Nat} (hs : jStr g ad) (n : Nat) (th : Nat) (p1 : Nat) (hth : jK jNN (0, 1) th) (hp1 : jK jNN (0, 4) p1) (M : JMem) : jMet g jNN ad jR D_X1_isBusy yX1_isBusy [.ref th, .ref p1] M (f_X1_isBusy n th p1 M) :=
  jMet.of (lo0 := [some (.ref th), some (.ref p1), none]) (by decide) rfl rfl (Nat.le_of_ble_eq_true rfl) (And.intro rfl (And.intro rfl True.intro)) (t_X1_isBusy hs n th p1 hth hp1 M)
/-! CageLeave$Now.arrive(LCageLeave$Plan;)V -/
def D_X1_arrive : JD := (RX1, cX1_arrive, 3, none, "arrive", { frames := 0, cells := 0, slots := 0, locals := 0 })
theorem ok_X1_arrive : jOk D_X1_arrive yX1_arrive 1 := ⟨jTW_mem (k := 1022) (by decide +kernel) rfl, jTW_mem (k := 144) (by decide +kernel) rfl, ⟨by decide +kernel, by decide +kernel⟩, by decide +kernel, rfl, rfl⟩
theorem in_X1_arrive : Cond.instanceMethod yX1_arrive ∈ jTW := jTW_mem (k := 1021) (by decide +kernel) rfl
theorem se_X1_arrive : Cond.selects yX1_arrive.cls yX1_arrive yX1_arrive ∈ jTW := jTW_mem (k := 24) (by decide +kernel) rfl
theorem lk_X1_98 : Cond.fieldLink RX1 98 (TX4 9).1 (TX4 9).2.1 (TX4 9).2.2.1 ∈ jTW := jTW_mem (k := 335) (by decide +kernel) rfl
theorem d_X1_arrive_0 : decode (D_X1_arrive).2.1 0 = .ok (.iconst 0, 1) := by decide +kernel
theorem d_X1_arrive_1 : decode (D_X1_arrive).2.1 1 = .ok (.istore_n 2, 1) := by decide +kernel
theorem d_X1_arrive_2 : decode (D_X1_arrive).2.1 2 = .ok (.iload_n 2, 1) := by decide +kernel
theorem d_X1_arrive_3 : decode (D_X1_arrive).2.1 3 = .ok (.aload_n 1, 1) := by decide +kernel
theorem d_X1_arrive_4 : decode (D_X1_arrive).2.1 4 = .ok (.getfield 75, 3) := by decide +kernel
theorem d_X1_arrive_7 : decode (D_X1_arrive).2.1 7 = .ok (.if_icmp .ge 58, 3) := by decide +kernel
theorem d_X1_arrive_10 : decode (D_X1_arrive).2.1 10 = .ok (.aload_n 0, 1) := by decide +kernel
theorem d_X1_arrive_11 : decode (D_X1_arrive).2.1 11 = .ok (.getfield 37, 3) := by decide +kernel
theorem d_X1_arrive_14 : decode (D_X1_arrive).2.1 14 = .ok (.iload_n 2, 1) := by decide +kernel
theorem d_X1_arrive_15 : decode (D_X1_arrive).2.1 15 = .ok (.iaload, 1) := by decide +kernel
theorem d_X1_arrive_16 : decode (D_X1_arrive).2.1 16 = .ok (.ifCond .eq 43, 3) := by decide +kernel
theorem d_X1_arrive_19 : decode (D_X1_arrive).2.1 19 = .ok (.aload_n 0, 1) := by decide +kernel
theorem d_X1_arrive_20 : decode (D_X1_arrive).2.1 20 = .ok (.getfield 40, 3) := by decide +kernel
theorem d_X1_arrive_23 : decode (D_X1_arrive).2.1 23 = .ok (.iload_n 2, 1) := by decide +kernel
theorem d_X1_arrive_24 : decode (D_X1_arrive).2.1 24 = .ok (.iaload, 1) := by decide +kernel
theorem d_X1_arrive_25 : decode (D_X1_arrive).2.1 25 = .ok (.aload_n 0, 1) := by decide +kernel
theorem d_X1_arrive_26 : decode (D_X1_arrive).2.1 26 = .ok (.getfield 15, 3) := by decide +kernel
theorem d_X1_arrive_29 : decode (D_X1_arrive).2.1 29 = .ok (.if_icmp .ne 30, 3) := by decide +kernel
theorem d_X1_arrive_32 : decode (D_X1_arrive).2.1 32 = .ok (.aload_n 0, 1) := by decide +kernel
theorem d_X1_arrive_33 : decode (D_X1_arrive).2.1 33 = .ok (.getfield 34, 3) := by decide +kernel
theorem d_X1_arrive_36 : decode (D_X1_arrive).2.1 36 = .ok (.aload_n 1, 1) := by decide +kernel
theorem d_X1_arrive_37 : decode (D_X1_arrive).2.1 37 = .ok (.getfield 98, 3) := by decide +kernel
theorem d_X1_arrive_40 : decode (D_X1_arrive).2.1 40 = .ok (.iload_n 2, 1) := by decide +kernel
theorem d_X1_arrive_41 : decode (D_X1_arrive).2.1 41 = .ok (.iaload, 1) := by decide +kernel
theorem d_X1_arrive_42 : decode (D_X1_arrive).2.1 42 = .ok (.dup2, 1) := by decide +kernel
theorem d_X1_arrive_43 : decode (D_X1_arrive).2.1 43 = .ok (.iaload, 1) := by decide +kernel
theorem d_X1_arrive_44 : decode (D_X1_arrive).2.1 44 = .ok (.aload_n 0, 1) := by decide +kernel
theorem d_X1_arrive_45 : decode (D_X1_arrive).2.1 45 = .ok (.getfield 37, 3) := by decide +kernel
theorem d_X1_arrive_48 : decode (D_X1_arrive).2.1 48 = .ok (.iload_n 2, 1) := by decide +kernel
theorem d_X1_arrive_49 : decode (D_X1_arrive).2.1 49 = .ok (.iaload, 1) := by decide +kernel
theorem d_X1_arrive_50 : decode (D_X1_arrive).2.1 50 = .ok (.ior, 1) := by decide +kernel
theorem d_X1_arrive_51 : decode (D_X1_arrive).2.1 51 = .ok (.iastore, 1) := by decide +kernel
theorem d_X1_arrive_52 : decode (D_X1_arrive).2.1 52 = .ok (.aload_n 0, 1) := by decide +kernel
theorem d_X1_arrive_53 : decode (D_X1_arrive).2.1 53 = .ok (.getfield 37, 3) := by decide +kernel
theorem d_X1_arrive_56 : decode (D_X1_arrive).2.1 56 = .ok (.iload_n 2, 1) := by decide +kernel
theorem d_X1_arrive_57 : decode (D_X1_arrive).2.1 57 = .ok (.iconst 0, 1) := by decide +kernel
theorem d_X1_arrive_58 : decode (D_X1_arrive).2.1 58 = .ok (.iastore, 1) := by decide +kernel
theorem d_X1_arrive_59 : decode (D_X1_arrive).2.1 59 = .ok (.iinc 2 1, 3) := by decide +kernel
theorem d_X1_arrive_62 : decode (D_X1_arrive).2.1 62 = .ok (.goto (-60), 3) := by decide +kernel
theorem d_X1_arrive_65 : decode (D_X1_arrive).2.1 65 = .ok (.return_, 1) := by decide +kernel
def f_X1_arrive_L59 (n : Nat) (th : Nat) (p1 : Nat) (r2 : Int → JMem → Option (Int × JMem)) (v2 : Int) (M : JMem) : Option (Int × JMem) := letv (v2 + 1) fun y1 => r2 y1 M
set_option maxRecDepth 4000 in
theorem t_X1_arrive_L59 {g : JG} {ad : Nat → Nat} (hs : jStr g ad) (n : Nat) (th : Nat) (p1 : Nat) (hth : jK jNN (0, 1) th) (hp1 : jK jNN (0, 4) p1) (r2 : Int → JMem → Option (Int × JMem)) (hr2 : ∀ (v2 : Int) (M : JMem), jB g D_X1_arrive ad 2 [some (.ref th), some (.ref p1), some (ji v2)] [] M (r2 v2 M)) (v2 : Int) (M : JMem) : jB g D_X1_arrive ad 59 [some (.ref th), some (.ref p1), some (ji v2)] [] M (f_X1_arrive_L59 n th p1 r2 v2 M) := by
  unfold f_X1_arrive_L59
  refine jo_iinc 2 d_X1_arrive_59 rfl (Nat.le_of_ble_eq_true rfl) (fun y1 => ?_)
  refine jo_goto 2 d_X1_arrive_62 (by decide) ?_
  exact jO.sub (hr2 y1 M) (And.intro rfl (And.intro rfl (And.intro rfl True.intro)))
def f_X1_arrive_L2 (n : Nat) (th : Nat) (p1 : Nat) : Nat → Int → JMem → Option (Int × JMem)
  | 0, _, _ => none
  | k + 1, v2, M => if jw (M p1 1) ≤ jw v2 then (some (0, M)) else (chk (jin v2 8) <| if jw (M (th + 4) (jw v2).toNat) = 0 then (f_X1_arrive_L59 n th p1 (f_X1_arrive_L2 n th p1 k) v2 M) else (chk (jin v2 8) <| if jw (M (th + 5) (jw v2).toNat) = jw (M th 1) then (chk (jin v2 8) <| chk (jin (M (p1 + 5) (jw v2).toNat) 6) <| chk (jin v2 8) <| chk (jin (M (p1 + 5) (jw v2).toNat) 6) <| letm (jup M (th + 3) (jw (M (p1 + 5) (jw v2).toNat)).toNat (jor (M (th + 3) (jw (M (p1 + 5) (jw v2).toNat)).toNat) (M (th + 4) (jw v2).toNat))) fun M1 => chk (jin v2 8) <| letm (jup M1 (th + 4) (jw v2).toNat 0) fun M2 => f_X1_arrive_L59 n th p1 (f_X1_arrive_L2 n th p1 k) v2 M2) else (f_X1_arrive_L59 n th p1 (f_X1_arrive_L2 n th p1 k) v2 M)))
set_option maxRecDepth 4000 in
theorem t_X1_arrive_L2 {g : JG} {ad : Nat → Nat} (hs : jStr g ad) (n : Nat) (th : Nat) (p1 : Nat) (hth : jK jNN (0, 1) th) (hp1 : jK jNN (0, 4) p1) : ∀ (k : Nat) (v2 : Int) (M : JMem), jB g D_X1_arrive ad 2 [some (.ref th), some (.ref p1), some (ji v2)] [] M (f_X1_arrive_L2 n th p1 k v2 M) := by
  intro k
  induction k with
  | zero => intro v2 M; exact jO.none
  | succ k ih =>
    intro v2 M
    rw [f_X1_arrive_L2]
    refine jo_iload 2 d_X1_arrive_2 rfl rfl ?_
    refine jo_aload 1 d_X1_arrive_3 rfl rfl ?_
    refine jo_getI (k := 1) cl_4 (Nat.le_of_ble_eq_true rfl) lk_X1_75 (Or.inl rfl) hp1 d_X1_arrive_4 ?_
    refine jo_icmp_ge 65 d_X1_arrive_7 (by decide) ?_ ?_
    · skip
      exact jo_vret rfl d_X1_arrive_65
    · skip
      refine jo_aload 0 d_X1_arrive_10 rfl rfl ?_
      refine jo_getR (k := 8) cl_1 (Nat.le_of_ble_eq_true rfl) lk_X1_37 rfl hth (kr_Now_8 hth) d_X1_arrive_11 ?_
      refine jo_iload 2 d_X1_arrive_14 rfl rfl ?_
      refine jo_iald (N := 8) (ka_Now_8 hth) d_X1_arrive_15 ?_
      refine jo_if_eq 59 d_X1_arrive_16 (by decide) ?_ ?_
      · skip
        exact jO.sub (t_X1_arrive_L59 hs n th p1 hth hp1 (f_X1_arrive_L2 n th p1 k) ih v2 M) (And.intro rfl (And.intro rfl (And.intro rfl True.intro)))
      · skip
        refine jo_aload 0 d_X1_arrive_19 rfl rfl ?_
        refine jo_getR (k := 9) cl_1 (Nat.le_of_ble_eq_true rfl) lk_X1_40 rfl hth (kr_Now_9 hth) d_X1_arrive_20 ?_
        refine jo_iload 2 d_X1_arrive_23 rfl rfl ?_
        refine jo_iald (N := 8) (ka_Now_9 hth) d_X1_arrive_24 ?_
        refine jo_aload 0 d_X1_arrive_25 rfl rfl ?_
        refine jo_getI (k := 1) cl_1 (Nat.le_of_ble_eq_true rfl) lk_X1_15 (Or.inl rfl) hth d_X1_arrive_26 ?_
        refine jo_icmp_ne 59 d_X1_arrive_29 (by decide) ?_ ?_
        · skip
          exact jO.sub (t_X1_arrive_L59 hs n th p1 hth hp1 (f_X1_arrive_L2 n th p1 k) ih v2 M) (And.intro rfl (And.intro rfl (And.intro rfl True.intro)))
        · skip
          refine jo_aload 0 d_X1_arrive_32 rfl rfl ?_
          refine jo_getR (k := 7) cl_1 (Nat.le_of_ble_eq_true rfl) lk_X1_34 rfl hth (kr_Now_7 hth) d_X1_arrive_33 ?_
          refine jo_aload 1 d_X1_arrive_36 rfl rfl ?_
          refine jo_getR (k := 9) cl_4 (Nat.le_of_ble_eq_true rfl) lk_X1_98 rfl hp1 (kr_Plan_9 hp1) d_X1_arrive_37 ?_
          refine jo_iload 2 d_X1_arrive_40 rfl rfl ?_
          refine jo_iald (N := 8) (ka_Plan_9 hp1) d_X1_arrive_41 ?_
          refine jo_dup2 d_X1_arrive_42 rfl rfl ?_
          refine jo_iald (N := 6) (ka_Now_7 hth) d_X1_arrive_43 ?_
          refine jo_aload 0 d_X1_arrive_44 rfl rfl ?_
          refine jo_getR (k := 8) cl_1 (Nat.le_of_ble_eq_true rfl) lk_X1_37 rfl hth (kr_Now_8 hth) d_X1_arrive_45 ?_
          refine jo_iload 2 d_X1_arrive_48 rfl rfl ?_
          refine jo_iald (N := 8) (ka_Now_8 hth) d_X1_arrive_49 ?_
          refine jo_ior d_X1_arrive_50 ?_
          refine jo_iast (N := 6) (ka_Now_7 hth) d_X1_arrive_51 (fun M1 => ?_)
          refine jo_aload 0 d_X1_arrive_52 rfl rfl ?_
          refine jo_getR (k := 8) cl_1 (Nat.le_of_ble_eq_true rfl) lk_X1_37 rfl hth (kr_Now_8 hth) d_X1_arrive_53 ?_
          refine jo_iload 2 d_X1_arrive_56 rfl rfl ?_
          refine jo_iconst 0 d_X1_arrive_57 ?_
          refine jo_iast (N := 8) (ka_Now_8 hth) d_X1_arrive_58 (fun M2 => ?_)
          exact jO.sub (t_X1_arrive_L59 hs n th p1 hth hp1 (f_X1_arrive_L2 n th p1 k) ih v2 M2) (And.intro rfl (And.intro rfl (And.intro rfl True.intro)))
def f_X1_arrive (n : Nat) (th : Nat) (p1 : Nat) (M : JMem) : Option (Int × JMem) := letv 0 fun y1 => f_X1_arrive_L2 n th p1 n y1 M
set_option maxRecDepth 4000 in
theorem t_X1_arrive {g : JG} {ad : Nat → Nat} (hs : jStr g ad) (n : Nat) (th : Nat) (p1 : Nat) (hth : jK jNN (0, 1) th) (hp1 : jK jNN (0, 4) p1) (M : JMem) : jB g D_X1_arrive ad 0 [some (.ref th), some (.ref p1), none] [] M (f_X1_arrive n th p1 M) := by
  unfold f_X1_arrive
  refine jo_iconst 0 d_X1_arrive_0 ?_
  refine jo_istore 2 d_X1_arrive_1 rfl (Nat.le_of_ble_eq_true rfl) (fun y1 => ?_)
  exact jO.sub (t_X1_arrive_L2 hs n th p1 hth hp1 n y1 M) (And.intro rfl (And.intro rfl (And.intro rfl True.intro)))
theorem m_X1_arrive {g : JG} {ad : Nat → Nat} (hs : jStr g ad) (n : Nat) (th : Nat) (p1 : Nat) (hth : jK jNN (0, 1) th) (hp1 : jK jNN (0, 4) p1) (M : JMem) : jMet g jNN ad jR D_X1_arrive yX1_arrive [.ref th, .ref p1] M (f_X1_arrive n th p1 M) :=
  jMet.of (lo0 := [some (.ref th), some (.ref p1), none]) (by decide) rfl rfl (Nat.le_of_ble_eq_true rfl) (And.intro rfl (And.intro rfl True.intro)) (t_X1_arrive hs n th p1 hth hp1 M)
/-! CageLeave.isIn(II)Z -/
def D_X11_isIn : JD := (RX11, cX11_isIn, 2, some .boolean, "isIn", { frames := 0, cells := 0, slots := 0, locals := 0 })
theorem ok_X11_isIn : jOk D_X11_isIn yX11_isIn 2 := ⟨jTW_mem (k := 863) (by decide +kernel) rfl, jTW_mem (k := 135) (by decide +kernel) rfl, ⟨by decide +kernel, by decide +kernel⟩, by decide +kernel, rfl, rfl⟩
theorem st_X11_isIn : Cond.static yX11_isIn ∈ jTW := jTW_mem (k := 862) (by decide +kernel) rfl
theorem d_X11_isIn_0 : decode (D_X11_isIn).2.1 0 = .ok (.iload_n 0, 1) := by decide +kernel
theorem d_X11_isIn_1 : decode (D_X11_isIn).2.1 1 = .ok (.iload_n 1, 1) := by decide +kernel
theorem d_X11_isIn_2 : decode (D_X11_isIn).2.1 2 = .ok (.ishr, 1) := by decide +kernel
theorem d_X11_isIn_3 : decode (D_X11_isIn).2.1 3 = .ok (.iconst 1, 1) := by decide +kernel
theorem d_X11_isIn_4 : decode (D_X11_isIn).2.1 4 = .ok (.iand, 1) := by decide +kernel
theorem d_X11_isIn_5 : decode (D_X11_isIn).2.1 5 = .ok (.ifCond .eq 7, 3) := by decide +kernel
theorem d_X11_isIn_8 : decode (D_X11_isIn).2.1 8 = .ok (.iconst 1, 1) := by decide +kernel
theorem d_X11_isIn_9 : decode (D_X11_isIn).2.1 9 = .ok (.goto 4, 3) := by decide +kernel
theorem d_X11_isIn_12 : decode (D_X11_isIn).2.1 12 = .ok (.iconst 0, 1) := by decide +kernel
theorem d_X11_isIn_13 : decode (D_X11_isIn).2.1 13 = .ok (.ireturn, 1) := by decide +kernel
def f_X11_isIn (n : Nat) (x0 : Int) (x1 : Int) (M : JMem) : Option (Int × JMem) := if jw (jand (jshr x0 x1) 1) = 0 then (some (0, M)) else (some (1, M))
set_option maxRecDepth 4000 in
theorem t_X11_isIn {g : JG} {ad : Nat → Nat} (hs : jStr g ad) (n : Nat) (x0 : Int) (x1 : Int) (M : JMem) : jB g D_X11_isIn ad 0 [some (ji x0), some (ji x1)] [] M (f_X11_isIn n x0 x1 M) := by
  unfold f_X11_isIn
  refine jo_iload 0 d_X11_isIn_0 rfl rfl ?_
  refine jo_iload 1 d_X11_isIn_1 rfl rfl ?_
  refine jo_ishr d_X11_isIn_2 ?_
  refine jo_iconst 1 d_X11_isIn_3 ?_
  refine jo_iand d_X11_isIn_4 ?_
  refine jo_if_eq 12 d_X11_isIn_5 (by decide) ?_ ?_
  · skip
    refine jo_iconst 0 d_X11_isIn_12 ?_
    exact jo_zret rfl (by decide) d_X11_isIn_13
  · skip
    refine jo_iconst 1 d_X11_isIn_8 ?_
    refine jo_goto 13 d_X11_isIn_9 (by decide) ?_
    exact jo_zret rfl (by decide) d_X11_isIn_13
theorem m_X11_isIn {g : JG} {ad : Nat → Nat} (hs : jStr g ad) (n : Nat) (x0 : Int) (x1 : Int) (M : JMem) : jMet g jNN ad jR D_X11_isIn yX11_isIn [ji x0, ji x1] M (f_X11_isIn n x0 x1 M) :=
  jMet.of (lo0 := [some (ji x0), some (ji x1)]) (by decide) rfl rfl (Nat.le_of_ble_eq_true rfl) (And.intro rfl (And.intro rfl True.intro)) (t_X11_isIn hs n x0 x1 M)
/-! CageLeave$Now.board(LCageLeave$Plan;I)V -/
def D_X1_board : JD := (RX1, cX1_board, 7, none, "board", { frames := 1, cells := 0, slots := 0, locals := 21 })
theorem ok_X1_board : jOk D_X1_board yX1_board 2 := ⟨jTW_mem (k := 1030) (by decide +kernel) rfl, jTW_mem (k := 144) (by decide +kernel) rfl, ⟨by decide +kernel, by decide +kernel⟩, by decide +kernel, rfl, rfl⟩
theorem in_X1_board : Cond.instanceMethod yX1_board ∈ jTW := jTW_mem (k := 1029) (by decide +kernel) rfl
theorem se_X1_board : Cond.selects yX1_board.cls yX1_board yX1_board ∈ jTW := jTW_mem (k := 26) (by decide +kernel) rfl
theorem lk_X1_59 : Cond.fieldLink RX1 59 (TX4 2).1 (TX4 2).2.1 (TX4 2).2.2.1 ∈ jTW := jTW_mem (k := 315) (by decide +kernel) rfl
theorem lm_X1_68 : Cond.methodLinkNest RX1 68 yX11_isIn "CageLeave" ∈ jNW := by decide +kernel
theorem lk_X1_111 : Cond.fieldLink RX1 111 (TX4 11).1 (TX4 11).2.1 (TX4 11).2.2.1 ∈ jTW := jTW_mem (k := 345) (by decide +kernel) rfl
theorem lk_X1_108 : Cond.fieldLink RX1 108 (TX4 12).1 (TX4 12).2.1 (TX4 12).2.2.1 ∈ jTW := jTW_mem (k := 349) (by decide +kernel) rfl
theorem lk_X1_105 : Cond.fieldLink RX1 105 (TX4 8).1 (TX4 8).2.1 (TX4 8).2.2.1 ∈ jTW := jTW_mem (k := 330) (by decide +kernel) rfl
theorem d_X1_board_0 : decode (D_X1_board).2.1 0 = .ok (.aload_n 1, 1) := by decide +kernel
theorem d_X1_board_1 : decode (D_X1_board).2.1 1 = .ok (.getfield 105, 3) := by decide +kernel
theorem d_X1_board_4 : decode (D_X1_board).2.1 4 = .ok (.iload_n 2, 1) := by decide +kernel
theorem d_X1_board_5 : decode (D_X1_board).2.1 5 = .ok (.iaload, 1) := by decide +kernel
theorem d_X1_board_6 : decode (D_X1_board).2.1 6 = .ok (.istore_n 3, 1) := by decide +kernel
theorem d_X1_board_7 : decode (D_X1_board).2.1 7 = .ok (.iload_n 3, 1) := by decide +kernel
theorem d_X1_board_8 : decode (D_X1_board).2.1 8 = .ok (.ifCond .ne 17, 3) := by decide +kernel
theorem d_X1_board_11 : decode (D_X1_board).2.1 11 = .ok (.aload_n 0, 1) := by decide +kernel
theorem d_X1_board_12 : decode (D_X1_board).2.1 12 = .ok (.getfield 34, 3) := by decide +kernel
theorem d_X1_board_15 : decode (D_X1_board).2.1 15 = .ok (.iload_n 3, 1) := by decide +kernel
theorem d_X1_board_16 : decode (D_X1_board).2.1 16 = .ok (.iaload, 1) := by decide +kernel
theorem d_X1_board_17 : decode (D_X1_board).2.1 17 = .ok (.aload_n 0, 1) := by decide +kernel
theorem d_X1_board_18 : decode (D_X1_board).2.1 18 = .ok (.getfield 18, 3) := by decide +kernel
theorem d_X1_board_21 : decode (D_X1_board).2.1 21 = .ok (.iand, 1) := by decide +kernel
theorem d_X1_board_22 : decode (D_X1_board).2.1 22 = .ok (.goto 9, 3) := by decide +kernel
theorem d_X1_board_25 : decode (D_X1_board).2.1 25 = .ok (.aload_n 0, 1) := by decide +kernel
theorem d_X1_board_26 : decode (D_X1_board).2.1 26 = .ok (.getfield 34, 3) := by decide +kernel
theorem d_X1_board_29 : decode (D_X1_board).2.1 29 = .ok (.iload_n 3, 1) := by decide +kernel
theorem d_X1_board_30 : decode (D_X1_board).2.1 30 = .ok (.iaload, 1) := by decide +kernel
theorem d_X1_board_31 : decode (D_X1_board).2.1 31 = .ok (.istore 4, 2) := by decide +kernel
theorem d_X1_board_33 : decode (D_X1_board).2.1 33 = .ok (.aload_n 1, 1) := by decide +kernel
theorem d_X1_board_34 : decode (D_X1_board).2.1 34 = .ok (.getfield 108, 3) := by decide +kernel
theorem d_X1_board_37 : decode (D_X1_board).2.1 37 = .ok (.iload_n 2, 1) := by decide +kernel
theorem d_X1_board_38 : decode (D_X1_board).2.1 38 = .ok (.iaload, 1) := by decide +kernel
theorem d_X1_board_39 : decode (D_X1_board).2.1 39 = .ok (.istore 5, 2) := by decide +kernel
theorem d_X1_board_41 : decode (D_X1_board).2.1 41 = .ok (.iconst 0, 1) := by decide +kernel
theorem d_X1_board_42 : decode (D_X1_board).2.1 42 = .ok (.istore 6, 2) := by decide +kernel
theorem d_X1_board_44 : decode (D_X1_board).2.1 44 = .ok (.iload 6, 2) := by decide +kernel
theorem d_X1_board_46 : decode (D_X1_board).2.1 46 = .ok (.aload_n 1, 1) := by decide +kernel
theorem d_X1_board_47 : decode (D_X1_board).2.1 47 = .ok (.getfield 59, 3) := by decide +kernel
theorem d_X1_board_50 : decode (D_X1_board).2.1 50 = .ok (.if_icmp .ge 86, 3) := by decide +kernel
theorem d_X1_board_53 : decode (D_X1_board).2.1 53 = .ok (.iload 5, 2) := by decide +kernel
theorem d_X1_board_55 : decode (D_X1_board).2.1 55 = .ok (.ifCond .le 81, 3) := by decide +kernel
theorem d_X1_board_58 : decode (D_X1_board).2.1 58 = .ok (.iload 4, 2) := by decide +kernel
theorem d_X1_board_60 : decode (D_X1_board).2.1 60 = .ok (.iload 6, 2) := by decide +kernel
theorem d_X1_board_62 : decode (D_X1_board).2.1 62 = .ok (.invokestatic 68, 3) := by decide +kernel
theorem d_X1_board_65 : decode (D_X1_board).2.1 65 = .ok (.ifCond .eq 65, 3) := by decide +kernel
theorem d_X1_board_68 : decode (D_X1_board).2.1 68 = .ok (.aload_n 0, 1) := by decide +kernel
theorem d_X1_board_69 : decode (D_X1_board).2.1 69 = .ok (.getfield 27, 3) := by decide +kernel
theorem d_X1_board_72 : decode (D_X1_board).2.1 72 = .ok (.iload 6, 2) := by decide +kernel
theorem d_X1_board_74 : decode (D_X1_board).2.1 74 = .ok (.iaload, 1) := by decide +kernel
theorem d_X1_board_75 : decode (D_X1_board).2.1 75 = .ok (.iload_n 2, 1) := by decide +kernel
theorem d_X1_board_76 : decode (D_X1_board).2.1 76 = .ok (.invokestatic 68, 3) := by decide +kernel
theorem d_X1_board_79 : decode (D_X1_board).2.1 79 = .ok (.ifCond .eq 51, 3) := by decide +kernel
theorem d_X1_board_82 : decode (D_X1_board).2.1 82 = .ok (.aload_n 0, 1) := by decide +kernel
theorem d_X1_board_83 : decode (D_X1_board).2.1 83 = .ok (.getfield 34, 3) := by decide +kernel
theorem d_X1_board_86 : decode (D_X1_board).2.1 86 = .ok (.iload_n 3, 1) := by decide +kernel
theorem d_X1_board_87 : decode (D_X1_board).2.1 87 = .ok (.dup2, 1) := by decide +kernel
theorem d_X1_board_88 : decode (D_X1_board).2.1 88 = .ok (.iaload, 1) := by decide +kernel
theorem d_X1_board_89 : decode (D_X1_board).2.1 89 = .ok (.iconst 1, 1) := by decide +kernel
theorem d_X1_board_90 : decode (D_X1_board).2.1 90 = .ok (.iload 6, 2) := by decide +kernel
theorem d_X1_board_92 : decode (D_X1_board).2.1 92 = .ok (.ishl, 1) := by decide +kernel
theorem d_X1_board_93 : decode (D_X1_board).2.1 93 = .ok (.iconst (-1), 1) := by decide +kernel
theorem d_X1_board_94 : decode (D_X1_board).2.1 94 = .ok (.ixor, 1) := by decide +kernel
theorem d_X1_board_95 : decode (D_X1_board).2.1 95 = .ok (.iand, 1) := by decide +kernel
theorem d_X1_board_96 : decode (D_X1_board).2.1 96 = .ok (.iastore, 1) := by decide +kernel
theorem d_X1_board_97 : decode (D_X1_board).2.1 97 = .ok (.aload_n 0, 1) := by decide +kernel
theorem d_X1_board_98 : decode (D_X1_board).2.1 98 = .ok (.getfield 37, 3) := by decide +kernel
theorem d_X1_board_101 : decode (D_X1_board).2.1 101 = .ok (.iload_n 2, 1) := by decide +kernel
theorem d_X1_board_102 : decode (D_X1_board).2.1 102 = .ok (.dup2, 1) := by decide +kernel
theorem d_X1_board_103 : decode (D_X1_board).2.1 103 = .ok (.iaload, 1) := by decide +kernel
theorem d_X1_board_104 : decode (D_X1_board).2.1 104 = .ok (.iconst 1, 1) := by decide +kernel
theorem d_X1_board_105 : decode (D_X1_board).2.1 105 = .ok (.iload 6, 2) := by decide +kernel
theorem d_X1_board_107 : decode (D_X1_board).2.1 107 = .ok (.ishl, 1) := by decide +kernel
theorem d_X1_board_108 : decode (D_X1_board).2.1 108 = .ok (.ior, 1) := by decide +kernel
theorem d_X1_board_109 : decode (D_X1_board).2.1 109 = .ok (.iastore, 1) := by decide +kernel
theorem d_X1_board_110 : decode (D_X1_board).2.1 110 = .ok (.aload_n 0, 1) := by decide +kernel
theorem d_X1_board_111 : decode (D_X1_board).2.1 111 = .ok (.getfield 40, 3) := by decide +kernel
theorem d_X1_board_114 : decode (D_X1_board).2.1 114 = .ok (.iload_n 2, 1) := by decide +kernel
theorem d_X1_board_115 : decode (D_X1_board).2.1 115 = .ok (.aload_n 0, 1) := by decide +kernel
theorem d_X1_board_116 : decode (D_X1_board).2.1 116 = .ok (.getfield 15, 3) := by decide +kernel
theorem d_X1_board_119 : decode (D_X1_board).2.1 119 = .ok (.aload_n 1, 1) := by decide +kernel
theorem d_X1_board_120 : decode (D_X1_board).2.1 120 = .ok (.getfield 111, 3) := by decide +kernel
theorem d_X1_board_123 : decode (D_X1_board).2.1 123 = .ok (.iload_n 2, 1) := by decide +kernel
theorem d_X1_board_124 : decode (D_X1_board).2.1 124 = .ok (.iaload, 1) := by decide +kernel
theorem d_X1_board_125 : decode (D_X1_board).2.1 125 = .ok (.iadd, 1) := by decide +kernel
theorem d_X1_board_126 : decode (D_X1_board).2.1 126 = .ok (.iastore, 1) := by decide +kernel
theorem d_X1_board_127 : decode (D_X1_board).2.1 127 = .ok (.iinc 5 (-1), 3) := by decide +kernel
theorem d_X1_board_130 : decode (D_X1_board).2.1 130 = .ok (.iinc 6 1, 3) := by decide +kernel
theorem d_X1_board_133 : decode (D_X1_board).2.1 133 = .ok (.goto (-89), 3) := by decide +kernel
theorem d_X1_board_136 : decode (D_X1_board).2.1 136 = .ok (.return_, 1) := by decide +kernel
def f_X1_board_L130 (n : Nat) (th : Nat) (p1 : Nat) (r44 : Int → Int → Int → Int → Int → JMem → Option (Int × JMem)) (v2 v3 v4 v5 v6 : Int) (M : JMem) : Option (Int × JMem) := letv (v6 + 1) fun y1 => r44 v2 v3 v4 v5 y1 M
set_option maxRecDepth 4000 in
theorem t_X1_board_L130 {g : JG} {ad : Nat → Nat} (hs : jStr g ad) (n : Nat) (th : Nat) (p1 : Nat) (hth : jK jNN (0, 1) th) (hp1 : jK jNN (0, 4) p1) (r44 : Int → Int → Int → Int → Int → JMem → Option (Int × JMem)) (hr44 : ∀ (v2 v3 v4 v5 v6 : Int) (M : JMem), jB g D_X1_board ad 44 [some (.ref th), some (.ref p1), some (ji v2), some (ji v3), some (ji v4), some (ji v5), some (ji v6)] [] M (r44 v2 v3 v4 v5 v6 M)) (v2 v3 v4 v5 v6 : Int) (M : JMem) : jB g D_X1_board ad 130 [some (.ref th), some (.ref p1), some (ji v2), some (ji v3), some (ji v4), some (ji v5), some (ji v6)] [] M (f_X1_board_L130 n th p1 r44 v2 v3 v4 v5 v6 M) := by
  unfold f_X1_board_L130
  refine jo_iinc 6 d_X1_board_130 rfl (Nat.le_of_ble_eq_true rfl) (fun y1 => ?_)
  refine jo_goto 44 d_X1_board_133 (by decide) ?_
  exact jO.sub (hr44 v2 v3 v4 v5 y1 M) (And.intro rfl (And.intro rfl (And.intro rfl (And.intro rfl (And.intro rfl (And.intro rfl (And.intro rfl True.intro)))))))
def f_X1_board_L44 (n : Nat) (th : Nat) (p1 : Nat) : Nat → Int → Int → Int → Int → Int → JMem → Option (Int × JMem)
  | 0, _, _, _, _, _, _ => none
  | k + 1, v2, v3, v4, v5, v6, M => if jw (M p1 2) ≤ jw v6 then (some (0, M)) else (if jw v5 ≤ 0 then (some (0, M)) else (bnd (f_X11_isIn n v4 v6 M) fun r1 M2 => if jw r1 = 0 then (f_X1_board_L130 n th p1 (f_X1_board_L44 n th p1 k) v2 v3 v4 v5 v6 M2) else (chk (jin v6 8) <| bnd (f_X11_isIn n (M2 (th + 1) (jw v6).toNat) v2 M2) fun r3 M4 => if jw r3 = 0 then (f_X1_board_L130 n th p1 (f_X1_board_L44 n th p1 k) v2 v3 v4 v5 v6 M4) else (chk (jin v3 6) <| chk (jin v3 6) <| letm (jup M4 (th + 3) (jw v3).toNat (jand (M4 (th + 3) (jw v3).toNat) (jxor (jshl 1 v6) (-1)))) fun M5 => chk (jin v2 8) <| chk (jin v2 8) <| letm (jup M5 (th + 4) (jw v2).toNat (jor (M5 (th + 4) (jw v2).toNat) (jshl 1 v6))) fun M6 => chk (jin v2 8) <| chk (jin v2 8) <| letm (jup M6 (th + 5) (jw v2).toNat ((M6 th 1) + (M6 (p1 + 7) (jw v2).toNat))) fun M7 => letv (v5 + (-1)) fun y8 => f_X1_board_L130 n th p1 (f_X1_board_L44 n th p1 k) v2 v3 v4 y8 v6 M7))))
set_option maxRecDepth 4000 in
theorem t_X1_board_L44 {g : JG} {ad : Nat → Nat} (hs : jStr g ad) (n : Nat) (th : Nat) (p1 : Nat) (hth : jK jNN (0, 1) th) (hp1 : jK jNN (0, 4) p1) : ∀ (k : Nat) (v2 v3 v4 v5 v6 : Int) (M : JMem), jB g D_X1_board ad 44 [some (.ref th), some (.ref p1), some (ji v2), some (ji v3), some (ji v4), some (ji v5), some (ji v6)] [] M (f_X1_board_L44 n th p1 k v2 v3 v4 v5 v6 M) := by
  intro k
  induction k with
  | zero => intro v2 v3 v4 v5 v6 M; exact jO.none
  | succ k ih =>
    intro v2 v3 v4 v5 v6 M
    rw [f_X1_board_L44]
    refine jo_iloadW 6 d_X1_board_44 rfl ?_
    refine jo_aload 1 d_X1_board_46 rfl rfl ?_
    refine jo_getI (k := 2) cl_4 (Nat.le_of_ble_eq_true rfl) lk_X1_59 (Or.inl rfl) hp1 d_X1_board_47 ?_
    refine jo_icmp_ge 136 d_X1_board_50 (by decide) ?_ ?_
    · skip
      exact jo_vret rfl d_X1_board_136
    · skip
      refine jo_iloadW 5 d_X1_board_53 rfl ?_
      refine jo_if_le 136 d_X1_board_55 (by decide) ?_ ?_
      · skip
        exact jo_vret rfl d_X1_board_136
      · skip
        refine jo_iloadW 4 d_X1_board_58 rfl ?_
        refine jo_iloadW 6 d_X1_board_60 rfl ?_
        refine jo_callSN (st := []) (m_X11_isIn hs n v4 v6 M) ok_X11_isIn (And.intro (Nat.le_of_ble_eq_true rfl) (Nat.le_of_ble_eq_true rfl)) lm_X1_68 st_X11_isIn rfl (And.intro (Nat.zero_le _) (Nat.zero_le _)) rfl (Nat.le_of_ble_eq_true rfl) d_X1_board_62 (fun r1 M2 => ?_)
        refine jo_if_eq 130 d_X1_board_65 (by decide) ?_ ?_
        · skip
          exact jO.sub (t_X1_board_L130 hs n th p1 hth hp1 (f_X1_board_L44 n th p1 k) ih v2 v3 v4 v5 v6 M2) (And.intro rfl (And.intro rfl (And.intro rfl (And.intro rfl (And.intro rfl (And.intro rfl (And.intro rfl True.intro)))))))
        · skip
          refine jo_aload 0 d_X1_board_68 rfl rfl ?_
          refine jo_getR (k := 5) cl_1 (Nat.le_of_ble_eq_true rfl) lk_X1_27 rfl hth (kr_Now_5 hth) d_X1_board_69 ?_
          refine jo_iloadW 6 d_X1_board_72 rfl ?_
          refine jo_iald (N := 8) (ka_Now_5 hth) d_X1_board_74 ?_
          refine jo_iload 2 d_X1_board_75 rfl rfl ?_
          refine jo_callSN (st := []) (m_X11_isIn hs n (M2 (th + 1) (jw v6).toNat) v2 M2) ok_X11_isIn (And.intro (Nat.le_of_ble_eq_true rfl) (Nat.le_of_ble_eq_true rfl)) lm_X1_68 st_X11_isIn rfl (And.intro (Nat.zero_le _) (Nat.zero_le _)) rfl (Nat.le_of_ble_eq_true rfl) d_X1_board_76 (fun r3 M4 => ?_)
          refine jo_if_eq 130 d_X1_board_79 (by decide) ?_ ?_
          · skip
            exact jO.sub (t_X1_board_L130 hs n th p1 hth hp1 (f_X1_board_L44 n th p1 k) ih v2 v3 v4 v5 v6 M4) (And.intro rfl (And.intro rfl (And.intro rfl (And.intro rfl (And.intro rfl (And.intro rfl (And.intro rfl True.intro)))))))
          · skip
            refine jo_aload 0 d_X1_board_82 rfl rfl ?_
            refine jo_getR (k := 7) cl_1 (Nat.le_of_ble_eq_true rfl) lk_X1_34 rfl hth (kr_Now_7 hth) d_X1_board_83 ?_
            refine jo_iload 3 d_X1_board_86 rfl rfl ?_
            refine jo_dup2 d_X1_board_87 rfl rfl ?_
            refine jo_iald (N := 6) (ka_Now_7 hth) d_X1_board_88 ?_
            refine jo_iconst 1 d_X1_board_89 ?_
            refine jo_iloadW 6 d_X1_board_90 rfl ?_
            refine jo_ishl d_X1_board_92 ?_
            refine jo_iconst (-1) d_X1_board_93 ?_
            refine jo_ixor d_X1_board_94 ?_
            refine jo_iand d_X1_board_95 ?_
            refine jo_iast (N := 6) (ka_Now_7 hth) d_X1_board_96 (fun M5 => ?_)
            refine jo_aload 0 d_X1_board_97 rfl rfl ?_
            refine jo_getR (k := 8) cl_1 (Nat.le_of_ble_eq_true rfl) lk_X1_37 rfl hth (kr_Now_8 hth) d_X1_board_98 ?_
            refine jo_iload 2 d_X1_board_101 rfl rfl ?_
            refine jo_dup2 d_X1_board_102 rfl rfl ?_
            refine jo_iald (N := 8) (ka_Now_8 hth) d_X1_board_103 ?_
            refine jo_iconst 1 d_X1_board_104 ?_
            refine jo_iloadW 6 d_X1_board_105 rfl ?_
            refine jo_ishl d_X1_board_107 ?_
            refine jo_ior d_X1_board_108 ?_
            refine jo_iast (N := 8) (ka_Now_8 hth) d_X1_board_109 (fun M6 => ?_)
            refine jo_aload 0 d_X1_board_110 rfl rfl ?_
            refine jo_getR (k := 9) cl_1 (Nat.le_of_ble_eq_true rfl) lk_X1_40 rfl hth (kr_Now_9 hth) d_X1_board_111 ?_
            refine jo_iload 2 d_X1_board_114 rfl rfl ?_
            refine jo_aload 0 d_X1_board_115 rfl rfl ?_
            refine jo_getI (k := 1) cl_1 (Nat.le_of_ble_eq_true rfl) lk_X1_15 (Or.inl rfl) hth d_X1_board_116 ?_
            refine jo_aload 1 d_X1_board_119 rfl rfl ?_
            refine jo_getR (k := 11) cl_4 (Nat.le_of_ble_eq_true rfl) lk_X1_111 rfl hp1 (kr_Plan_11 hp1) d_X1_board_120 ?_
            refine jo_iload 2 d_X1_board_123 rfl rfl ?_
            refine jo_iald (N := 8) (ka_Plan_11 hp1) d_X1_board_124 ?_
            refine jo_iadd d_X1_board_125 ?_
            refine jo_iast (N := 8) (ka_Now_9 hth) d_X1_board_126 (fun M7 => ?_)
            refine jo_iinc 5 d_X1_board_127 rfl (Nat.le_of_ble_eq_true rfl) (fun y8 => ?_)
            exact jO.sub (t_X1_board_L130 hs n th p1 hth hp1 (f_X1_board_L44 n th p1 k) ih v2 v3 v4 y8 v6 M7) (And.intro rfl (And.intro rfl (And.intro rfl (And.intro rfl (And.intro rfl (And.intro rfl (And.intro rfl True.intro)))))))
def f_X1_board_L31 (n : Nat) (th : Nat) (p1 : Nat) (v2 v3 w0 : Int) (M : JMem) : Option (Int × JMem) := letv w0 fun y1 => chk (jin v2 8) <| letv (M (p1 + 8) (jw v2).toNat) fun y2 => letv 0 fun y3 => f_X1_board_L44 n th p1 n v2 v3 y1 y2 y3 M
set_option maxRecDepth 4000 in
theorem t_X1_board_L31 {g : JG} {ad : Nat → Nat} (hs : jStr g ad) (n : Nat) (th : Nat) (p1 : Nat) (hth : jK jNN (0, 1) th) (hp1 : jK jNN (0, 4) p1) (v2 v3 w0 : Int) (M : JMem) : jB g D_X1_board ad 31 [some (.ref th), some (.ref p1), some (ji v2), some (ji v3), none, none, none] [ji w0] M (f_X1_board_L31 n th p1 v2 v3 w0 M) := by
  unfold f_X1_board_L31
  refine jo_istoreW 4 d_X1_board_31 (Nat.le_of_ble_eq_true rfl) (fun y1 => ?_)
  refine jo_aload 1 d_X1_board_33 rfl rfl ?_
  refine jo_getR (k := 12) cl_4 (Nat.le_of_ble_eq_true rfl) lk_X1_108 rfl hp1 (kr_Plan_12 hp1) d_X1_board_34 ?_
  refine jo_iload 2 d_X1_board_37 rfl rfl ?_
  refine jo_iald (N := 8) (ka_Plan_12 hp1) d_X1_board_38 ?_
  refine jo_istoreW 5 d_X1_board_39 (Nat.le_of_ble_eq_true rfl) (fun y2 => ?_)
  refine jo_iconst 0 d_X1_board_41 ?_
  refine jo_istoreW 6 d_X1_board_42 (Nat.le_of_ble_eq_true rfl) (fun y3 => ?_)
  exact jO.sub (t_X1_board_L44 hs n th p1 hth hp1 n v2 v3 y1 y2 y3 M) (And.intro rfl (And.intro rfl (And.intro rfl (And.intro rfl (And.intro rfl (And.intro rfl (And.intro rfl True.intro)))))))
def f_X1_board (n : Nat) (th : Nat) (p1 : Nat) (x2 : Int) (M : JMem) : Option (Int × JMem) := chk (jin x2 8) <| letv (M (p1 + 4) (jw x2).toNat) fun y1 => if jw y1 = 0 then (chk (jin y1 6) <| f_X1_board_L31 n th p1 x2 y1 (jand (M (th + 3) (jw y1).toNat) (M th 2)) M) else (chk (jin y1 6) <| f_X1_board_L31 n th p1 x2 y1 (M (th + 3) (jw y1).toNat) M)
set_option maxRecDepth 4000 in
theorem t_X1_board {g : JG} {ad : Nat → Nat} (hs : jStr g ad) (n : Nat) (th : Nat) (p1 : Nat) (x2 : Int) (hth : jK jNN (0, 1) th) (hp1 : jK jNN (0, 4) p1) (M : JMem) : jB g D_X1_board ad 0 [some (.ref th), some (.ref p1), some (ji x2), none, none, none, none] [] M (f_X1_board n th p1 x2 M) := by
  unfold f_X1_board
  refine jo_aload 1 d_X1_board_0 rfl rfl ?_
  refine jo_getR (k := 8) cl_4 (Nat.le_of_ble_eq_true rfl) lk_X1_105 rfl hp1 (kr_Plan_8 hp1) d_X1_board_1 ?_
  refine jo_iload 2 d_X1_board_4 rfl rfl ?_
  refine jo_iald (N := 8) (ka_Plan_8 hp1) d_X1_board_5 ?_
  refine jo_istore 3 d_X1_board_6 rfl (Nat.le_of_ble_eq_true rfl) (fun y1 => ?_)
  refine jo_iload 3 d_X1_board_7 rfl rfl ?_
  refine jo_if_ne 25 d_X1_board_8 (by decide) ?_ ?_
  · skip
    refine jo_aload 0 d_X1_board_25 rfl rfl ?_
    refine jo_getR (k := 7) cl_1 (Nat.le_of_ble_eq_true rfl) lk_X1_34 rfl hth (kr_Now_7 hth) d_X1_board_26 ?_
    refine jo_iload 3 d_X1_board_29 rfl rfl ?_
    refine jo_iald (N := 6) (ka_Now_7 hth) d_X1_board_30 ?_
    exact jO.sub (t_X1_board_L31 hs n th p1 hth hp1 x2 y1 (M (th + 3) (jw y1).toNat) M) (And.intro rfl (And.intro rfl (And.intro rfl (And.intro rfl True.intro))))
  · skip
    refine jo_aload 0 d_X1_board_11 rfl rfl ?_
    refine jo_getR (k := 7) cl_1 (Nat.le_of_ble_eq_true rfl) lk_X1_34 rfl hth (kr_Now_7 hth) d_X1_board_12 ?_
    refine jo_iload 3 d_X1_board_15 rfl rfl ?_
    refine jo_iald (N := 6) (ka_Now_7 hth) d_X1_board_16 ?_
    refine jo_aload 0 d_X1_board_17 rfl rfl ?_
    refine jo_getI (k := 2) cl_1 (Nat.le_of_ble_eq_true rfl) lk_X1_18 (Or.inl rfl) hth d_X1_board_18 ?_
    refine jo_iand d_X1_board_21 ?_
    refine jo_goto 31 d_X1_board_22 (by decide) ?_
    exact jO.sub (t_X1_board_L31 hs n th p1 hth hp1 x2 y1 (jand (M (th + 3) (jw y1).toNat) (M th 2)) M) (And.intro rfl (And.intro rfl (And.intro rfl (And.intro rfl True.intro))))
theorem m_X1_board {g : JG} {ad : Nat → Nat} (hs : jStr g ad) (n : Nat) (th : Nat) (p1 : Nat) (x2 : Int) (hth : jK jNN (0, 1) th) (hp1 : jK jNN (0, 4) p1) (M : JMem) : jMet g jNN ad jR D_X1_board yX1_board [.ref th, .ref p1, ji x2] M (f_X1_board n th p1 x2 M) :=
  jMet.of (lo0 := [some (.ref th), some (.ref p1), some (ji x2), none, none, none, none]) (by decide) rfl rfl (Nat.le_of_ble_eq_true rfl) (And.intro rfl (And.intro rfl (And.intro rfl True.intro))) (t_X1_board hs n th p1 x2 hth hp1 M)
/-! CageLeave$Now.depart(LCageLeave$Plan;)V -/
def D_X1_depart : JD := (RX1, cX1_depart, 3, none, "depart", { frames := 2, cells := 0, slots := 0, locals := 47 })
theorem ok_X1_depart : jOk D_X1_depart yX1_depart 1 := ⟨jTW_mem (k := 1026) (by decide +kernel) rfl, jTW_mem (k := 144) (by decide +kernel) rfl, ⟨by decide +kernel, by decide +kernel⟩, by decide +kernel, rfl, rfl⟩
theorem in_X1_depart : Cond.instanceMethod yX1_depart ∈ jTW := jTW_mem (k := 1025) (by decide +kernel) rfl
theorem se_X1_depart : Cond.selects yX1_depart.cls yX1_depart yX1_depart ∈ jTW := jTW_mem (k := 25) (by decide +kernel) rfl
theorem lm_X1_101 : Cond.methodLink RX1 101 yX1_board ∈ jTW := jTW_mem (k := 1027) (by decide +kernel) rfl
theorem d_X1_depart_0 : decode (D_X1_depart).2.1 0 = .ok (.iconst 0, 1) := by decide +kernel
theorem d_X1_depart_1 : decode (D_X1_depart).2.1 1 = .ok (.istore_n 2, 1) := by decide +kernel
theorem d_X1_depart_2 : decode (D_X1_depart).2.1 2 = .ok (.iload_n 2, 1) := by decide +kernel
theorem d_X1_depart_3 : decode (D_X1_depart).2.1 3 = .ok (.aload_n 1, 1) := by decide +kernel
theorem d_X1_depart_4 : decode (D_X1_depart).2.1 4 = .ok (.getfield 75, 3) := by decide +kernel
theorem d_X1_depart_7 : decode (D_X1_depart).2.1 7 = .ok (.if_icmp .ge 39, 3) := by decide +kernel
theorem d_X1_depart_10 : decode (D_X1_depart).2.1 10 = .ok (.aload_n 1, 1) := by decide +kernel
theorem d_X1_depart_11 : decode (D_X1_depart).2.1 11 = .ok (.getfield 95, 3) := by decide +kernel
theorem d_X1_depart_14 : decode (D_X1_depart).2.1 14 = .ok (.iload_n 2, 1) := by decide +kernel
theorem d_X1_depart_15 : decode (D_X1_depart).2.1 15 = .ok (.iaload, 1) := by decide +kernel
theorem d_X1_depart_16 : decode (D_X1_depart).2.1 16 = .ok (.aload_n 0, 1) := by decide +kernel
theorem d_X1_depart_17 : decode (D_X1_depart).2.1 17 = .ok (.getfield 15, 3) := by decide +kernel
theorem d_X1_depart_20 : decode (D_X1_depart).2.1 20 = .ok (.if_icmp .ne 20, 3) := by decide +kernel
theorem d_X1_depart_23 : decode (D_X1_depart).2.1 23 = .ok (.aload_n 0, 1) := by decide +kernel
theorem d_X1_depart_24 : decode (D_X1_depart).2.1 24 = .ok (.getfield 24, 3) := by decide +kernel
theorem d_X1_depart_27 : decode (D_X1_depart).2.1 27 = .ok (.iload_n 2, 1) := by decide +kernel
theorem d_X1_depart_28 : decode (D_X1_depart).2.1 28 = .ok (.invokestatic 68, 3) := by decide +kernel
theorem d_X1_depart_31 : decode (D_X1_depart).2.1 31 = .ok (.ifCond .ne 9, 3) := by decide +kernel
theorem d_X1_depart_34 : decode (D_X1_depart).2.1 34 = .ok (.aload_n 0, 1) := by decide +kernel
theorem d_X1_depart_35 : decode (D_X1_depart).2.1 35 = .ok (.aload_n 1, 1) := by decide +kernel
theorem d_X1_depart_36 : decode (D_X1_depart).2.1 36 = .ok (.iload_n 2, 1) := by decide +kernel
theorem d_X1_depart_37 : decode (D_X1_depart).2.1 37 = .ok (.invokevirtual 101, 3) := by decide +kernel
theorem d_X1_depart_40 : decode (D_X1_depart).2.1 40 = .ok (.iinc 2 1, 3) := by decide +kernel
theorem d_X1_depart_43 : decode (D_X1_depart).2.1 43 = .ok (.goto (-41), 3) := by decide +kernel
theorem d_X1_depart_46 : decode (D_X1_depart).2.1 46 = .ok (.return_, 1) := by decide +kernel
def f_X1_depart_L40 (n : Nat) (th : Nat) (p1 : Nat) (r2 : Int → JMem → Option (Int × JMem)) (v2 : Int) (M : JMem) : Option (Int × JMem) := letv (v2 + 1) fun y1 => r2 y1 M
set_option maxRecDepth 4000 in
theorem t_X1_depart_L40 {g : JG} {ad : Nat → Nat} (hs : jStr g ad) (n : Nat) (th : Nat) (p1 : Nat) (hth : jK jNN (0, 1) th) (hp1 : jK jNN (0, 4) p1) (r2 : Int → JMem → Option (Int × JMem)) (hr2 : ∀ (v2 : Int) (M : JMem), jB g D_X1_depart ad 2 [some (.ref th), some (.ref p1), some (ji v2)] [] M (r2 v2 M)) (v2 : Int) (M : JMem) : jB g D_X1_depart ad 40 [some (.ref th), some (.ref p1), some (ji v2)] [] M (f_X1_depart_L40 n th p1 r2 v2 M) := by
  unfold f_X1_depart_L40
  refine jo_iinc 2 d_X1_depart_40 rfl (Nat.le_of_ble_eq_true rfl) (fun y1 => ?_)
  refine jo_goto 2 d_X1_depart_43 (by decide) ?_
  exact jO.sub (hr2 y1 M) (And.intro rfl (And.intro rfl (And.intro rfl True.intro)))
def f_X1_depart_L2 (n : Nat) (th : Nat) (p1 : Nat) : Nat → Int → JMem → Option (Int × JMem)
  | 0, _, _ => none
  | k + 1, v2, M => if jw (M p1 1) ≤ jw v2 then (some (0, M)) else (chk (jin v2 8) <| if jw (M (p1 + 6) (jw v2).toNat) = jw (M th 1) then (bnd (f_X11_isIn n (M th 4) v2 M) fun r1 M2 => if jw r1 = 0 then (bnd (f_X1_board n th p1 v2 M2) fun _ M4 => f_X1_depart_L40 n th p1 (f_X1_depart_L2 n th p1 k) v2 M4) else (f_X1_depart_L40 n th p1 (f_X1_depart_L2 n th p1 k) v2 M2)) else (f_X1_depart_L40 n th p1 (f_X1_depart_L2 n th p1 k) v2 M))
set_option maxRecDepth 4000 in
theorem t_X1_depart_L2 {g : JG} {ad : Nat → Nat} (hs : jStr g ad) (n : Nat) (th : Nat) (p1 : Nat) (hth : jK jNN (0, 1) th) (hp1 : jK jNN (0, 4) p1) : ∀ (k : Nat) (v2 : Int) (M : JMem), jB g D_X1_depart ad 2 [some (.ref th), some (.ref p1), some (ji v2)] [] M (f_X1_depart_L2 n th p1 k v2 M) := by
  intro k
  induction k with
  | zero => intro v2 M; exact jO.none
  | succ k ih =>
    intro v2 M
    rw [f_X1_depart_L2]
    refine jo_iload 2 d_X1_depart_2 rfl rfl ?_
    refine jo_aload 1 d_X1_depart_3 rfl rfl ?_
    refine jo_getI (k := 1) cl_4 (Nat.le_of_ble_eq_true rfl) lk_X1_75 (Or.inl rfl) hp1 d_X1_depart_4 ?_
    refine jo_icmp_ge 46 d_X1_depart_7 (by decide) ?_ ?_
    · skip
      exact jo_vret rfl d_X1_depart_46
    · skip
      refine jo_aload 1 d_X1_depart_10 rfl rfl ?_
      refine jo_getR (k := 10) cl_4 (Nat.le_of_ble_eq_true rfl) lk_X1_95 rfl hp1 (kr_Plan_10 hp1) d_X1_depart_11 ?_
      refine jo_iload 2 d_X1_depart_14 rfl rfl ?_
      refine jo_iald (N := 8) (ka_Plan_10 hp1) d_X1_depart_15 ?_
      refine jo_aload 0 d_X1_depart_16 rfl rfl ?_
      refine jo_getI (k := 1) cl_1 (Nat.le_of_ble_eq_true rfl) lk_X1_15 (Or.inl rfl) hth d_X1_depart_17 ?_
      refine jo_icmp_ne 40 d_X1_depart_20 (by decide) ?_ ?_
      · skip
        exact jO.sub (t_X1_depart_L40 hs n th p1 hth hp1 (f_X1_depart_L2 n th p1 k) ih v2 M) (And.intro rfl (And.intro rfl (And.intro rfl True.intro)))
      · skip
        refine jo_aload 0 d_X1_depart_23 rfl rfl ?_
        refine jo_getI (k := 4) cl_1 (Nat.le_of_ble_eq_true rfl) lk_X1_24 (Or.inl rfl) hth d_X1_depart_24 ?_
        refine jo_iload 2 d_X1_depart_27 rfl rfl ?_
        refine jo_callSN (st := []) (m_X11_isIn hs n (M th 4) v2 M) ok_X11_isIn (And.intro (Nat.le_of_ble_eq_true rfl) (Nat.le_of_ble_eq_true rfl)) lm_X1_68 st_X11_isIn rfl (And.intro (Nat.zero_le _) (Nat.zero_le _)) rfl (Nat.le_of_ble_eq_true rfl) d_X1_depart_28 (fun r1 M2 => ?_)
        refine jo_if_ne 40 d_X1_depart_31 (by decide) ?_ ?_
        · skip
          exact jO.sub (t_X1_depart_L40 hs n th p1 hth hp1 (f_X1_depart_L2 n th p1 k) ih v2 M2) (And.intro rfl (And.intro rfl (And.intro rfl True.intro)))
        · skip
          refine jo_aload 0 d_X1_depart_34 rfl rfl ?_
          refine jo_aload 1 d_X1_depart_35 rfl rfl ?_
          refine jo_iload 2 d_X1_depart_36 rfl rfl ?_
          refine jo_callV (st := []) (m_X1_board hs n th p1 v2 hth hp1 M2) ok_X1_board (And.intro (Nat.le_of_ble_eq_true rfl) (Nat.le_of_ble_eq_true rfl)) lm_X1_101 in_X1_board se_X1_board rfl hth rfl rfl (And.intro (Nat.zero_le _) (Nat.zero_le _)) rfl (Nat.le_of_ble_eq_true rfl) d_X1_depart_37 (fun _ M4 => ?_)
          exact jO.sub (t_X1_depart_L40 hs n th p1 hth hp1 (f_X1_depart_L2 n th p1 k) ih v2 M4) (And.intro rfl (And.intro rfl (And.intro rfl True.intro)))
def f_X1_depart (n : Nat) (th : Nat) (p1 : Nat) (M : JMem) : Option (Int × JMem) := letv 0 fun y1 => f_X1_depart_L2 n th p1 n y1 M
set_option maxRecDepth 4000 in
theorem t_X1_depart {g : JG} {ad : Nat → Nat} (hs : jStr g ad) (n : Nat) (th : Nat) (p1 : Nat) (hth : jK jNN (0, 1) th) (hp1 : jK jNN (0, 4) p1) (M : JMem) : jB g D_X1_depart ad 0 [some (.ref th), some (.ref p1), none] [] M (f_X1_depart n th p1 M) := by
  unfold f_X1_depart
  refine jo_iconst 0 d_X1_depart_0 ?_
  refine jo_istore 2 d_X1_depart_1 rfl (Nat.le_of_ble_eq_true rfl) (fun y1 => ?_)
  exact jO.sub (t_X1_depart_L2 hs n th p1 hth hp1 n y1 M) (And.intro rfl (And.intro rfl (And.intro rfl True.intro)))
theorem m_X1_depart {g : JG} {ad : Nat → Nat} (hs : jStr g ad) (n : Nat) (th : Nat) (p1 : Nat) (hth : jK jNN (0, 1) th) (hp1 : jK jNN (0, 4) p1) (M : JMem) : jMet g jNN ad jR D_X1_depart yX1_depart [.ref th, .ref p1] M (f_X1_depart n th p1 M) :=
  jMet.of (lo0 := [some (.ref th), some (.ref p1), none]) (by decide) rfl rfl (Nat.le_of_ble_eq_true rfl) (And.intro rfl (And.intro rfl True.intro)) (t_X1_depart hs n th p1 hth hp1 M)
/-! CageLeave$Plan.firstHunter(II)I -/
def D_X4_firstHunter : JD := (RX4, cX4_firstHunter, 4, some .int, "firstHunter", { frames := 0, cells := 0, slots := 0, locals := 0 })
theorem ok_X4_firstHunter : jOk D_X4_firstHunter yX4_firstHunter 2 := ⟨jTW_mem (k := 1042) (by decide +kernel) rfl, jTW_mem (k := 143) (by decide +kernel) rfl, ⟨by decide +kernel, by decide +kernel⟩, by decide +kernel, rfl, rfl⟩
theorem in_X4_firstHunter : Cond.instanceMethod yX4_firstHunter ∈ jTW := jTW_mem (k := 1040) (by decide +kernel) rfl
theorem se_X4_firstHunter : Cond.selects yX4_firstHunter.cls yX4_firstHunter yX4_firstHunter ∈ jTW := jTW_mem (k := 1041) (by decide +kernel) rfl
theorem d_X4_firstHunter_0 : decode (D_X4_firstHunter).2.1 0 = .ok (.iconst 0, 1) := by decide +kernel
theorem d_X4_firstHunter_1 : decode (D_X4_firstHunter).2.1 1 = .ok (.istore_n 3, 1) := by decide +kernel
theorem d_X4_firstHunter_2 : decode (D_X4_firstHunter).2.1 2 = .ok (.iload_n 3, 1) := by decide +kernel
theorem d_X4_firstHunter_3 : decode (D_X4_firstHunter).2.1 3 = .ok (.aload_n 0, 1) := by decide +kernel
theorem d_X4_firstHunter_4 : decode (D_X4_firstHunter).2.1 4 = .ok (.getfield 18, 3) := by decide +kernel
theorem d_X4_firstHunter_7 : decode (D_X4_firstHunter).2.1 7 = .ok (.if_icmp .ge 28, 3) := by decide +kernel
theorem d_X4_firstHunter_10 : decode (D_X4_firstHunter).2.1 10 = .ok (.iload_n 1, 1) := by decide +kernel
theorem d_X4_firstHunter_11 : decode (D_X4_firstHunter).2.1 11 = .ok (.iload_n 3, 1) := by decide +kernel
theorem d_X4_firstHunter_12 : decode (D_X4_firstHunter).2.1 12 = .ok (.ishr, 1) := by decide +kernel
theorem d_X4_firstHunter_13 : decode (D_X4_firstHunter).2.1 13 = .ok (.aload_n 0, 1) := by decide +kernel
theorem d_X4_firstHunter_14 : decode (D_X4_firstHunter).2.1 14 = .ok (.getfield 59, 3) := by decide +kernel
theorem d_X4_firstHunter_17 : decode (D_X4_firstHunter).2.1 17 = .ok (.iload_n 3, 1) := by decide +kernel
theorem d_X4_firstHunter_18 : decode (D_X4_firstHunter).2.1 18 = .ok (.iaload, 1) := by decide +kernel
theorem d_X4_firstHunter_19 : decode (D_X4_firstHunter).2.1 19 = .ok (.iload_n 2, 1) := by decide +kernel
theorem d_X4_firstHunter_20 : decode (D_X4_firstHunter).2.1 20 = .ok (.ishr, 1) := by decide +kernel
theorem d_X4_firstHunter_21 : decode (D_X4_firstHunter).2.1 21 = .ok (.iand, 1) := by decide +kernel
theorem d_X4_firstHunter_22 : decode (D_X4_firstHunter).2.1 22 = .ok (.iconst 1, 1) := by decide +kernel
theorem d_X4_firstHunter_23 : decode (D_X4_firstHunter).2.1 23 = .ok (.iand, 1) := by decide +kernel
theorem d_X4_firstHunter_24 : decode (D_X4_firstHunter).2.1 24 = .ok (.ifCond .eq 5, 3) := by decide +kernel
theorem d_X4_firstHunter_27 : decode (D_X4_firstHunter).2.1 27 = .ok (.iload_n 3, 1) := by decide +kernel
theorem d_X4_firstHunter_28 : decode (D_X4_firstHunter).2.1 28 = .ok (.ireturn, 1) := by decide +kernel
theorem d_X4_firstHunter_29 : decode (D_X4_firstHunter).2.1 29 = .ok (.iinc 3 1, 3) := by decide +kernel
theorem d_X4_firstHunter_32 : decode (D_X4_firstHunter).2.1 32 = .ok (.goto (-30), 3) := by decide +kernel
theorem d_X4_firstHunter_35 : decode (D_X4_firstHunter).2.1 35 = .ok (.iconst (-1), 1) := by decide +kernel
theorem d_X4_firstHunter_36 : decode (D_X4_firstHunter).2.1 36 = .ok (.ireturn, 1) := by decide +kernel
def f_X4_firstHunter_L2 (n : Nat) (th : Nat) : Nat → Int → Int → Int → JMem → Option (Int × JMem)
  | 0, _, _, _, _ => none
  | k + 1, v1, v2, v3, M => if jw (M th 2) ≤ jw v3 then (some ((-1), M)) else (chk (jin v3 8) <| if jw (jand (jand (jshr v1 v3) (jshr (M (th + 11) (jw v3).toNat) v2)) 1) = 0 then (letv (v3 + 1) fun y1 => (f_X4_firstHunter_L2 n th k) v1 v2 y1 M) else (some (v3, M)))
set_option maxRecDepth 4000 in
theorem t_X4_firstHunter_L2 {g : JG} {ad : Nat → Nat} (hs : jStr g ad) (n : Nat) (th : Nat) (hth : jK jNN (0, 4) th) : ∀ (k : Nat) (v1 v2 v3 : Int) (M : JMem), jB g D_X4_firstHunter ad 2 [some (.ref th), some (ji v1), some (ji v2), some (ji v3)] [] M (f_X4_firstHunter_L2 n th k v1 v2 v3 M) := by
  intro k
  induction k with
  | zero => intro v1 v2 v3 M; exact jO.none
  | succ k ih =>
    intro v1 v2 v3 M
    rw [f_X4_firstHunter_L2]
    refine jo_iload 3 d_X4_firstHunter_2 rfl rfl ?_
    refine jo_aload 0 d_X4_firstHunter_3 rfl rfl ?_
    refine jo_getI (k := 2) cl_4 (Nat.le_of_ble_eq_true rfl) lk_X4_18 (Or.inl rfl) hth d_X4_firstHunter_4 ?_
    refine jo_icmp_ge 35 d_X4_firstHunter_7 (by decide) ?_ ?_
    · skip
      refine jo_iconst (-1) d_X4_firstHunter_35 ?_
      exact jo_iret rfl d_X4_firstHunter_36
    · skip
      refine jo_iload 1 d_X4_firstHunter_10 rfl rfl ?_
      refine jo_iload 3 d_X4_firstHunter_11 rfl rfl ?_
      refine jo_ishr d_X4_firstHunter_12 ?_
      refine jo_aload 0 d_X4_firstHunter_13 rfl rfl ?_
      refine jo_getR (k := 15) cl_4 (Nat.le_of_ble_eq_true rfl) lk_X4_59 rfl hth (kr_Plan_15 hth) d_X4_firstHunter_14 ?_
      refine jo_iload 3 d_X4_firstHunter_17 rfl rfl ?_
      refine jo_iald (N := 8) (ka_Plan_15 hth) d_X4_firstHunter_18 ?_
      refine jo_iload 2 d_X4_firstHunter_19 rfl rfl ?_
      refine jo_ishr d_X4_firstHunter_20 ?_
      refine jo_iand d_X4_firstHunter_21 ?_
      refine jo_iconst 1 d_X4_firstHunter_22 ?_
      refine jo_iand d_X4_firstHunter_23 ?_
      refine jo_if_eq 29 d_X4_firstHunter_24 (by decide) ?_ ?_
      · skip
        refine jo_iinc 3 d_X4_firstHunter_29 rfl (Nat.le_of_ble_eq_true rfl) (fun y1 => ?_)
        refine jo_goto 2 d_X4_firstHunter_32 (by decide) ?_
        exact jO.sub (ih v1 v2 y1 M) (And.intro rfl (And.intro rfl (And.intro rfl (And.intro rfl True.intro))))
      · skip
        refine jo_iload 3 d_X4_firstHunter_27 rfl rfl ?_
        exact jo_iret rfl d_X4_firstHunter_28
def f_X4_firstHunter (n : Nat) (th : Nat) (x1 : Int) (x2 : Int) (M : JMem) : Option (Int × JMem) := letv 0 fun y1 => f_X4_firstHunter_L2 n th n x1 x2 y1 M
set_option maxRecDepth 4000 in
theorem t_X4_firstHunter {g : JG} {ad : Nat → Nat} (hs : jStr g ad) (n : Nat) (th : Nat) (x1 : Int) (x2 : Int) (hth : jK jNN (0, 4) th) (M : JMem) : jB g D_X4_firstHunter ad 0 [some (.ref th), some (ji x1), some (ji x2), none] [] M (f_X4_firstHunter n th x1 x2 M) := by
  unfold f_X4_firstHunter
  refine jo_iconst 0 d_X4_firstHunter_0 ?_
  refine jo_istore 3 d_X4_firstHunter_1 rfl (Nat.le_of_ble_eq_true rfl) (fun y1 => ?_)
  exact jO.sub (t_X4_firstHunter_L2 hs n th hth n x1 x2 y1 M) (And.intro rfl (And.intro rfl (And.intro rfl (And.intro rfl True.intro))))
theorem m_X4_firstHunter {g : JG} {ad : Nat → Nat} (hs : jStr g ad) (n : Nat) (th : Nat) (x1 : Int) (x2 : Int) (hth : jK jNN (0, 4) th) (M : JMem) : jMet g jNN ad jR D_X4_firstHunter yX4_firstHunter [.ref th, ji x1, ji x2] M (f_X4_firstHunter n th x1 x2 M) :=
  jMet.of (lo0 := [some (.ref th), some (ji x1), some (ji x2), none]) (by decide) rfl rfl (Nat.le_of_ble_eq_true rfl) (And.intro rfl (And.intro rfl (And.intro rfl True.intro))) (t_X4_firstHunter hs n th x1 x2 hth M)
/-! CageLeave$Now.leftBy(LCageLeave$Plan;I)I -/
def D_X1_leftBy : JD := (RX1, cX1_leftBy, 6, some .int, "leftBy", { frames := 1, cells := 0, slots := 0, locals := 23 })
theorem ok_X1_leftBy : jOk D_X1_leftBy yX1_leftBy 2 := ⟨jTW_mem (k := 1038) (by decide +kernel) rfl, jTW_mem (k := 144) (by decide +kernel) rfl, ⟨by decide +kernel, by decide +kernel⟩, by decide +kernel, rfl, rfl⟩
theorem in_X1_leftBy : Cond.instanceMethod yX1_leftBy ∈ jTW := jTW_mem (k := 1037) (by decide +kernel) rfl
theorem se_X1_leftBy : Cond.selects yX1_leftBy.cls yX1_leftBy yX1_leftBy ∈ jTW := jTW_mem (k := 28) (by decide +kernel) rfl
theorem lm_X1_117 : Cond.methodLink RX1 117 yX4_firstHunter ∈ jTW := jTW_mem (k := 1039) (by decide +kernel) rfl
theorem d_X1_leftBy_0 : decode (D_X1_leftBy).2.1 0 = .ok (.iload_n 2, 1) := by decide +kernel
theorem d_X1_leftBy_1 : decode (D_X1_leftBy).2.1 1 = .ok (.istore_n 3, 1) := by decide +kernel
theorem d_X1_leftBy_2 : decode (D_X1_leftBy).2.1 2 = .ok (.iload_n 2, 1) := by decide +kernel
theorem d_X1_leftBy_3 : decode (D_X1_leftBy).2.1 3 = .ok (.iload_n 2, 1) := by decide +kernel
theorem d_X1_leftBy_4 : decode (D_X1_leftBy).2.1 4 = .ok (.iconst 1, 1) := by decide +kernel
theorem d_X1_leftBy_5 : decode (D_X1_leftBy).2.1 5 = .ok (.isub, 1) := by decide +kernel
theorem d_X1_leftBy_6 : decode (D_X1_leftBy).2.1 6 = .ok (.iand, 1) := by decide +kernel
theorem d_X1_leftBy_7 : decode (D_X1_leftBy).2.1 7 = .ok (.ifCond .ne 5, 3) := by decide +kernel
theorem d_X1_leftBy_10 : decode (D_X1_leftBy).2.1 10 = .ok (.iload_n 3, 1) := by decide +kernel
theorem d_X1_leftBy_11 : decode (D_X1_leftBy).2.1 11 = .ok (.ireturn, 1) := by decide +kernel
theorem d_X1_leftBy_12 : decode (D_X1_leftBy).2.1 12 = .ok (.iconst 0, 1) := by decide +kernel
theorem d_X1_leftBy_13 : decode (D_X1_leftBy).2.1 13 = .ok (.istore 4, 2) := by decide +kernel
theorem d_X1_leftBy_15 : decode (D_X1_leftBy).2.1 15 = .ok (.iload 4, 2) := by decide +kernel
theorem d_X1_leftBy_17 : decode (D_X1_leftBy).2.1 17 = .ok (.aload_n 1, 1) := by decide +kernel
theorem d_X1_leftBy_18 : decode (D_X1_leftBy).2.1 18 = .ok (.getfield 59, 3) := by decide +kernel
theorem d_X1_leftBy_21 : decode (D_X1_leftBy).2.1 21 = .ok (.if_icmp .ge 79, 3) := by decide +kernel
theorem d_X1_leftBy_24 : decode (D_X1_leftBy).2.1 24 = .ok (.iload_n 3, 1) := by decide +kernel
theorem d_X1_leftBy_25 : decode (D_X1_leftBy).2.1 25 = .ok (.iload 4, 2) := by decide +kernel
theorem d_X1_leftBy_27 : decode (D_X1_leftBy).2.1 27 = .ok (.invokestatic 68, 3) := by decide +kernel
theorem d_X1_leftBy_30 : decode (D_X1_leftBy).2.1 30 = .ok (.ifCond .eq 13, 3) := by decide +kernel
theorem d_X1_leftBy_33 : decode (D_X1_leftBy).2.1 33 = .ok (.aload_n 1, 1) := by decide +kernel
theorem d_X1_leftBy_34 : decode (D_X1_leftBy).2.1 34 = .ok (.iload_n 3, 1) := by decide +kernel
theorem d_X1_leftBy_35 : decode (D_X1_leftBy).2.1 35 = .ok (.iload 4, 2) := by decide +kernel
theorem d_X1_leftBy_37 : decode (D_X1_leftBy).2.1 37 = .ok (.invokevirtual 117, 3) := by decide +kernel
theorem d_X1_leftBy_40 : decode (D_X1_leftBy).2.1 40 = .ok (.goto 4, 3) := by decide +kernel
theorem d_X1_leftBy_43 : decode (D_X1_leftBy).2.1 43 = .ok (.iconst (-1), 1) := by decide +kernel
theorem d_X1_leftBy_44 : decode (D_X1_leftBy).2.1 44 = .ok (.istore 5, 2) := by decide +kernel
theorem d_X1_leftBy_46 : decode (D_X1_leftBy).2.1 46 = .ok (.iload 5, 2) := by decide +kernel
theorem d_X1_leftBy_48 : decode (D_X1_leftBy).2.1 48 = .ok (.iconst (-1), 1) := by decide +kernel
theorem d_X1_leftBy_49 : decode (D_X1_leftBy).2.1 49 = .ok (.if_icmp .eq 45, 3) := by decide +kernel
theorem d_X1_leftBy_52 : decode (D_X1_leftBy).2.1 52 = .ok (.iload_n 3, 1) := by decide +kernel
theorem d_X1_leftBy_53 : decode (D_X1_leftBy).2.1 53 = .ok (.iconst 1, 1) := by decide +kernel
theorem d_X1_leftBy_54 : decode (D_X1_leftBy).2.1 54 = .ok (.iload 4, 2) := by decide +kernel
theorem d_X1_leftBy_56 : decode (D_X1_leftBy).2.1 56 = .ok (.ishl, 1) := by decide +kernel
theorem d_X1_leftBy_57 : decode (D_X1_leftBy).2.1 57 = .ok (.iconst (-1), 1) := by decide +kernel
theorem d_X1_leftBy_58 : decode (D_X1_leftBy).2.1 58 = .ok (.ixor, 1) := by decide +kernel
theorem d_X1_leftBy_59 : decode (D_X1_leftBy).2.1 59 = .ok (.iand, 1) := by decide +kernel
theorem d_X1_leftBy_60 : decode (D_X1_leftBy).2.1 60 = .ok (.istore_n 3, 1) := by decide +kernel
theorem d_X1_leftBy_61 : decode (D_X1_leftBy).2.1 61 = .ok (.aload_n 0, 1) := by decide +kernel
theorem d_X1_leftBy_62 : decode (D_X1_leftBy).2.1 62 = .ok (.dup, 1) := by decide +kernel
theorem d_X1_leftBy_63 : decode (D_X1_leftBy).2.1 63 = .ok (.getfield 21, 3) := by decide +kernel
theorem d_X1_leftBy_66 : decode (D_X1_leftBy).2.1 66 = .ok (.iconst 1, 1) := by decide +kernel
theorem d_X1_leftBy_67 : decode (D_X1_leftBy).2.1 67 = .ok (.iload 4, 2) := by decide +kernel
theorem d_X1_leftBy_69 : decode (D_X1_leftBy).2.1 69 = .ok (.ishl, 1) := by decide +kernel
theorem d_X1_leftBy_70 : decode (D_X1_leftBy).2.1 70 = .ok (.ior, 1) := by decide +kernel
theorem d_X1_leftBy_71 : decode (D_X1_leftBy).2.1 71 = .ok (.putfield 21, 3) := by decide +kernel
theorem d_X1_leftBy_74 : decode (D_X1_leftBy).2.1 74 = .ok (.aload_n 0, 1) := by decide +kernel
theorem d_X1_leftBy_75 : decode (D_X1_leftBy).2.1 75 = .ok (.getfield 43, 3) := by decide +kernel
theorem d_X1_leftBy_78 : decode (D_X1_leftBy).2.1 78 = .ok (.iload 4, 2) := by decide +kernel
theorem d_X1_leftBy_80 : decode (D_X1_leftBy).2.1 80 = .ok (.iload 5, 2) := by decide +kernel
theorem d_X1_leftBy_82 : decode (D_X1_leftBy).2.1 82 = .ok (.iastore, 1) := by decide +kernel
theorem d_X1_leftBy_83 : decode (D_X1_leftBy).2.1 83 = .ok (.aload_n 0, 1) := by decide +kernel
theorem d_X1_leftBy_84 : decode (D_X1_leftBy).2.1 84 = .ok (.getfield 46, 3) := by decide +kernel
theorem d_X1_leftBy_87 : decode (D_X1_leftBy).2.1 87 = .ok (.iload 4, 2) := by decide +kernel
theorem d_X1_leftBy_89 : decode (D_X1_leftBy).2.1 89 = .ok (.aload_n 0, 1) := by decide +kernel
theorem d_X1_leftBy_90 : decode (D_X1_leftBy).2.1 90 = .ok (.getfield 15, 3) := by decide +kernel
theorem d_X1_leftBy_93 : decode (D_X1_leftBy).2.1 93 = .ok (.iastore, 1) := by decide +kernel
theorem d_X1_leftBy_94 : decode (D_X1_leftBy).2.1 94 = .ok (.iinc 4 1, 3) := by decide +kernel
theorem d_X1_leftBy_97 : decode (D_X1_leftBy).2.1 97 = .ok (.goto (-82), 3) := by decide +kernel
theorem d_X1_leftBy_100 : decode (D_X1_leftBy).2.1 100 = .ok (.iload_n 3, 1) := by decide +kernel
theorem d_X1_leftBy_101 : decode (D_X1_leftBy).2.1 101 = .ok (.ireturn, 1) := by decide +kernel
def f_X1_leftBy_L94 (n : Nat) (th : Nat) (p1 : Nat) (r15 : Int → Int → JMem → Option (Int × JMem)) (v3 v4 : Int) (M : JMem) : Option (Int × JMem) := letv (v4 + 1) fun y1 => r15 v3 y1 M
set_option maxRecDepth 4000 in
theorem t_X1_leftBy_L94 {g : JG} {ad : Nat → Nat} (hs : jStr g ad) (n : Nat) (th : Nat) (p1 : Nat) (hth : jK jNN (0, 1) th) (hp1 : jK jNN (0, 4) p1) (r15 : Int → Int → JMem → Option (Int × JMem)) (hr15 : ∀ (v3 v4 : Int) (M : JMem), jB g D_X1_leftBy ad 15 [some (.ref th), some (.ref p1), none, some (ji v3), some (ji v4), none] [] M (r15 v3 v4 M)) (v3 v4 : Int) (M : JMem) : jB g D_X1_leftBy ad 94 [some (.ref th), some (.ref p1), none, some (ji v3), some (ji v4), none] [] M (f_X1_leftBy_L94 n th p1 r15 v3 v4 M) := by
  unfold f_X1_leftBy_L94
  refine jo_iinc 4 d_X1_leftBy_94 rfl (Nat.le_of_ble_eq_true rfl) (fun y1 => ?_)
  refine jo_goto 15 d_X1_leftBy_97 (by decide) ?_
  exact jO.sub (hr15 v3 y1 M) (And.intro rfl (And.intro rfl (And.intro rfl (And.intro rfl True.intro))))
def f_X1_leftBy_L44 (n : Nat) (th : Nat) (p1 : Nat) (r15 : Int → Int → JMem → Option (Int × JMem)) (v3 v4 w0 : Int) (M : JMem) : Option (Int × JMem) := letv w0 fun y1 => if jw y1 = jw (-1) then (f_X1_leftBy_L94 n th p1 r15 v3 v4 M) else (letv (jand v3 (jxor (jshl 1 v4) (-1))) fun y2 => letm (jup M th 3 (jor (M th 3) (jshl 1 v4))) fun M3 => chk (jin v4 8) <| letm (jup M3 (th + 6) (jw v4).toNat y1) fun M4 => chk (jin v4 8) <| letm (jup M4 (th + 7) (jw v4).toNat (M4 th 1)) fun M5 => f_X1_leftBy_L94 n th p1 r15 y2 v4 M5)
set_option maxRecDepth 4000 in
theorem t_X1_leftBy_L44 {g : JG} {ad : Nat → Nat} (hs : jStr g ad) (n : Nat) (th : Nat) (p1 : Nat) (hth : jK jNN (0, 1) th) (hp1 : jK jNN (0, 4) p1) (r15 : Int → Int → JMem → Option (Int × JMem)) (hr15 : ∀ (v3 v4 : Int) (M : JMem), jB g D_X1_leftBy ad 15 [some (.ref th), some (.ref p1), none, some (ji v3), some (ji v4), none] [] M (r15 v3 v4 M)) (v3 v4 w0 : Int) (M : JMem) : jB g D_X1_leftBy ad 44 [some (.ref th), some (.ref p1), none, some (ji v3), some (ji v4), none] [ji w0] M (f_X1_leftBy_L44 n th p1 r15 v3 v4 w0 M) := by
  unfold f_X1_leftBy_L44
  refine jo_istoreW 5 d_X1_leftBy_44 (Nat.le_of_ble_eq_true rfl) (fun y1 => ?_)
  refine jo_iloadW 5 d_X1_leftBy_46 rfl ?_
  refine jo_iconst (-1) d_X1_leftBy_48 ?_
  refine jo_icmp_eq 94 d_X1_leftBy_49 (by decide) ?_ ?_
  · skip
    exact jO.sub (t_X1_leftBy_L94 hs n th p1 hth hp1 r15 hr15 v3 v4 M) (And.intro rfl (And.intro rfl (And.intro rfl (And.intro rfl True.intro))))
  · skip
    refine jo_iload 3 d_X1_leftBy_52 rfl rfl ?_
    refine jo_iconst 1 d_X1_leftBy_53 ?_
    refine jo_iloadW 4 d_X1_leftBy_54 rfl ?_
    refine jo_ishl d_X1_leftBy_56 ?_
    refine jo_iconst (-1) d_X1_leftBy_57 ?_
    refine jo_ixor d_X1_leftBy_58 ?_
    refine jo_iand d_X1_leftBy_59 ?_
    refine jo_istore 3 d_X1_leftBy_60 rfl (Nat.le_of_ble_eq_true rfl) (fun y2 => ?_)
    refine jo_aload 0 d_X1_leftBy_61 rfl rfl ?_
    refine jo_dup d_X1_leftBy_62 rfl ?_
    refine jo_getI (k := 3) cl_1 (Nat.le_of_ble_eq_true rfl) lk_X1_21 (Or.inl rfl) hth d_X1_leftBy_63 ?_
    refine jo_iconst 1 d_X1_leftBy_66 ?_
    refine jo_iloadW 4 d_X1_leftBy_67 rfl ?_
    refine jo_ishl d_X1_leftBy_69 ?_
    refine jo_ior d_X1_leftBy_70 ?_
    refine jo_putI (k := 3) cl_1 (Nat.le_of_ble_eq_true rfl) lk_X1_21 rfl rfl hth d_X1_leftBy_71 (fun M3 => ?_)
    refine jo_aload 0 d_X1_leftBy_74 rfl rfl ?_
    refine jo_getR (k := 10) cl_1 (Nat.le_of_ble_eq_true rfl) lk_X1_43 rfl hth (kr_Now_10 hth) d_X1_leftBy_75 ?_
    refine jo_iloadW 4 d_X1_leftBy_78 rfl ?_
    refine jo_iloadW 5 d_X1_leftBy_80 rfl ?_
    refine jo_iast (N := 8) (ka_Now_10 hth) d_X1_leftBy_82 (fun M4 => ?_)
    refine jo_aload 0 d_X1_leftBy_83 rfl rfl ?_
    refine jo_getR (k := 11) cl_1 (Nat.le_of_ble_eq_true rfl) lk_X1_46 rfl hth (kr_Now_11 hth) d_X1_leftBy_84 ?_
    refine jo_iloadW 4 d_X1_leftBy_87 rfl ?_
    refine jo_aload 0 d_X1_leftBy_89 rfl rfl ?_
    refine jo_getI (k := 1) cl_1 (Nat.le_of_ble_eq_true rfl) lk_X1_15 (Or.inl rfl) hth d_X1_leftBy_90 ?_
    refine jo_iast (N := 8) (ka_Now_11 hth) d_X1_leftBy_93 (fun M5 => ?_)
    exact jO.sub (t_X1_leftBy_L94 hs n th p1 hth hp1 r15 hr15 y2 v4 M5) (And.intro rfl (And.intro rfl (And.intro rfl (And.intro rfl True.intro))))
def f_X1_leftBy_L15 (n : Nat) (th : Nat) (p1 : Nat) : Nat → Int → Int → JMem → Option (Int × JMem)
  | 0, _, _, _ => none
  | k + 1, v3, v4, M => if jw (M p1 2) ≤ jw v4 then (some (v3, M)) else (bnd (f_X11_isIn n v3 v4 M) fun r1 M2 => if jw r1 = 0 then (f_X1_leftBy_L44 n th p1 (f_X1_leftBy_L15 n th p1 k) v3 v4 (-1) M2) else (bnd (f_X4_firstHunter n p1 v3 v4 M2) fun r3 M4 => f_X1_leftBy_L44 n th p1 (f_X1_leftBy_L15 n th p1 k) v3 v4 r3 M4))
set_option maxRecDepth 4000 in
theorem t_X1_leftBy_L15 {g : JG} {ad : Nat → Nat} (hs : jStr g ad) (n : Nat) (th : Nat) (p1 : Nat) (hth : jK jNN (0, 1) th) (hp1 : jK jNN (0, 4) p1) : ∀ (k : Nat) (v3 v4 : Int) (M : JMem), jB g D_X1_leftBy ad 15 [some (.ref th), some (.ref p1), none, some (ji v3), some (ji v4), none] [] M (f_X1_leftBy_L15 n th p1 k v3 v4 M) := by
  intro k
  induction k with
  | zero => intro v3 v4 M; exact jO.none
  | succ k ih =>
    intro v3 v4 M
    rw [f_X1_leftBy_L15]
    refine jo_iloadW 4 d_X1_leftBy_15 rfl ?_
    refine jo_aload 1 d_X1_leftBy_17 rfl rfl ?_
    refine jo_getI (k := 2) cl_4 (Nat.le_of_ble_eq_true rfl) lk_X1_59 (Or.inl rfl) hp1 d_X1_leftBy_18 ?_
    refine jo_icmp_ge 100 d_X1_leftBy_21 (by decide) ?_ ?_
    · skip
      refine jo_iload 3 d_X1_leftBy_100 rfl rfl ?_
      exact jo_iret rfl d_X1_leftBy_101
    · skip
      refine jo_iload 3 d_X1_leftBy_24 rfl rfl ?_
      refine jo_iloadW 4 d_X1_leftBy_25 rfl ?_
      refine jo_callSN (st := []) (m_X11_isIn hs n v3 v4 M) ok_X11_isIn (And.intro (Nat.le_of_ble_eq_true rfl) (Nat.le_of_ble_eq_true rfl)) lm_X1_68 st_X11_isIn rfl (And.intro (Nat.zero_le _) (Nat.zero_le _)) rfl (Nat.le_of_ble_eq_true rfl) d_X1_leftBy_27 (fun r1 M2 => ?_)
      refine jo_if_eq 43 d_X1_leftBy_30 (by decide) ?_ ?_
      · skip
        refine jo_iconst (-1) d_X1_leftBy_43 ?_
        exact jO.sub (t_X1_leftBy_L44 hs n th p1 hth hp1 (f_X1_leftBy_L15 n th p1 k) ih v3 v4 (-1) M2) (And.intro rfl (And.intro rfl (And.intro rfl (And.intro rfl True.intro))))
      · skip
        refine jo_aload 1 d_X1_leftBy_33 rfl rfl ?_
        refine jo_iload 3 d_X1_leftBy_34 rfl rfl ?_
        refine jo_iloadW 4 d_X1_leftBy_35 rfl ?_
        refine jo_callV (st := []) (m_X4_firstHunter hs n p1 v3 v4 hp1 M2) ok_X4_firstHunter (And.intro (Nat.le_of_ble_eq_true rfl) (Nat.le_of_ble_eq_true rfl)) lm_X1_117 in_X4_firstHunter se_X4_firstHunter rfl hp1 rfl rfl (And.intro (Nat.zero_le _) (Nat.zero_le _)) rfl (Nat.le_of_ble_eq_true rfl) d_X1_leftBy_37 (fun r3 M4 => ?_)
        refine jo_goto 44 d_X1_leftBy_40 (by decide) ?_
        exact jO.sub (t_X1_leftBy_L44 hs n th p1 hth hp1 (f_X1_leftBy_L15 n th p1 k) ih v3 v4 r3 M4) (And.intro rfl (And.intro rfl (And.intro rfl (And.intro rfl True.intro))))
def f_X1_leftBy (n : Nat) (th : Nat) (p1 : Nat) (x2 : Int) (M : JMem) : Option (Int × JMem) := letv x2 fun y1 => if jw (jand x2 (x2 - 1)) = 0 then (some (y1, M)) else (letv 0 fun y2 => f_X1_leftBy_L15 n th p1 n y1 y2 M)
set_option maxRecDepth 4000 in
theorem t_X1_leftBy {g : JG} {ad : Nat → Nat} (hs : jStr g ad) (n : Nat) (th : Nat) (p1 : Nat) (x2 : Int) (hth : jK jNN (0, 1) th) (hp1 : jK jNN (0, 4) p1) (M : JMem) : jB g D_X1_leftBy ad 0 [some (.ref th), some (.ref p1), some (ji x2), none, none, none] [] M (f_X1_leftBy n th p1 x2 M) := by
  unfold f_X1_leftBy
  refine jo_iload 2 d_X1_leftBy_0 rfl rfl ?_
  refine jo_istore 3 d_X1_leftBy_1 rfl (Nat.le_of_ble_eq_true rfl) (fun y1 => ?_)
  refine jo_iload 2 d_X1_leftBy_2 rfl rfl ?_
  refine jo_iload 2 d_X1_leftBy_3 rfl rfl ?_
  refine jo_iconst 1 d_X1_leftBy_4 ?_
  refine jo_isub d_X1_leftBy_5 ?_
  refine jo_iand d_X1_leftBy_6 ?_
  refine jo_if_ne 12 d_X1_leftBy_7 (by decide) ?_ ?_
  · skip
    refine jo_iconst 0 d_X1_leftBy_12 ?_
    refine jo_istoreW 4 d_X1_leftBy_13 (Nat.le_of_ble_eq_true rfl) (fun y2 => ?_)
    exact jO.sub (t_X1_leftBy_L15 hs n th p1 hth hp1 n y1 y2 M) (And.intro rfl (And.intro rfl (And.intro rfl (And.intro rfl True.intro))))
  · skip
    refine jo_iload 3 d_X1_leftBy_10 rfl rfl ?_
    exact jo_iret rfl d_X1_leftBy_11
theorem m_X1_leftBy {g : JG} {ad : Nat → Nat} (hs : jStr g ad) (n : Nat) (th : Nat) (p1 : Nat) (x2 : Int) (hth : jK jNN (0, 1) th) (hp1 : jK jNN (0, 4) p1) (M : JMem) : jMet g jNN ad jR D_X1_leftBy yX1_leftBy [.ref th, .ref p1, ji x2] M (f_X1_leftBy n th p1 x2 M) :=
  jMet.of (lo0 := [some (.ref th), some (.ref p1), some (ji x2), none, none, none]) (by decide) rfl rfl (Nat.le_of_ble_eq_true rfl) (And.intro rfl (And.intro rfl (And.intro rfl True.intro))) (t_X1_leftBy hs n th p1 x2 hth hp1 M)
/-! CageLeave$Now.feast(LCageLeave$Plan;)V -/
def D_X1_feast : JD := (RX1, cX1_feast, 3, none, "feast", { frames := 2, cells := 0, slots := 0, locals := 48 })
theorem ok_X1_feast : jOk D_X1_feast yX1_feast 1 := ⟨jTW_mem (k := 1034) (by decide +kernel) rfl, jTW_mem (k := 144) (by decide +kernel) rfl, ⟨by decide +kernel, by decide +kernel⟩, by decide +kernel, rfl, rfl⟩
theorem in_X1_feast : Cond.instanceMethod yX1_feast ∈ jTW := jTW_mem (k := 1033) (by decide +kernel) rfl
theorem se_X1_feast : Cond.selects yX1_feast.cls yX1_feast yX1_feast ∈ jTW := jTW_mem (k := 27) (by decide +kernel) rfl
theorem lk_X1_72 : Cond.fieldLink RX1 72 (TX4 0).1 (TX4 0).2.1 (TX4 0).2.2.1 ∈ jTW := jTW_mem (k := 304) (by decide +kernel) rfl
theorem lm_X1_114 : Cond.methodLink RX1 114 yX1_leftBy ∈ jTW := jTW_mem (k := 1035) (by decide +kernel) rfl
theorem d_X1_feast_0 : decode (D_X1_feast).2.1 0 = .ok (.iconst 1, 1) := by decide +kernel
theorem d_X1_feast_1 : decode (D_X1_feast).2.1 1 = .ok (.istore_n 2, 1) := by decide +kernel
theorem d_X1_feast_2 : decode (D_X1_feast).2.1 2 = .ok (.iload_n 2, 1) := by decide +kernel
theorem d_X1_feast_3 : decode (D_X1_feast).2.1 3 = .ok (.aload_n 1, 1) := by decide +kernel
theorem d_X1_feast_4 : decode (D_X1_feast).2.1 4 = .ok (.getfield 72, 3) := by decide +kernel
theorem d_X1_feast_7 : decode (D_X1_feast).2.1 7 = .ok (.if_icmp .ge 26, 3) := by decide +kernel
theorem d_X1_feast_10 : decode (D_X1_feast).2.1 10 = .ok (.aload_n 0, 1) := by decide +kernel
theorem d_X1_feast_11 : decode (D_X1_feast).2.1 11 = .ok (.getfield 34, 3) := by decide +kernel
theorem d_X1_feast_14 : decode (D_X1_feast).2.1 14 = .ok (.iload_n 2, 1) := by decide +kernel
theorem d_X1_feast_15 : decode (D_X1_feast).2.1 15 = .ok (.aload_n 0, 1) := by decide +kernel
theorem d_X1_feast_16 : decode (D_X1_feast).2.1 16 = .ok (.aload_n 1, 1) := by decide +kernel
theorem d_X1_feast_17 : decode (D_X1_feast).2.1 17 = .ok (.aload_n 0, 1) := by decide +kernel
theorem d_X1_feast_18 : decode (D_X1_feast).2.1 18 = .ok (.getfield 34, 3) := by decide +kernel
theorem d_X1_feast_21 : decode (D_X1_feast).2.1 21 = .ok (.iload_n 2, 1) := by decide +kernel
theorem d_X1_feast_22 : decode (D_X1_feast).2.1 22 = .ok (.iaload, 1) := by decide +kernel
theorem d_X1_feast_23 : decode (D_X1_feast).2.1 23 = .ok (.invokevirtual 114, 3) := by decide +kernel
theorem d_X1_feast_26 : decode (D_X1_feast).2.1 26 = .ok (.iastore, 1) := by decide +kernel
theorem d_X1_feast_27 : decode (D_X1_feast).2.1 27 = .ok (.iinc 2 1, 3) := by decide +kernel
theorem d_X1_feast_30 : decode (D_X1_feast).2.1 30 = .ok (.goto (-28), 3) := by decide +kernel
theorem d_X1_feast_33 : decode (D_X1_feast).2.1 33 = .ok (.iconst 0, 1) := by decide +kernel
theorem d_X1_feast_34 : decode (D_X1_feast).2.1 34 = .ok (.istore_n 2, 1) := by decide +kernel
theorem d_X1_feast_35 : decode (D_X1_feast).2.1 35 = .ok (.iload_n 2, 1) := by decide +kernel
theorem d_X1_feast_36 : decode (D_X1_feast).2.1 36 = .ok (.aload_n 1, 1) := by decide +kernel
theorem d_X1_feast_37 : decode (D_X1_feast).2.1 37 = .ok (.getfield 75, 3) := by decide +kernel
theorem d_X1_feast_40 : decode (D_X1_feast).2.1 40 = .ok (.if_icmp .ge 26, 3) := by decide +kernel
theorem d_X1_feast_43 : decode (D_X1_feast).2.1 43 = .ok (.aload_n 0, 1) := by decide +kernel
theorem d_X1_feast_44 : decode (D_X1_feast).2.1 44 = .ok (.getfield 37, 3) := by decide +kernel
theorem d_X1_feast_47 : decode (D_X1_feast).2.1 47 = .ok (.iload_n 2, 1) := by decide +kernel
theorem d_X1_feast_48 : decode (D_X1_feast).2.1 48 = .ok (.aload_n 0, 1) := by decide +kernel
theorem d_X1_feast_49 : decode (D_X1_feast).2.1 49 = .ok (.aload_n 1, 1) := by decide +kernel
theorem d_X1_feast_50 : decode (D_X1_feast).2.1 50 = .ok (.aload_n 0, 1) := by decide +kernel
theorem d_X1_feast_51 : decode (D_X1_feast).2.1 51 = .ok (.getfield 37, 3) := by decide +kernel
theorem d_X1_feast_54 : decode (D_X1_feast).2.1 54 = .ok (.iload_n 2, 1) := by decide +kernel
theorem d_X1_feast_55 : decode (D_X1_feast).2.1 55 = .ok (.iaload, 1) := by decide +kernel
theorem d_X1_feast_56 : decode (D_X1_feast).2.1 56 = .ok (.invokevirtual 114, 3) := by decide +kernel
theorem d_X1_feast_59 : decode (D_X1_feast).2.1 59 = .ok (.iastore, 1) := by decide +kernel
theorem d_X1_feast_60 : decode (D_X1_feast).2.1 60 = .ok (.iinc 2 1, 3) := by decide +kernel
theorem d_X1_feast_63 : decode (D_X1_feast).2.1 63 = .ok (.goto (-28), 3) := by decide +kernel
theorem d_X1_feast_66 : decode (D_X1_feast).2.1 66 = .ok (.return_, 1) := by decide +kernel
def f_X1_feast_L35 (n : Nat) (th : Nat) (p1 : Nat) : Nat → Int → JMem → Option (Int × JMem)
  | 0, _, _ => none
  | k + 1, v2, M => if jw (M p1 1) ≤ jw v2 then (some (0, M)) else (chk (jin v2 8) <| bnd (f_X1_leftBy n th p1 (M (th + 4) (jw v2).toNat) M) fun r1 M2 => chk (jin v2 8) <| letm (jup M2 (th + 4) (jw v2).toNat r1) fun M3 => letv (v2 + 1) fun y4 => (f_X1_feast_L35 n th p1 k) y4 M3)
set_option maxRecDepth 4000 in
theorem t_X1_feast_L35 {g : JG} {ad : Nat → Nat} (hs : jStr g ad) (n : Nat) (th : Nat) (p1 : Nat) (hth : jK jNN (0, 1) th) (hp1 : jK jNN (0, 4) p1) : ∀ (k : Nat) (v2 : Int) (M : JMem), jB g D_X1_feast ad 35 [some (.ref th), some (.ref p1), some (ji v2)] [] M (f_X1_feast_L35 n th p1 k v2 M) := by
  intro k
  induction k with
  | zero => intro v2 M; exact jO.none
  | succ k ih =>
    intro v2 M
    rw [f_X1_feast_L35]
    refine jo_iload 2 d_X1_feast_35 rfl rfl ?_
    refine jo_aload 1 d_X1_feast_36 rfl rfl ?_
    refine jo_getI (k := 1) cl_4 (Nat.le_of_ble_eq_true rfl) lk_X1_75 (Or.inl rfl) hp1 d_X1_feast_37 ?_
    refine jo_icmp_ge 66 d_X1_feast_40 (by decide) ?_ ?_
    · skip
      exact jo_vret rfl d_X1_feast_66
    · skip
      refine jo_aload 0 d_X1_feast_43 rfl rfl ?_
      refine jo_getR (k := 8) cl_1 (Nat.le_of_ble_eq_true rfl) lk_X1_37 rfl hth (kr_Now_8 hth) d_X1_feast_44 ?_
      refine jo_iload 2 d_X1_feast_47 rfl rfl ?_
      refine jo_aload 0 d_X1_feast_48 rfl rfl ?_
      refine jo_aload 1 d_X1_feast_49 rfl rfl ?_
      refine jo_aload 0 d_X1_feast_50 rfl rfl ?_
      refine jo_getR (k := 8) cl_1 (Nat.le_of_ble_eq_true rfl) lk_X1_37 rfl hth (kr_Now_8 hth) d_X1_feast_51 ?_
      refine jo_iload 2 d_X1_feast_54 rfl rfl ?_
      refine jo_iald (N := 8) (ka_Now_8 hth) d_X1_feast_55 ?_
      refine jo_callV (st := [ji v2, .ref (th + 4)]) (m_X1_leftBy hs n th p1 (M (th + 4) (jw v2).toNat) hth hp1 M) ok_X1_leftBy (And.intro (Nat.le_of_ble_eq_true rfl) (Nat.le_of_ble_eq_true rfl)) lm_X1_114 in_X1_leftBy se_X1_leftBy rfl hth rfl rfl (And.intro (Nat.zero_le _) (Nat.zero_le _)) rfl (Nat.le_of_ble_eq_true rfl) d_X1_feast_56 (fun r1 M2 => ?_)
      refine jo_iast (N := 8) (ka_Now_8 hth) d_X1_feast_59 (fun M3 => ?_)
      refine jo_iinc 2 d_X1_feast_60 rfl (Nat.le_of_ble_eq_true rfl) (fun y4 => ?_)
      refine jo_goto 35 d_X1_feast_63 (by decide) ?_
      exact jO.sub (ih y4 M3) (And.intro rfl (And.intro rfl (And.intro rfl True.intro)))
def f_X1_feast_L33 (n : Nat) (th : Nat) (p1 : Nat) (M : JMem) : Option (Int × JMem) := letv 0 fun y1 => f_X1_feast_L35 n th p1 n y1 M
set_option maxRecDepth 4000 in
theorem t_X1_feast_L33 {g : JG} {ad : Nat → Nat} (hs : jStr g ad) (n : Nat) (th : Nat) (p1 : Nat) (hth : jK jNN (0, 1) th) (hp1 : jK jNN (0, 4) p1) (M : JMem) : jB g D_X1_feast ad 33 [some (.ref th), some (.ref p1), none] [] M (f_X1_feast_L33 n th p1 M) := by
  unfold f_X1_feast_L33
  refine jo_iconst 0 d_X1_feast_33 ?_
  refine jo_istore 2 d_X1_feast_34 rfl (Nat.le_of_ble_eq_true rfl) (fun y1 => ?_)
  exact jO.sub (t_X1_feast_L35 hs n th p1 hth hp1 n y1 M) (And.intro rfl (And.intro rfl (And.intro rfl True.intro)))
def f_X1_feast_L2 (n : Nat) (th : Nat) (p1 : Nat) : Nat → Int → JMem → Option (Int × JMem)
  | 0, _, _ => none
  | k + 1, v2, M => if jw (M p1 0) ≤ jw v2 then (f_X1_feast_L33 n th p1 M) else (chk (jin v2 6) <| bnd (f_X1_leftBy n th p1 (M (th + 3) (jw v2).toNat) M) fun r1 M2 => chk (jin v2 6) <| letm (jup M2 (th + 3) (jw v2).toNat r1) fun M3 => letv (v2 + 1) fun y4 => (f_X1_feast_L2 n th p1 k) y4 M3)
set_option maxRecDepth 4000 in
theorem t_X1_feast_L2 {g : JG} {ad : Nat → Nat} (hs : jStr g ad) (n : Nat) (th : Nat) (p1 : Nat) (hth : jK jNN (0, 1) th) (hp1 : jK jNN (0, 4) p1) : ∀ (k : Nat) (v2 : Int) (M : JMem), jB g D_X1_feast ad 2 [some (.ref th), some (.ref p1), some (ji v2)] [] M (f_X1_feast_L2 n th p1 k v2 M) := by
  intro k
  induction k with
  | zero => intro v2 M; exact jO.none
  | succ k ih =>
    intro v2 M
    rw [f_X1_feast_L2]
    refine jo_iload 2 d_X1_feast_2 rfl rfl ?_
    refine jo_aload 1 d_X1_feast_3 rfl rfl ?_
    refine jo_getI (k := 0) cl_4 (Nat.le_of_ble_eq_true rfl) lk_X1_72 (Or.inl rfl) hp1 d_X1_feast_4 ?_
    refine jo_icmp_ge 33 d_X1_feast_7 (by decide) ?_ ?_
    · skip
      exact jO.sub (t_X1_feast_L33 hs n th p1 hth hp1 M) (And.intro rfl (And.intro rfl True.intro))
    · skip
      refine jo_aload 0 d_X1_feast_10 rfl rfl ?_
      refine jo_getR (k := 7) cl_1 (Nat.le_of_ble_eq_true rfl) lk_X1_34 rfl hth (kr_Now_7 hth) d_X1_feast_11 ?_
      refine jo_iload 2 d_X1_feast_14 rfl rfl ?_
      refine jo_aload 0 d_X1_feast_15 rfl rfl ?_
      refine jo_aload 1 d_X1_feast_16 rfl rfl ?_
      refine jo_aload 0 d_X1_feast_17 rfl rfl ?_
      refine jo_getR (k := 7) cl_1 (Nat.le_of_ble_eq_true rfl) lk_X1_34 rfl hth (kr_Now_7 hth) d_X1_feast_18 ?_
      refine jo_iload 2 d_X1_feast_21 rfl rfl ?_
      refine jo_iald (N := 6) (ka_Now_7 hth) d_X1_feast_22 ?_
      refine jo_callV (st := [ji v2, .ref (th + 3)]) (m_X1_leftBy hs n th p1 (M (th + 3) (jw v2).toNat) hth hp1 M) ok_X1_leftBy (And.intro (Nat.le_of_ble_eq_true rfl) (Nat.le_of_ble_eq_true rfl)) lm_X1_114 in_X1_leftBy se_X1_leftBy rfl hth rfl rfl (And.intro (Nat.zero_le _) (Nat.zero_le _)) rfl (Nat.le_of_ble_eq_true rfl) d_X1_feast_23 (fun r1 M2 => ?_)
      refine jo_iast (N := 6) (ka_Now_7 hth) d_X1_feast_26 (fun M3 => ?_)
      refine jo_iinc 2 d_X1_feast_27 rfl (Nat.le_of_ble_eq_true rfl) (fun y4 => ?_)
      refine jo_goto 2 d_X1_feast_30 (by decide) ?_
      exact jO.sub (ih y4 M3) (And.intro rfl (And.intro rfl (And.intro rfl True.intro)))
def f_X1_feast (n : Nat) (th : Nat) (p1 : Nat) (M : JMem) : Option (Int × JMem) := letv 1 fun y1 => f_X1_feast_L2 n th p1 n y1 M
set_option maxRecDepth 4000 in
theorem t_X1_feast {g : JG} {ad : Nat → Nat} (hs : jStr g ad) (n : Nat) (th : Nat) (p1 : Nat) (hth : jK jNN (0, 1) th) (hp1 : jK jNN (0, 4) p1) (M : JMem) : jB g D_X1_feast ad 0 [some (.ref th), some (.ref p1), none] [] M (f_X1_feast n th p1 M) := by
  unfold f_X1_feast
  refine jo_iconst 1 d_X1_feast_0 ?_
  refine jo_istore 2 d_X1_feast_1 rfl (Nat.le_of_ble_eq_true rfl) (fun y1 => ?_)
  exact jO.sub (t_X1_feast_L2 hs n th p1 hth hp1 n y1 M) (And.intro rfl (And.intro rfl (And.intro rfl True.intro)))
theorem m_X1_feast {g : JG} {ad : Nat → Nat} (hs : jStr g ad) (n : Nat) (th : Nat) (p1 : Nat) (hth : jK jNN (0, 1) th) (hp1 : jK jNN (0, 4) p1) (M : JMem) : jMet g jNN ad jR D_X1_feast yX1_feast [.ref th, .ref p1] M (f_X1_feast n th p1 M) :=
  jMet.of (lo0 := [some (.ref th), some (.ref p1), none]) (by decide) rfl rfl (Nat.le_of_ble_eq_true rfl) (And.intro rfl (And.intro rfl True.intro)) (t_X1_feast hs n th p1 hth hp1 M)
/-! CageLeave$Now.passUntil(LCageLeave$Plan;I)I -/
def D_X1_passUntil : JD := (RX1, cX1_passUntil, 6, some .int, "passUntil", { frames := 3, cells := 0, slots := 0, locals := 70 })
theorem ok_X1_passUntil : jOk D_X1_passUntil yX1_passUntil 2 := ⟨jTW_mem (k := 1014) (by decide +kernel) rfl, jTW_mem (k := 144) (by decide +kernel) rfl, ⟨by decide +kernel, by decide +kernel⟩, by decide +kernel, rfl, rfl⟩
theorem in_X1_passUntil : Cond.instanceMethod yX1_passUntil ∈ jTW := jTW_mem (k := 1012) (by decide +kernel) rfl
theorem se_X1_passUntil : Cond.selects yX1_passUntil.cls yX1_passUntil yX1_passUntil ∈ jTW := jTW_mem (k := 1013) (by decide +kernel) rfl
theorem lm_X1_86 : Cond.methodLink RX1 86 yX1_arrive ∈ jTW := jTW_mem (k := 1019) (by decide +kernel) rfl
theorem lm_X1_89 : Cond.methodLink RX1 89 yX1_depart ∈ jTW := jTW_mem (k := 1023) (by decide +kernel) rfl
theorem lm_X1_92 : Cond.methodLink RX1 92 yX1_feast ∈ jTW := jTW_mem (k := 1031) (by decide +kernel) rfl
theorem lm_X1_82 : Cond.methodLink RX1 82 yX1_isBusy ∈ jTW := jTW_mem (k := 1015) (by decide +kernel) rfl
theorem d_X1_passUntil_0 : decode (D_X1_passUntil).2.1 0 = .ok (.aload_n 0, 1) := by decide +kernel
theorem d_X1_passUntil_1 : decode (D_X1_passUntil).2.1 1 = .ok (.getfield 21, 3) := by decide +kernel
theorem d_X1_passUntil_4 : decode (D_X1_passUntil).2.1 4 = .ok (.istore_n 3, 1) := by decide +kernel
theorem d_X1_passUntil_5 : decode (D_X1_passUntil).2.1 5 = .ok (.aload_n 0, 1) := by decide +kernel
theorem d_X1_passUntil_6 : decode (D_X1_passUntil).2.1 6 = .ok (.getfield 15, 3) := by decide +kernel
theorem d_X1_passUntil_9 : decode (D_X1_passUntil).2.1 9 = .ok (.istore 4, 2) := by decide +kernel
theorem d_X1_passUntil_11 : decode (D_X1_passUntil).2.1 11 = .ok (.iload 4, 2) := by decide +kernel
theorem d_X1_passUntil_13 : decode (D_X1_passUntil).2.1 13 = .ok (.istore 5, 2) := by decide +kernel
theorem d_X1_passUntil_15 : decode (D_X1_passUntil).2.1 15 = .ok (.iload 5, 2) := by decide +kernel
theorem d_X1_passUntil_17 : decode (D_X1_passUntil).2.1 17 = .ok (.iload_n 2, 1) := by decide +kernel
theorem d_X1_passUntil_18 : decode (D_X1_passUntil).2.1 18 = .ok (.if_icmp .ge 47, 3) := by decide +kernel
theorem d_X1_passUntil_21 : decode (D_X1_passUntil).2.1 21 = .ok (.iload 5, 2) := by decide +kernel
theorem d_X1_passUntil_23 : decode (D_X1_passUntil).2.1 23 = .ok (.iload 4, 2) := by decide +kernel
theorem d_X1_passUntil_25 : decode (D_X1_passUntil).2.1 25 = .ok (.if_icmp .eq 11, 3) := by decide +kernel
theorem d_X1_passUntil_28 : decode (D_X1_passUntil).2.1 28 = .ok (.aload_n 0, 1) := by decide +kernel
theorem d_X1_passUntil_29 : decode (D_X1_passUntil).2.1 29 = .ok (.aload_n 1, 1) := by decide +kernel
theorem d_X1_passUntil_30 : decode (D_X1_passUntil).2.1 30 = .ok (.invokevirtual 82, 3) := by decide +kernel
theorem d_X1_passUntil_33 : decode (D_X1_passUntil).2.1 33 = .ok (.ifCond .eq 18, 3) := by decide +kernel
theorem d_X1_passUntil_36 : decode (D_X1_passUntil).2.1 36 = .ok (.aload_n 0, 1) := by decide +kernel
theorem d_X1_passUntil_37 : decode (D_X1_passUntil).2.1 37 = .ok (.aload_n 1, 1) := by decide +kernel
theorem d_X1_passUntil_38 : decode (D_X1_passUntil).2.1 38 = .ok (.invokevirtual 86, 3) := by decide +kernel
theorem d_X1_passUntil_41 : decode (D_X1_passUntil).2.1 41 = .ok (.aload_n 0, 1) := by decide +kernel
theorem d_X1_passUntil_42 : decode (D_X1_passUntil).2.1 42 = .ok (.aload_n 1, 1) := by decide +kernel
theorem d_X1_passUntil_43 : decode (D_X1_passUntil).2.1 43 = .ok (.invokevirtual 89, 3) := by decide +kernel
theorem d_X1_passUntil_46 : decode (D_X1_passUntil).2.1 46 = .ok (.aload_n 0, 1) := by decide +kernel
theorem d_X1_passUntil_47 : decode (D_X1_passUntil).2.1 47 = .ok (.aload_n 1, 1) := by decide +kernel
theorem d_X1_passUntil_48 : decode (D_X1_passUntil).2.1 48 = .ok (.invokevirtual 92, 3) := by decide +kernel
theorem d_X1_passUntil_51 : decode (D_X1_passUntil).2.1 51 = .ok (.aload_n 0, 1) := by decide +kernel
theorem d_X1_passUntil_52 : decode (D_X1_passUntil).2.1 52 = .ok (.iload 5, 2) := by decide +kernel
theorem d_X1_passUntil_54 : decode (D_X1_passUntil).2.1 54 = .ok (.iconst 1, 1) := by decide +kernel
theorem d_X1_passUntil_55 : decode (D_X1_passUntil).2.1 55 = .ok (.iadd, 1) := by decide +kernel
theorem d_X1_passUntil_56 : decode (D_X1_passUntil).2.1 56 = .ok (.putfield 15, 3) := by decide +kernel
theorem d_X1_passUntil_59 : decode (D_X1_passUntil).2.1 59 = .ok (.iinc 5 1, 3) := by decide +kernel
theorem d_X1_passUntil_62 : decode (D_X1_passUntil).2.1 62 = .ok (.goto (-47), 3) := by decide +kernel
theorem d_X1_passUntil_65 : decode (D_X1_passUntil).2.1 65 = .ok (.aload_n 0, 1) := by decide +kernel
theorem d_X1_passUntil_66 : decode (D_X1_passUntil).2.1 66 = .ok (.getfield 21, 3) := by decide +kernel
theorem d_X1_passUntil_69 : decode (D_X1_passUntil).2.1 69 = .ok (.iload_n 3, 1) := by decide +kernel
theorem d_X1_passUntil_70 : decode (D_X1_passUntil).2.1 70 = .ok (.iconst (-1), 1) := by decide +kernel
theorem d_X1_passUntil_71 : decode (D_X1_passUntil).2.1 71 = .ok (.ixor, 1) := by decide +kernel
theorem d_X1_passUntil_72 : decode (D_X1_passUntil).2.1 72 = .ok (.iand, 1) := by decide +kernel
theorem d_X1_passUntil_73 : decode (D_X1_passUntil).2.1 73 = .ok (.ireturn, 1) := by decide +kernel
def f_X1_passUntil_L51 (n : Nat) (th : Nat) (p1 : Nat) (r15 : Int → Int → Int → Int → JMem → Option (Int × JMem)) (v2 v3 v4 v5 : Int) (M : JMem) : Option (Int × JMem) := letm (jup M th 1 (v5 + 1)) fun M1 => letv (v5 + 1) fun y2 => r15 v2 v3 v4 y2 M1
set_option maxRecDepth 4000 in
theorem t_X1_passUntil_L51 {g : JG} {ad : Nat → Nat} (hs : jStr g ad) (n : Nat) (th : Nat) (p1 : Nat) (hth : jK jNN (0, 1) th) (hp1 : jK jNN (0, 4) p1) (r15 : Int → Int → Int → Int → JMem → Option (Int × JMem)) (hr15 : ∀ (v2 v3 v4 v5 : Int) (M : JMem), jB g D_X1_passUntil ad 15 [some (.ref th), some (.ref p1), some (ji v2), some (ji v3), some (ji v4), some (ji v5)] [] M (r15 v2 v3 v4 v5 M)) (v2 v3 v4 v5 : Int) (M : JMem) : jB g D_X1_passUntil ad 51 [some (.ref th), some (.ref p1), some (ji v2), some (ji v3), some (ji v4), some (ji v5)] [] M (f_X1_passUntil_L51 n th p1 r15 v2 v3 v4 v5 M) := by
  unfold f_X1_passUntil_L51
  refine jo_aload 0 d_X1_passUntil_51 rfl rfl ?_
  refine jo_iloadW 5 d_X1_passUntil_52 rfl ?_
  refine jo_iconst 1 d_X1_passUntil_54 ?_
  refine jo_iadd d_X1_passUntil_55 ?_
  refine jo_putI (k := 1) cl_1 (Nat.le_of_ble_eq_true rfl) lk_X1_15 rfl rfl hth d_X1_passUntil_56 (fun M1 => ?_)
  refine jo_iinc 5 d_X1_passUntil_59 rfl (Nat.le_of_ble_eq_true rfl) (fun y2 => ?_)
  refine jo_goto 15 d_X1_passUntil_62 (by decide) ?_
  exact jO.sub (hr15 v2 v3 v4 y2 M1) (And.intro rfl (And.intro rfl (And.intro rfl (And.intro rfl (And.intro rfl (And.intro rfl True.intro))))))
def f_X1_passUntil_L36 (n : Nat) (th : Nat) (p1 : Nat) (r15 : Int → Int → Int → Int → JMem → Option (Int × JMem)) (v2 v3 v4 v5 : Int) (M : JMem) : Option (Int × JMem) := bnd (f_X1_arrive n th p1 M) fun _ M2 => bnd (f_X1_depart n th p1 M2) fun _ M4 => bnd (f_X1_feast n th p1 M4) fun _ M6 => f_X1_passUntil_L51 n th p1 r15 v2 v3 v4 v5 M6
set_option maxRecDepth 4000 in
theorem t_X1_passUntil_L36 {g : JG} {ad : Nat → Nat} (hs : jStr g ad) (n : Nat) (th : Nat) (p1 : Nat) (hth : jK jNN (0, 1) th) (hp1 : jK jNN (0, 4) p1) (r15 : Int → Int → Int → Int → JMem → Option (Int × JMem)) (hr15 : ∀ (v2 v3 v4 v5 : Int) (M : JMem), jB g D_X1_passUntil ad 15 [some (.ref th), some (.ref p1), some (ji v2), some (ji v3), some (ji v4), some (ji v5)] [] M (r15 v2 v3 v4 v5 M)) (v2 v3 v4 v5 : Int) (M : JMem) : jB g D_X1_passUntil ad 36 [some (.ref th), some (.ref p1), some (ji v2), some (ji v3), some (ji v4), some (ji v5)] [] M (f_X1_passUntil_L36 n th p1 r15 v2 v3 v4 v5 M) := by
  unfold f_X1_passUntil_L36
  refine jo_aload 0 d_X1_passUntil_36 rfl rfl ?_
  refine jo_aload 1 d_X1_passUntil_37 rfl rfl ?_
  refine jo_callV (st := []) (m_X1_arrive hs n th p1 hth hp1 M) ok_X1_arrive (And.intro (Nat.le_of_ble_eq_true rfl) (Nat.le_of_ble_eq_true rfl)) lm_X1_86 in_X1_arrive se_X1_arrive rfl hth rfl rfl (And.intro (Nat.zero_le _) (Nat.zero_le _)) rfl (Nat.le_of_ble_eq_true rfl) d_X1_passUntil_38 (fun _ M2 => ?_)
  refine jo_aload 0 d_X1_passUntil_41 rfl rfl ?_
  refine jo_aload 1 d_X1_passUntil_42 rfl rfl ?_
  refine jo_callV (st := []) (m_X1_depart hs n th p1 hth hp1 M2) ok_X1_depart (And.intro (Nat.le_of_ble_eq_true rfl) (Nat.le_of_ble_eq_true rfl)) lm_X1_89 in_X1_depart se_X1_depart rfl hth rfl rfl (And.intro (Nat.zero_le _) (Nat.zero_le _)) rfl (Nat.le_of_ble_eq_true rfl) d_X1_passUntil_43 (fun _ M4 => ?_)
  refine jo_aload 0 d_X1_passUntil_46 rfl rfl ?_
  refine jo_aload 1 d_X1_passUntil_47 rfl rfl ?_
  refine jo_callV (st := []) (m_X1_feast hs n th p1 hth hp1 M4) ok_X1_feast (And.intro (Nat.le_of_ble_eq_true rfl) (Nat.le_of_ble_eq_true rfl)) lm_X1_92 in_X1_feast se_X1_feast rfl hth rfl rfl (And.intro (Nat.zero_le _) (Nat.zero_le _)) rfl (Nat.le_of_ble_eq_true rfl) d_X1_passUntil_48 (fun _ M6 => ?_)
  exact jO.sub (t_X1_passUntil_L51 hs n th p1 hth hp1 r15 hr15 v2 v3 v4 v5 M6) (And.intro rfl (And.intro rfl (And.intro rfl (And.intro rfl (And.intro rfl (And.intro rfl True.intro))))))
def f_X1_passUntil_L65 (n : Nat) (th : Nat) (p1 : Nat) (v3 : Int) (M : JMem) : Option (Int × JMem) := some ((jand (M th 3) (jxor v3 (-1))), M)
set_option maxRecDepth 4000 in
theorem t_X1_passUntil_L65 {g : JG} {ad : Nat → Nat} (hs : jStr g ad) (n : Nat) (th : Nat) (p1 : Nat) (hth : jK jNN (0, 1) th) (hp1 : jK jNN (0, 4) p1) (v3 : Int) (M : JMem) : jB g D_X1_passUntil ad 65 [some (.ref th), none, none, some (ji v3), none, none] [] M (f_X1_passUntil_L65 n th p1 v3 M) := by
  unfold f_X1_passUntil_L65
  refine jo_aload 0 d_X1_passUntil_65 rfl rfl ?_
  refine jo_getI (k := 3) cl_1 (Nat.le_of_ble_eq_true rfl) lk_X1_21 (Or.inl rfl) hth d_X1_passUntil_66 ?_
  refine jo_iload 3 d_X1_passUntil_69 rfl rfl ?_
  refine jo_iconst (-1) d_X1_passUntil_70 ?_
  refine jo_ixor d_X1_passUntil_71 ?_
  refine jo_iand d_X1_passUntil_72 ?_
  exact jo_iret rfl d_X1_passUntil_73
def f_X1_passUntil_L15 (n : Nat) (th : Nat) (p1 : Nat) : Nat → Int → Int → Int → Int → JMem → Option (Int × JMem)
  | 0, _, _, _, _, _ => none
  | k + 1, v2, v3, v4, v5, M => if jw v2 ≤ jw v5 then (f_X1_passUntil_L65 n th p1 v3 M) else (if jw v5 = jw v4 then (f_X1_passUntil_L36 n th p1 (f_X1_passUntil_L15 n th p1 k) v2 v3 v4 v5 M) else (bnd (f_X1_isBusy n th p1 M) fun r1 M2 => if jw r1 = 0 then (f_X1_passUntil_L51 n th p1 (f_X1_passUntil_L15 n th p1 k) v2 v3 v4 v5 M2) else (f_X1_passUntil_L36 n th p1 (f_X1_passUntil_L15 n th p1 k) v2 v3 v4 v5 M2)))
set_option maxRecDepth 4000 in
theorem t_X1_passUntil_L15 {g : JG} {ad : Nat → Nat} (hs : jStr g ad) (n : Nat) (th : Nat) (p1 : Nat) (hth : jK jNN (0, 1) th) (hp1 : jK jNN (0, 4) p1) : ∀ (k : Nat) (v2 v3 v4 v5 : Int) (M : JMem), jB g D_X1_passUntil ad 15 [some (.ref th), some (.ref p1), some (ji v2), some (ji v3), some (ji v4), some (ji v5)] [] M (f_X1_passUntil_L15 n th p1 k v2 v3 v4 v5 M) := by
  intro k
  induction k with
  | zero => intro v2 v3 v4 v5 M; exact jO.none
  | succ k ih =>
    intro v2 v3 v4 v5 M
    rw [f_X1_passUntil_L15]
    refine jo_iloadW 5 d_X1_passUntil_15 rfl ?_
    refine jo_iload 2 d_X1_passUntil_17 rfl rfl ?_
    refine jo_icmp_ge 65 d_X1_passUntil_18 (by decide) ?_ ?_
    · skip
      exact jO.sub (t_X1_passUntil_L65 hs n th p1 hth hp1 v3 M) (And.intro rfl (And.intro rfl True.intro))
    · skip
      refine jo_iloadW 5 d_X1_passUntil_21 rfl ?_
      refine jo_iloadW 4 d_X1_passUntil_23 rfl ?_
      refine jo_icmp_eq 36 d_X1_passUntil_25 (by decide) ?_ ?_
      · skip
        exact jO.sub (t_X1_passUntil_L36 hs n th p1 hth hp1 (f_X1_passUntil_L15 n th p1 k) ih v2 v3 v4 v5 M) (And.intro rfl (And.intro rfl (And.intro rfl (And.intro rfl (And.intro rfl (And.intro rfl True.intro))))))
      · skip
        refine jo_aload 0 d_X1_passUntil_28 rfl rfl ?_
        refine jo_aload 1 d_X1_passUntil_29 rfl rfl ?_
        refine jo_callV (st := []) (m_X1_isBusy hs n th p1 hth hp1 M) ok_X1_isBusy (And.intro (Nat.le_of_ble_eq_true rfl) (Nat.le_of_ble_eq_true rfl)) lm_X1_82 in_X1_isBusy se_X1_isBusy rfl hth rfl rfl (And.intro (Nat.zero_le _) (Nat.zero_le _)) rfl (Nat.le_of_ble_eq_true rfl) d_X1_passUntil_30 (fun r1 M2 => ?_)
        refine jo_if_eq 51 d_X1_passUntil_33 (by decide) ?_ ?_
        · skip
          exact jO.sub (t_X1_passUntil_L51 hs n th p1 hth hp1 (f_X1_passUntil_L15 n th p1 k) ih v2 v3 v4 v5 M2) (And.intro rfl (And.intro rfl (And.intro rfl (And.intro rfl (And.intro rfl (And.intro rfl True.intro))))))
        · skip
          exact jO.sub (t_X1_passUntil_L36 hs n th p1 hth hp1 (f_X1_passUntil_L15 n th p1 k) ih v2 v3 v4 v5 M2) (And.intro rfl (And.intro rfl (And.intro rfl (And.intro rfl (And.intro rfl (And.intro rfl True.intro))))))
def f_X1_passUntil (n : Nat) (th : Nat) (p1 : Nat) (x2 : Int) (M : JMem) : Option (Int × JMem) := letv (M th 3) fun y1 => letv (M th 1) fun y2 => letv y2 fun y3 => f_X1_passUntil_L15 n th p1 n x2 y1 y2 y3 M
set_option maxRecDepth 4000 in
theorem t_X1_passUntil {g : JG} {ad : Nat → Nat} (hs : jStr g ad) (n : Nat) (th : Nat) (p1 : Nat) (x2 : Int) (hth : jK jNN (0, 1) th) (hp1 : jK jNN (0, 4) p1) (M : JMem) : jB g D_X1_passUntil ad 0 [some (.ref th), some (.ref p1), some (ji x2), none, none, none] [] M (f_X1_passUntil n th p1 x2 M) := by
  unfold f_X1_passUntil
  refine jo_aload 0 d_X1_passUntil_0 rfl rfl ?_
  refine jo_getI (k := 3) cl_1 (Nat.le_of_ble_eq_true rfl) lk_X1_21 (Or.inl rfl) hth d_X1_passUntil_1 ?_
  refine jo_istore 3 d_X1_passUntil_4 rfl (Nat.le_of_ble_eq_true rfl) (fun y1 => ?_)
  refine jo_aload 0 d_X1_passUntil_5 rfl rfl ?_
  refine jo_getI (k := 1) cl_1 (Nat.le_of_ble_eq_true rfl) lk_X1_15 (Or.inl rfl) hth d_X1_passUntil_6 ?_
  refine jo_istoreW 4 d_X1_passUntil_9 (Nat.le_of_ble_eq_true rfl) (fun y2 => ?_)
  refine jo_iloadW 4 d_X1_passUntil_11 rfl ?_
  refine jo_istoreW 5 d_X1_passUntil_13 (Nat.le_of_ble_eq_true rfl) (fun y3 => ?_)
  exact jO.sub (t_X1_passUntil_L15 hs n th p1 hth hp1 n x2 y1 y2 y3 M) (And.intro rfl (And.intro rfl (And.intro rfl (And.intro rfl (And.intro rfl (And.intro rfl True.intro))))))
theorem m_X1_passUntil {g : JG} {ad : Nat → Nat} (hs : jStr g ad) (n : Nat) (th : Nat) (p1 : Nat) (x2 : Int) (hth : jK jNN (0, 1) th) (hp1 : jK jNN (0, 4) p1) (M : JMem) : jMet g jNN ad jR D_X1_passUntil yX1_passUntil [.ref th, .ref p1, ji x2] M (f_X1_passUntil n th p1 x2 M) :=
  jMet.of (lo0 := [some (.ref th), some (.ref p1), some (ji x2), none, none, none]) (by decide) rfl rfl (Nat.le_of_ble_eq_true rfl) (And.intro rfl (And.intro rfl (And.intro rfl True.intro))) (t_X1_passUntil hs n th p1 x2 hth hp1 M)
/-! java/lang/Integer.bitCount(I)I -/
def D_J6_bitCount_0f7a4 : JD := (RJ6, cJ6_bitCount_0f7a4, 1, some .int, "bitCount", { frames := 0, cells := 0, slots := 0, locals := 0 })
theorem ok_J6_bitCount_0f7a4 : jOk D_J6_bitCount_0f7a4 yJ6_bitCount_0f7a4 1 := ⟨jTW_mem (k := 1152) (by decide +kernel) rfl, jTW_mem (k := 154) (by decide +kernel) rfl, ⟨by decide +kernel, by decide +kernel⟩, by decide +kernel, rfl, rfl⟩
theorem st_J6_bitCount_0f7a4 : Cond.static yJ6_bitCount_0f7a4 ∈ jTW := jTW_mem (k := 1151) (by decide +kernel) rfl
theorem lc_J6_265 : Cond.constant RJ6 265 (Int32.ofInt 1431655765) ∈ jTW := jTW_mem (k := 1153) (by decide +kernel) rfl
theorem lc_J6_266 : Cond.constant RJ6 266 (Int32.ofInt 858993459) ∈ jTW := jTW_mem (k := 1154) (by decide +kernel) rfl
theorem lc_J6_267 : Cond.constant RJ6 267 (Int32.ofInt 252645135) ∈ jTW := jTW_mem (k := 1155) (by decide +kernel) rfl
theorem d_J6_bitCount_0f7a4_0 : decode (D_J6_bitCount_0f7a4).2.1 0 = .ok (.iload_n 0, 1) := by decide +kernel
theorem d_J6_bitCount_0f7a4_1 : decode (D_J6_bitCount_0f7a4).2.1 1 = .ok (.iload_n 0, 1) := by decide +kernel
theorem d_J6_bitCount_0f7a4_2 : decode (D_J6_bitCount_0f7a4).2.1 2 = .ok (.iconst 1, 1) := by decide +kernel
theorem d_J6_bitCount_0f7a4_3 : decode (D_J6_bitCount_0f7a4).2.1 3 = .ok (.iushr, 1) := by decide +kernel
theorem d_J6_bitCount_0f7a4_4 : decode (D_J6_bitCount_0f7a4).2.1 4 = .ok (.ldc_w 265, 3) := by decide +kernel
theorem d_J6_bitCount_0f7a4_7 : decode (D_J6_bitCount_0f7a4).2.1 7 = .ok (.iand, 1) := by decide +kernel
theorem d_J6_bitCount_0f7a4_8 : decode (D_J6_bitCount_0f7a4).2.1 8 = .ok (.isub, 1) := by decide +kernel
theorem d_J6_bitCount_0f7a4_9 : decode (D_J6_bitCount_0f7a4).2.1 9 = .ok (.istore_n 0, 1) := by decide +kernel
theorem d_J6_bitCount_0f7a4_10 : decode (D_J6_bitCount_0f7a4).2.1 10 = .ok (.iload_n 0, 1) := by decide +kernel
theorem d_J6_bitCount_0f7a4_11 : decode (D_J6_bitCount_0f7a4).2.1 11 = .ok (.ldc_w 266, 3) := by decide +kernel
theorem d_J6_bitCount_0f7a4_14 : decode (D_J6_bitCount_0f7a4).2.1 14 = .ok (.iand, 1) := by decide +kernel
theorem d_J6_bitCount_0f7a4_15 : decode (D_J6_bitCount_0f7a4).2.1 15 = .ok (.iload_n 0, 1) := by decide +kernel
theorem d_J6_bitCount_0f7a4_16 : decode (D_J6_bitCount_0f7a4).2.1 16 = .ok (.iconst 2, 1) := by decide +kernel
theorem d_J6_bitCount_0f7a4_17 : decode (D_J6_bitCount_0f7a4).2.1 17 = .ok (.iushr, 1) := by decide +kernel
theorem d_J6_bitCount_0f7a4_18 : decode (D_J6_bitCount_0f7a4).2.1 18 = .ok (.ldc_w 266, 3) := by decide +kernel
theorem d_J6_bitCount_0f7a4_21 : decode (D_J6_bitCount_0f7a4).2.1 21 = .ok (.iand, 1) := by decide +kernel
theorem d_J6_bitCount_0f7a4_22 : decode (D_J6_bitCount_0f7a4).2.1 22 = .ok (.iadd, 1) := by decide +kernel
theorem d_J6_bitCount_0f7a4_23 : decode (D_J6_bitCount_0f7a4).2.1 23 = .ok (.istore_n 0, 1) := by decide +kernel
theorem d_J6_bitCount_0f7a4_24 : decode (D_J6_bitCount_0f7a4).2.1 24 = .ok (.iload_n 0, 1) := by decide +kernel
theorem d_J6_bitCount_0f7a4_25 : decode (D_J6_bitCount_0f7a4).2.1 25 = .ok (.iload_n 0, 1) := by decide +kernel
theorem d_J6_bitCount_0f7a4_26 : decode (D_J6_bitCount_0f7a4).2.1 26 = .ok (.iconst 4, 1) := by decide +kernel
theorem d_J6_bitCount_0f7a4_27 : decode (D_J6_bitCount_0f7a4).2.1 27 = .ok (.iushr, 1) := by decide +kernel
theorem d_J6_bitCount_0f7a4_28 : decode (D_J6_bitCount_0f7a4).2.1 28 = .ok (.iadd, 1) := by decide +kernel
theorem d_J6_bitCount_0f7a4_29 : decode (D_J6_bitCount_0f7a4).2.1 29 = .ok (.ldc_w 267, 3) := by decide +kernel
theorem d_J6_bitCount_0f7a4_32 : decode (D_J6_bitCount_0f7a4).2.1 32 = .ok (.iand, 1) := by decide +kernel
theorem d_J6_bitCount_0f7a4_33 : decode (D_J6_bitCount_0f7a4).2.1 33 = .ok (.istore_n 0, 1) := by decide +kernel
theorem d_J6_bitCount_0f7a4_34 : decode (D_J6_bitCount_0f7a4).2.1 34 = .ok (.iload_n 0, 1) := by decide +kernel
theorem d_J6_bitCount_0f7a4_35 : decode (D_J6_bitCount_0f7a4).2.1 35 = .ok (.iload_n 0, 1) := by decide +kernel
theorem d_J6_bitCount_0f7a4_36 : decode (D_J6_bitCount_0f7a4).2.1 36 = .ok (.bipush 8, 2) := by decide +kernel
theorem d_J6_bitCount_0f7a4_38 : decode (D_J6_bitCount_0f7a4).2.1 38 = .ok (.iushr, 1) := by decide +kernel
theorem d_J6_bitCount_0f7a4_39 : decode (D_J6_bitCount_0f7a4).2.1 39 = .ok (.iadd, 1) := by decide +kernel
theorem d_J6_bitCount_0f7a4_40 : decode (D_J6_bitCount_0f7a4).2.1 40 = .ok (.istore_n 0, 1) := by decide +kernel
theorem d_J6_bitCount_0f7a4_41 : decode (D_J6_bitCount_0f7a4).2.1 41 = .ok (.iload_n 0, 1) := by decide +kernel
theorem d_J6_bitCount_0f7a4_42 : decode (D_J6_bitCount_0f7a4).2.1 42 = .ok (.iload_n 0, 1) := by decide +kernel
theorem d_J6_bitCount_0f7a4_43 : decode (D_J6_bitCount_0f7a4).2.1 43 = .ok (.bipush 16, 2) := by decide +kernel
theorem d_J6_bitCount_0f7a4_45 : decode (D_J6_bitCount_0f7a4).2.1 45 = .ok (.iushr, 1) := by decide +kernel
theorem d_J6_bitCount_0f7a4_46 : decode (D_J6_bitCount_0f7a4).2.1 46 = .ok (.iadd, 1) := by decide +kernel
theorem d_J6_bitCount_0f7a4_47 : decode (D_J6_bitCount_0f7a4).2.1 47 = .ok (.istore_n 0, 1) := by decide +kernel
theorem d_J6_bitCount_0f7a4_48 : decode (D_J6_bitCount_0f7a4).2.1 48 = .ok (.iload_n 0, 1) := by decide +kernel
theorem d_J6_bitCount_0f7a4_49 : decode (D_J6_bitCount_0f7a4).2.1 49 = .ok (.bipush 63, 2) := by decide +kernel
theorem d_J6_bitCount_0f7a4_51 : decode (D_J6_bitCount_0f7a4).2.1 51 = .ok (.iand, 1) := by decide +kernel
theorem d_J6_bitCount_0f7a4_52 : decode (D_J6_bitCount_0f7a4).2.1 52 = .ok (.ireturn, 1) := by decide +kernel
def f_J6_bitCount_0f7a4 (n : Nat) (x0 : Int) (M : JMem) : Option (Int × JMem) := letv (x0 - (jand (jushr x0 1) 1431655765)) fun y1 => letv ((jand y1 858993459) + (jand (jushr y1 2) 858993459)) fun y2 => letv (jand (y2 + (jushr y2 4)) 252645135) fun y3 => letv (y3 + (jushr y3 8)) fun y4 => letv (y4 + (jushr y4 16)) fun y5 => some ((jand y5 63), M)
set_option maxRecDepth 4000 in
theorem t_J6_bitCount_0f7a4 {g : JG} {ad : Nat → Nat} (hs : jStr g ad) (n : Nat) (x0 : Int) (M : JMem) : jB g D_J6_bitCount_0f7a4 ad 0 [some (ji x0)] [] M (f_J6_bitCount_0f7a4 n x0 M) := by
  unfold f_J6_bitCount_0f7a4
  refine jo_iload 0 d_J6_bitCount_0f7a4_0 rfl rfl ?_
  refine jo_iload 0 d_J6_bitCount_0f7a4_1 rfl rfl ?_
  refine jo_iconst 1 d_J6_bitCount_0f7a4_2 ?_
  refine jo_iushr d_J6_bitCount_0f7a4_3 ?_
  refine jo_ldcw 1431655765 lc_J6_265 d_J6_bitCount_0f7a4_4 ?_
  refine jo_iand d_J6_bitCount_0f7a4_7 ?_
  refine jo_isub d_J6_bitCount_0f7a4_8 ?_
  refine jo_istore 0 d_J6_bitCount_0f7a4_9 rfl (Nat.le_of_ble_eq_true rfl) (fun y1 => ?_)
  refine jo_iload 0 d_J6_bitCount_0f7a4_10 rfl rfl ?_
  refine jo_ldcw 858993459 lc_J6_266 d_J6_bitCount_0f7a4_11 ?_
  refine jo_iand d_J6_bitCount_0f7a4_14 ?_
  refine jo_iload 0 d_J6_bitCount_0f7a4_15 rfl rfl ?_
  refine jo_iconst 2 d_J6_bitCount_0f7a4_16 ?_
  refine jo_iushr d_J6_bitCount_0f7a4_17 ?_
  refine jo_ldcw 858993459 lc_J6_266 d_J6_bitCount_0f7a4_18 ?_
  refine jo_iand d_J6_bitCount_0f7a4_21 ?_
  refine jo_iadd d_J6_bitCount_0f7a4_22 ?_
  refine jo_istore 0 d_J6_bitCount_0f7a4_23 rfl (Nat.le_of_ble_eq_true rfl) (fun y2 => ?_)
  refine jo_iload 0 d_J6_bitCount_0f7a4_24 rfl rfl ?_
  refine jo_iload 0 d_J6_bitCount_0f7a4_25 rfl rfl ?_
  refine jo_iconst 4 d_J6_bitCount_0f7a4_26 ?_
  refine jo_iushr d_J6_bitCount_0f7a4_27 ?_
  refine jo_iadd d_J6_bitCount_0f7a4_28 ?_
  refine jo_ldcw 252645135 lc_J6_267 d_J6_bitCount_0f7a4_29 ?_
  refine jo_iand d_J6_bitCount_0f7a4_32 ?_
  refine jo_istore 0 d_J6_bitCount_0f7a4_33 rfl (Nat.le_of_ble_eq_true rfl) (fun y3 => ?_)
  refine jo_iload 0 d_J6_bitCount_0f7a4_34 rfl rfl ?_
  refine jo_iload 0 d_J6_bitCount_0f7a4_35 rfl rfl ?_
  refine jo_bipush 8 d_J6_bitCount_0f7a4_36 (by decide) ?_
  refine jo_iushr d_J6_bitCount_0f7a4_38 ?_
  refine jo_iadd d_J6_bitCount_0f7a4_39 ?_
  refine jo_istore 0 d_J6_bitCount_0f7a4_40 rfl (Nat.le_of_ble_eq_true rfl) (fun y4 => ?_)
  refine jo_iload 0 d_J6_bitCount_0f7a4_41 rfl rfl ?_
  refine jo_iload 0 d_J6_bitCount_0f7a4_42 rfl rfl ?_
  refine jo_bipush 16 d_J6_bitCount_0f7a4_43 (by decide) ?_
  refine jo_iushr d_J6_bitCount_0f7a4_45 ?_
  refine jo_iadd d_J6_bitCount_0f7a4_46 ?_
  refine jo_istore 0 d_J6_bitCount_0f7a4_47 rfl (Nat.le_of_ble_eq_true rfl) (fun y5 => ?_)
  refine jo_iload 0 d_J6_bitCount_0f7a4_48 rfl rfl ?_
  refine jo_bipush 63 d_J6_bitCount_0f7a4_49 (by decide) ?_
  refine jo_iand d_J6_bitCount_0f7a4_51 ?_
  exact jo_iret rfl d_J6_bitCount_0f7a4_52
theorem m_J6_bitCount_0f7a4 {g : JG} {ad : Nat → Nat} (hs : jStr g ad) (n : Nat) (x0 : Int) (M : JMem) : jMet g jNN ad jR D_J6_bitCount_0f7a4 yJ6_bitCount_0f7a4 [ji x0] M (f_J6_bitCount_0f7a4 n x0 M) :=
  jMet.of (lo0 := [some (ji x0)]) (by decide) rfl rfl (Nat.le_of_ble_eq_true rfl) (And.intro rfl True.intro) (t_J6_bitCount_0f7a4 hs n x0 M)
/-! CageLeave$Life.areHoursDone(LCageLeave$Plan;LCageLeave$Now;I)Z -/
def D_X0_areHoursDone : JD := (RX0, cX0_areHoursDone, 4, some .boolean, "areHoursDone", { frames := 4, cells := 0, slots := 0, locals := 95 })
theorem ok_X0_areHoursDone : jOk D_X0_areHoursDone yX0_areHoursDone 3 := ⟨jTW_mem (k := 1328) (by decide +kernel) rfl, jTW_mem (k := 150) (by decide +kernel) rfl, ⟨by decide +kernel, by decide +kernel⟩, by decide +kernel, rfl, rfl⟩
theorem in_X0_areHoursDone : Cond.instanceMethod yX0_areHoursDone ∈ jTW := jTW_mem (k := 1327) (by decide +kernel) rfl
theorem se_X0_areHoursDone : Cond.selects yX0_areHoursDone.cls yX0_areHoursDone yX0_areHoursDone ∈ jTW := jTW_mem (k := 44) (by decide +kernel) rfl
theorem lk_X0_88 : Cond.fieldLink RX0 88 (TX1 1).1 (TX1 1).2.1 (TX1 1).2.2.1 ∈ jTW := jTW_mem (k := 404) (by decide +kernel) rfl
theorem lm_X0_91 : Cond.methodLink RX0 91 yX1_passUntil ∈ jTW := jTW_mem (k := 1329) (by decide +kernel) rfl
theorem lm_X0_95 : Cond.methodLink RX0 95 yJ6_bitCount_0f7a4 ∈ jTW := jTW_mem (k := 1330) (by decide +kernel) rfl
theorem d_X0_areHoursDone_0 : decode (D_X0_areHoursDone).2.1 0 = .ok (.aload_n 2, 1) := by decide +kernel
theorem d_X0_areHoursDone_1 : decode (D_X0_areHoursDone).2.1 1 = .ok (.getfield 88, 3) := by decide +kernel
theorem d_X0_areHoursDone_4 : decode (D_X0_areHoursDone).2.1 4 = .ok (.iload_n 3, 1) := by decide +kernel
theorem d_X0_areHoursDone_5 : decode (D_X0_areHoursDone).2.1 5 = .ok (.iadd, 1) := by decide +kernel
theorem d_X0_areHoursDone_6 : decode (D_X0_areHoursDone).2.1 6 = .ok (.bipush 64, 2) := by decide +kernel
theorem d_X0_areHoursDone_8 : decode (D_X0_areHoursDone).2.1 8 = .ok (.if_icmp .le 5, 3) := by decide +kernel
theorem d_X0_areHoursDone_11 : decode (D_X0_areHoursDone).2.1 11 = .ok (.iconst 0, 1) := by decide +kernel
theorem d_X0_areHoursDone_12 : decode (D_X0_areHoursDone).2.1 12 = .ok (.ireturn, 1) := by decide +kernel
theorem d_X0_areHoursDone_13 : decode (D_X0_areHoursDone).2.1 13 = .ok (.aload_n 0, 1) := by decide +kernel
theorem d_X0_areHoursDone_14 : decode (D_X0_areHoursDone).2.1 14 = .ok (.getfield 15, 3) := by decide +kernel
theorem d_X0_areHoursDone_17 : decode (D_X0_areHoursDone).2.1 17 = .ok (.iconst 1, 1) := by decide +kernel
theorem d_X0_areHoursDone_18 : decode (D_X0_areHoursDone).2.1 18 = .ok (.dup2, 1) := by decide +kernel
theorem d_X0_areHoursDone_19 : decode (D_X0_areHoursDone).2.1 19 = .ok (.iaload, 1) := by decide +kernel
theorem d_X0_areHoursDone_20 : decode (D_X0_areHoursDone).2.1 20 = .ok (.iload_n 3, 1) := by decide +kernel
theorem d_X0_areHoursDone_21 : decode (D_X0_areHoursDone).2.1 21 = .ok (.iadd, 1) := by decide +kernel
theorem d_X0_areHoursDone_22 : decode (D_X0_areHoursDone).2.1 22 = .ok (.iastore, 1) := by decide +kernel
theorem d_X0_areHoursDone_23 : decode (D_X0_areHoursDone).2.1 23 = .ok (.aload_n 0, 1) := by decide +kernel
theorem d_X0_areHoursDone_24 : decode (D_X0_areHoursDone).2.1 24 = .ok (.getfield 15, 3) := by decide +kernel
theorem d_X0_areHoursDone_27 : decode (D_X0_areHoursDone).2.1 27 = .ok (.iconst 2, 1) := by decide +kernel
theorem d_X0_areHoursDone_28 : decode (D_X0_areHoursDone).2.1 28 = .ok (.dup2, 1) := by decide +kernel
theorem d_X0_areHoursDone_29 : decode (D_X0_areHoursDone).2.1 29 = .ok (.iaload, 1) := by decide +kernel
theorem d_X0_areHoursDone_30 : decode (D_X0_areHoursDone).2.1 30 = .ok (.aload_n 2, 1) := by decide +kernel
theorem d_X0_areHoursDone_31 : decode (D_X0_areHoursDone).2.1 31 = .ok (.aload_n 1, 1) := by decide +kernel
theorem d_X0_areHoursDone_32 : decode (D_X0_areHoursDone).2.1 32 = .ok (.aload_n 2, 1) := by decide +kernel
theorem d_X0_areHoursDone_33 : decode (D_X0_areHoursDone).2.1 33 = .ok (.getfield 88, 3) := by decide +kernel
theorem d_X0_areHoursDone_36 : decode (D_X0_areHoursDone).2.1 36 = .ok (.iload_n 3, 1) := by decide +kernel
theorem d_X0_areHoursDone_37 : decode (D_X0_areHoursDone).2.1 37 = .ok (.iadd, 1) := by decide +kernel
theorem d_X0_areHoursDone_38 : decode (D_X0_areHoursDone).2.1 38 = .ok (.invokevirtual 91, 3) := by decide +kernel
theorem d_X0_areHoursDone_41 : decode (D_X0_areHoursDone).2.1 41 = .ok (.invokestatic 95, 3) := by decide +kernel
theorem d_X0_areHoursDone_44 : decode (D_X0_areHoursDone).2.1 44 = .ok (.iadd, 1) := by decide +kernel
theorem d_X0_areHoursDone_45 : decode (D_X0_areHoursDone).2.1 45 = .ok (.iastore, 1) := by decide +kernel
theorem d_X0_areHoursDone_46 : decode (D_X0_areHoursDone).2.1 46 = .ok (.iconst 1, 1) := by decide +kernel
theorem d_X0_areHoursDone_47 : decode (D_X0_areHoursDone).2.1 47 = .ok (.ireturn, 1) := by decide +kernel
def f_X0_areHoursDone (n : Nat) (th : Nat) (p1 : Nat) (p2 : Nat) (x3 : Int) (M : JMem) : Option (Int × JMem) := if jw ((M p2 1) + x3) ≤ jw 64 then (chk (jin 1 5) <| chk (jin 1 5) <| letm (jup M (th + 1) (jw 1).toNat ((M (th + 1) (jw 1).toNat) + x3)) fun M1 => chk (jin 2 5) <| bnd (f_X1_passUntil n p2 p1 ((M1 p2 1) + x3) M1) fun r2 M3 => bnd (f_J6_bitCount_0f7a4 n r2 M3) fun r4 M5 => chk (jin 2 5) <| letm (jup M5 (th + 1) (jw 2).toNat ((M1 (th + 1) (jw 2).toNat) + r4)) fun M6 => some (1, M6)) else (some (0, M))
set_option maxRecDepth 4000 in
theorem t_X0_areHoursDone {g : JG} {ad : Nat → Nat} (hs : jStr g ad) (n : Nat) (th : Nat) (p1 : Nat) (p2 : Nat) (x3 : Int) (hth : jK jNN (0, 0) th) (hp1 : jK jNN (0, 4) p1) (hp2 : jK jNN (0, 1) p2) (M : JMem) : jB g D_X0_areHoursDone ad 0 [some (.ref th), some (.ref p1), some (.ref p2), some (ji x3)] [] M (f_X0_areHoursDone n th p1 p2 x3 M) := by
  unfold f_X0_areHoursDone
  refine jo_aload 2 d_X0_areHoursDone_0 rfl rfl ?_
  refine jo_getI (k := 1) cl_1 (Nat.le_of_ble_eq_true rfl) lk_X0_88 (Or.inl rfl) hp2 d_X0_areHoursDone_1 ?_
  refine jo_iload 3 d_X0_areHoursDone_4 rfl rfl ?_
  refine jo_iadd d_X0_areHoursDone_5 ?_
  refine jo_bipush 64 d_X0_areHoursDone_6 (by decide) ?_
  refine jo_icmp_le 13 d_X0_areHoursDone_8 (by decide) ?_ ?_
  · skip
    refine jo_aload 0 d_X0_areHoursDone_13 rfl rfl ?_
    refine jo_getR (k := 1) cl_0 (Nat.le_of_ble_eq_true rfl) lk_X0_15 rfl hth (kr_Life_1 hth) d_X0_areHoursDone_14 ?_
    refine jo_iconst 1 d_X0_areHoursDone_17 ?_
    refine jo_dup2 d_X0_areHoursDone_18 rfl rfl ?_
    refine jo_iald (N := 5) (ka_Life_1 hth) d_X0_areHoursDone_19 ?_
    refine jo_iload 3 d_X0_areHoursDone_20 rfl rfl ?_
    refine jo_iadd d_X0_areHoursDone_21 ?_
    refine jo_iast (N := 5) (ka_Life_1 hth) d_X0_areHoursDone_22 (fun M1 => ?_)
    refine jo_aload 0 d_X0_areHoursDone_23 rfl rfl ?_
    refine jo_getR (k := 1) cl_0 (Nat.le_of_ble_eq_true rfl) lk_X0_15 rfl hth (kr_Life_1 hth) d_X0_areHoursDone_24 ?_
    refine jo_iconst 2 d_X0_areHoursDone_27 ?_
    refine jo_dup2 d_X0_areHoursDone_28 rfl rfl ?_
    refine jo_iald (N := 5) (ka_Life_1 hth) d_X0_areHoursDone_29 ?_
    refine jo_aload 2 d_X0_areHoursDone_30 rfl rfl ?_
    refine jo_aload 1 d_X0_areHoursDone_31 rfl rfl ?_
    refine jo_aload 2 d_X0_areHoursDone_32 rfl rfl ?_
    refine jo_getI (k := 1) cl_1 (Nat.le_of_ble_eq_true rfl) lk_X0_88 (Or.inl rfl) hp2 d_X0_areHoursDone_33 ?_
    refine jo_iload 3 d_X0_areHoursDone_36 rfl rfl ?_
    refine jo_iadd d_X0_areHoursDone_37 ?_
    refine jo_callV (st := [ji (M1 (th + 1) (jw 2).toNat), ji 2, .ref (th + 1)]) (m_X1_passUntil hs n p2 p1 ((M1 p2 1) + x3) hp2 hp1 M1) ok_X1_passUntil (And.intro (Nat.le_of_ble_eq_true rfl) (Nat.le_of_ble_eq_true rfl)) lm_X0_91 in_X1_passUntil se_X1_passUntil rfl hp2 rfl rfl (And.intro (Nat.zero_le _) (Nat.zero_le _)) rfl (Nat.le_of_ble_eq_true rfl) d_X0_areHoursDone_38 (fun r2 M3 => ?_)
    refine jo_callS (st := [ji (M1 (th + 1) (jw 2).toNat), ji 2, .ref (th + 1)]) (m_J6_bitCount_0f7a4 hs n r2 M3) ok_J6_bitCount_0f7a4 (And.intro (Nat.le_of_ble_eq_true rfl) (Nat.le_of_ble_eq_true rfl)) lm_X0_95 st_J6_bitCount_0f7a4 rfl (And.intro (Nat.zero_le _) (Nat.zero_le _)) rfl (Nat.le_of_ble_eq_true rfl) d_X0_areHoursDone_41 (fun r4 M5 => ?_)
    refine jo_iadd d_X0_areHoursDone_44 ?_
    refine jo_iast (N := 5) (ka_Life_1 hth) d_X0_areHoursDone_45 (fun M6 => ?_)
    refine jo_iconst 1 d_X0_areHoursDone_46 ?_
    exact jo_zret rfl (by decide) d_X0_areHoursDone_47
  · skip
    refine jo_iconst 0 d_X0_areHoursDone_11 ?_
    exact jo_zret rfl (by decide) d_X0_areHoursDone_12
theorem m_X0_areHoursDone {g : JG} {ad : Nat → Nat} (hs : jStr g ad) (n : Nat) (th : Nat) (p1 : Nat) (p2 : Nat) (x3 : Int) (hth : jK jNN (0, 0) th) (hp1 : jK jNN (0, 4) p1) (hp2 : jK jNN (0, 1) p2) (M : JMem) : jMet g jNN ad jR D_X0_areHoursDone yX0_areHoursDone [.ref th, .ref p1, .ref p2, ji x3] M (f_X0_areHoursDone n th p1 p2 x3 M) :=
  jMet.of (lo0 := [some (.ref th), some (.ref p1), some (.ref p2), some (ji x3)]) (by decide) rfl rfl (Nat.le_of_ble_eq_true rfl) (And.intro rfl (And.intro rfl (And.intro rfl (And.intro rfl True.intro)))) (t_X0_areHoursDone hs n th p1 p2 x3 hth hp1 hp2 M)
/-! CageLeave$Life.endRound(LCageLeave$Weeks;I)V -/
def D_X0_endRound : JD := (RX0, cX0_endRound, 4, none, "endRound", { frames := 0, cells := 0, slots := 0, locals := 0 })
theorem ok_X0_endRound : jOk D_X0_endRound yX0_endRound 2 := ⟨jTW_mem (k := 1320) (by decide +kernel) rfl, jTW_mem (k := 150) (by decide +kernel) rfl, ⟨by decide +kernel, by decide +kernel⟩, by decide +kernel, rfl, rfl⟩
theorem in_X0_endRound : Cond.instanceMethod yX0_endRound ∈ jTW := jTW_mem (k := 1319) (by decide +kernel) rfl
theorem se_X0_endRound : Cond.selects yX0_endRound.cls yX0_endRound yX0_endRound ∈ jTW := jTW_mem (k := 42) (by decide +kernel) rfl
theorem lk_X0_47 : Cond.fieldLink RX0 47 (TX9 6).1 (TX9 6).2.1 (TX9 6).2.2.1 ∈ jTW := jTW_mem (k := 497) (by decide +kernel) rfl
theorem lk_X0_34 : Cond.fieldLink RX0 34 (TX9 3).1 (TX9 3).2.1 (TX9 3).2.2.1 ∈ jTW := jTW_mem (k := 491) (by decide +kernel) rfl
theorem d_X0_endRound_0 : decode (D_X0_endRound).2.1 0 = .ok (.aload_n 1, 1) := by decide +kernel
theorem d_X0_endRound_1 : decode (D_X0_endRound).2.1 1 = .ok (.getfield 47, 3) := by decide +kernel
theorem d_X0_endRound_4 : decode (D_X0_endRound).2.1 4 = .ok (.iload_n 2, 1) := by decide +kernel
theorem d_X0_endRound_5 : decode (D_X0_endRound).2.1 5 = .ok (.iaload, 1) := by decide +kernel
theorem d_X0_endRound_6 : decode (D_X0_endRound).2.1 6 = .ok (.istore_n 3, 1) := by decide +kernel
theorem d_X0_endRound_7 : decode (D_X0_endRound).2.1 7 = .ok (.aload_n 1, 1) := by decide +kernel
theorem d_X0_endRound_8 : decode (D_X0_endRound).2.1 8 = .ok (.getfield 34, 3) := by decide +kernel
theorem d_X0_endRound_11 : decode (D_X0_endRound).2.1 11 = .ok (.iload_n 3, 1) := by decide +kernel
theorem d_X0_endRound_12 : decode (D_X0_endRound).2.1 12 = .ok (.iaload, 1) := by decide +kernel
theorem d_X0_endRound_13 : decode (D_X0_endRound).2.1 13 = .ok (.bipush 24, 2) := by decide +kernel
theorem d_X0_endRound_15 : decode (D_X0_endRound).2.1 15 = .ok (.if_icmp .ne 29, 3) := by decide +kernel
theorem d_X0_endRound_18 : decode (D_X0_endRound).2.1 18 = .ok (.aload_n 0, 1) := by decide +kernel
theorem d_X0_endRound_19 : decode (D_X0_endRound).2.1 19 = .ok (.getfield 27, 3) := by decide +kernel
theorem d_X0_endRound_22 : decode (D_X0_endRound).2.1 22 = .ok (.iload_n 3, 1) := by decide +kernel
theorem d_X0_endRound_23 : decode (D_X0_endRound).2.1 23 = .ok (.dup2, 1) := by decide +kernel
theorem d_X0_endRound_24 : decode (D_X0_endRound).2.1 24 = .ok (.iaload, 1) := by decide +kernel
theorem d_X0_endRound_25 : decode (D_X0_endRound).2.1 25 = .ok (.iconst 1, 1) := by decide +kernel
theorem d_X0_endRound_26 : decode (D_X0_endRound).2.1 26 = .ok (.isub, 1) := by decide +kernel
theorem d_X0_endRound_27 : decode (D_X0_endRound).2.1 27 = .ok (.iastore, 1) := by decide +kernel
theorem d_X0_endRound_28 : decode (D_X0_endRound).2.1 28 = .ok (.aload_n 0, 1) := by decide +kernel
theorem d_X0_endRound_29 : decode (D_X0_endRound).2.1 29 = .ok (.getfield 27, 3) := by decide +kernel
theorem d_X0_endRound_32 : decode (D_X0_endRound).2.1 32 = .ok (.iload_n 3, 1) := by decide +kernel
theorem d_X0_endRound_33 : decode (D_X0_endRound).2.1 33 = .ok (.iaload, 1) := by decide +kernel
theorem d_X0_endRound_34 : decode (D_X0_endRound).2.1 34 = .ok (.ifCond .le 10, 3) := by decide +kernel
theorem d_X0_endRound_37 : decode (D_X0_endRound).2.1 37 = .ok (.aload_n 0, 1) := by decide +kernel
theorem d_X0_endRound_38 : decode (D_X0_endRound).2.1 38 = .ok (.iload_n 3, 1) := by decide +kernel
theorem d_X0_endRound_39 : decode (D_X0_endRound).2.1 39 = .ok (.iconst 1, 1) := by decide +kernel
theorem d_X0_endRound_40 : decode (D_X0_endRound).2.1 40 = .ok (.iadd, 1) := by decide +kernel
theorem d_X0_endRound_41 : decode (D_X0_endRound).2.1 41 = .ok (.putfield 22, 3) := by decide +kernel
theorem d_X0_endRound_44 : decode (D_X0_endRound).2.1 44 = .ok (.return_, 1) := by decide +kernel
def f_X0_endRound (n : Nat) (th : Nat) (p1 : Nat) (x2 : Int) (M : JMem) : Option (Int × JMem) := chk (jin x2 60) <| letv (M (p1 + 4) (jw x2).toNat) fun y1 => chk (jin y1 60) <| if jw (M (p1 + 1) (jw y1).toNat) = jw 24 then (chk (jin y1 60) <| chk (jin y1 60) <| letm (jup M (th + 2) (jw y1).toNat ((M (th + 2) (jw y1).toNat) - 1)) fun M2 => chk (jin y1 60) <| if jw (M2 (th + 2) (jw y1).toNat) ≤ 0 then (some (0, M2)) else (letm (jup M2 th 3 (y1 + 1)) fun M3 => some (0, M3))) else (some (0, M))
set_option maxRecDepth 4000 in
theorem t_X0_endRound {g : JG} {ad : Nat → Nat} (hs : jStr g ad) (n : Nat) (th : Nat) (p1 : Nat) (x2 : Int) (hth : jK jNN (0, 0) th) (hp1 : jK jNN (0, 9) p1) (M : JMem) : jB g D_X0_endRound ad 0 [some (.ref th), some (.ref p1), some (ji x2), none] [] M (f_X0_endRound n th p1 x2 M) := by
  unfold f_X0_endRound
  refine jo_aload 1 d_X0_endRound_0 rfl rfl ?_
  refine jo_getR (k := 6) cl_9 (Nat.le_of_ble_eq_true rfl) lk_X0_47 rfl hp1 (kr_Weeks_6 hp1) d_X0_endRound_1 ?_
  refine jo_iload 2 d_X0_endRound_4 rfl rfl ?_
  refine jo_iald (N := 60) (ka_Weeks_6 hp1) d_X0_endRound_5 ?_
  refine jo_istore 3 d_X0_endRound_6 rfl (Nat.le_of_ble_eq_true rfl) (fun y1 => ?_)
  refine jo_aload 1 d_X0_endRound_7 rfl rfl ?_
  refine jo_getR (k := 3) cl_9 (Nat.le_of_ble_eq_true rfl) lk_X0_34 rfl hp1 (kr_Weeks_3 hp1) d_X0_endRound_8 ?_
  refine jo_iload 3 d_X0_endRound_11 rfl rfl ?_
  refine jo_iald (N := 60) (ka_Weeks_3 hp1) d_X0_endRound_12 ?_
  refine jo_bipush 24 d_X0_endRound_13 (by decide) ?_
  refine jo_icmp_ne 44 d_X0_endRound_15 (by decide) ?_ ?_
  · skip
    exact jo_vret rfl d_X0_endRound_44
  · skip
    refine jo_aload 0 d_X0_endRound_18 rfl rfl ?_
    refine jo_getR (k := 4) cl_0 (Nat.le_of_ble_eq_true rfl) lk_X0_27 rfl hth (kr_Life_4 hth) d_X0_endRound_19 ?_
    refine jo_iload 3 d_X0_endRound_22 rfl rfl ?_
    refine jo_dup2 d_X0_endRound_23 rfl rfl ?_
    refine jo_iald (N := 60) (ka_Life_4 hth) d_X0_endRound_24 ?_
    refine jo_iconst 1 d_X0_endRound_25 ?_
    refine jo_isub d_X0_endRound_26 ?_
    refine jo_iast (N := 60) (ka_Life_4 hth) d_X0_endRound_27 (fun M2 => ?_)
    refine jo_aload 0 d_X0_endRound_28 rfl rfl ?_
    refine jo_getR (k := 4) cl_0 (Nat.le_of_ble_eq_true rfl) lk_X0_27 rfl hth (kr_Life_4 hth) d_X0_endRound_29 ?_
    refine jo_iload 3 d_X0_endRound_32 rfl rfl ?_
    refine jo_iald (N := 60) (ka_Life_4 hth) d_X0_endRound_33 ?_
    refine jo_if_le 44 d_X0_endRound_34 (by decide) ?_ ?_
    · skip
      exact jo_vret rfl d_X0_endRound_44
    · skip
      refine jo_aload 0 d_X0_endRound_37 rfl rfl ?_
      refine jo_iload 3 d_X0_endRound_38 rfl rfl ?_
      refine jo_iconst 1 d_X0_endRound_39 ?_
      refine jo_iadd d_X0_endRound_40 ?_
      refine jo_putI (k := 3) cl_0 (Nat.le_of_ble_eq_true rfl) lk_X0_22 rfl rfl hth d_X0_endRound_41 (fun M3 => ?_)
      exact jo_vret rfl d_X0_endRound_44
theorem m_X0_endRound {g : JG} {ad : Nat → Nat} (hs : jStr g ad) (n : Nat) (th : Nat) (p1 : Nat) (x2 : Int) (hth : jK jNN (0, 0) th) (hp1 : jK jNN (0, 9) p1) (M : JMem) : jMet g jNN ad jR D_X0_endRound yX0_endRound [.ref th, .ref p1, ji x2] M (f_X0_endRound n th p1 x2 M) :=
  jMet.of (lo0 := [some (.ref th), some (.ref p1), some (ji x2), none]) (by decide) rfl rfl (Nat.le_of_ble_eq_true rfl) (And.intro rfl (And.intro rfl (And.intro rfl True.intro))) (t_X0_endRound hs n th p1 x2 hth hp1 M)
/-! CageLeave$Now.cageAll(LCageLeave$Plan;)V -/
def D_X1_cageAll : JD := (RX1, cX1_cageAll, 3, none, "cageAll", { frames := 0, cells := 0, slots := 0, locals := 0 })
theorem ok_X1_cageAll : jOk D_X1_cageAll yX1_cageAll 1 := ⟨jTW_mem (k := 796) (by decide +kernel) rfl, jTW_mem (k := 144) (by decide +kernel) rfl, ⟨by decide +kernel, by decide +kernel⟩, by decide +kernel, rfl, rfl⟩
theorem in_X1_cageAll : Cond.instanceMethod yX1_cageAll ∈ jTW := jTW_mem (k := 794) (by decide +kernel) rfl
theorem se_X1_cageAll : Cond.selects yX1_cageAll.cls yX1_cageAll yX1_cageAll ∈ jTW := jTW_mem (k := 795) (by decide +kernel) rfl
theorem d_X1_cageAll_0 : decode (D_X1_cageAll).2.1 0 = .ok (.aload_n 0, 1) := by decide +kernel
theorem d_X1_cageAll_1 : decode (D_X1_cageAll).2.1 1 = .ok (.iconst 0, 1) := by decide +kernel
theorem d_X1_cageAll_2 : decode (D_X1_cageAll).2.1 2 = .ok (.putfield 15, 3) := by decide +kernel
theorem d_X1_cageAll_5 : decode (D_X1_cageAll).2.1 5 = .ok (.iconst 0, 1) := by decide +kernel
theorem d_X1_cageAll_6 : decode (D_X1_cageAll).2.1 6 = .ok (.istore_n 2, 1) := by decide +kernel
theorem d_X1_cageAll_7 : decode (D_X1_cageAll).2.1 7 = .ok (.iload_n 2, 1) := by decide +kernel
theorem d_X1_cageAll_8 : decode (D_X1_cageAll).2.1 8 = .ok (.bipush 6, 2) := by decide +kernel
theorem d_X1_cageAll_10 : decode (D_X1_cageAll).2.1 10 = .ok (.if_icmp .ge 16, 3) := by decide +kernel
theorem d_X1_cageAll_13 : decode (D_X1_cageAll).2.1 13 = .ok (.aload_n 0, 1) := by decide +kernel
theorem d_X1_cageAll_14 : decode (D_X1_cageAll).2.1 14 = .ok (.getfield 34, 3) := by decide +kernel
theorem d_X1_cageAll_17 : decode (D_X1_cageAll).2.1 17 = .ok (.iload_n 2, 1) := by decide +kernel
theorem d_X1_cageAll_18 : decode (D_X1_cageAll).2.1 18 = .ok (.iconst 0, 1) := by decide +kernel
theorem d_X1_cageAll_19 : decode (D_X1_cageAll).2.1 19 = .ok (.iastore, 1) := by decide +kernel
theorem d_X1_cageAll_20 : decode (D_X1_cageAll).2.1 20 = .ok (.iinc 2 1, 3) := by decide +kernel
theorem d_X1_cageAll_23 : decode (D_X1_cageAll).2.1 23 = .ok (.goto (-16), 3) := by decide +kernel
theorem d_X1_cageAll_26 : decode (D_X1_cageAll).2.1 26 = .ok (.iconst 0, 1) := by decide +kernel
theorem d_X1_cageAll_27 : decode (D_X1_cageAll).2.1 27 = .ok (.istore_n 2, 1) := by decide +kernel
theorem d_X1_cageAll_28 : decode (D_X1_cageAll).2.1 28 = .ok (.iload_n 2, 1) := by decide +kernel
theorem d_X1_cageAll_29 : decode (D_X1_cageAll).2.1 29 = .ok (.bipush 8, 2) := by decide +kernel
theorem d_X1_cageAll_31 : decode (D_X1_cageAll).2.1 31 = .ok (.if_icmp .ge 16, 3) := by decide +kernel
theorem d_X1_cageAll_34 : decode (D_X1_cageAll).2.1 34 = .ok (.aload_n 0, 1) := by decide +kernel
theorem d_X1_cageAll_35 : decode (D_X1_cageAll).2.1 35 = .ok (.getfield 37, 3) := by decide +kernel
theorem d_X1_cageAll_38 : decode (D_X1_cageAll).2.1 38 = .ok (.iload_n 2, 1) := by decide +kernel
theorem d_X1_cageAll_39 : decode (D_X1_cageAll).2.1 39 = .ok (.iconst 0, 1) := by decide +kernel
theorem d_X1_cageAll_40 : decode (D_X1_cageAll).2.1 40 = .ok (.iastore, 1) := by decide +kernel
theorem d_X1_cageAll_41 : decode (D_X1_cageAll).2.1 41 = .ok (.iinc 2 1, 3) := by decide +kernel
theorem d_X1_cageAll_44 : decode (D_X1_cageAll).2.1 44 = .ok (.goto (-16), 3) := by decide +kernel
theorem d_X1_cageAll_47 : decode (D_X1_cageAll).2.1 47 = .ok (.aload_n 0, 1) := by decide +kernel
theorem d_X1_cageAll_48 : decode (D_X1_cageAll).2.1 48 = .ok (.getfield 34, 3) := by decide +kernel
theorem d_X1_cageAll_51 : decode (D_X1_cageAll).2.1 51 = .ok (.iconst 0, 1) := by decide +kernel
theorem d_X1_cageAll_52 : decode (D_X1_cageAll).2.1 52 = .ok (.iconst 1, 1) := by decide +kernel
theorem d_X1_cageAll_53 : decode (D_X1_cageAll).2.1 53 = .ok (.aload_n 1, 1) := by decide +kernel
theorem d_X1_cageAll_54 : decode (D_X1_cageAll).2.1 54 = .ok (.getfield 59, 3) := by decide +kernel
theorem d_X1_cageAll_57 : decode (D_X1_cageAll).2.1 57 = .ok (.ishl, 1) := by decide +kernel
theorem d_X1_cageAll_58 : decode (D_X1_cageAll).2.1 58 = .ok (.iconst 1, 1) := by decide +kernel
theorem d_X1_cageAll_59 : decode (D_X1_cageAll).2.1 59 = .ok (.isub, 1) := by decide +kernel
theorem d_X1_cageAll_60 : decode (D_X1_cageAll).2.1 60 = .ok (.aload_n 0, 1) := by decide +kernel
theorem d_X1_cageAll_61 : decode (D_X1_cageAll).2.1 61 = .ok (.getfield 21, 3) := by decide +kernel
theorem d_X1_cageAll_64 : decode (D_X1_cageAll).2.1 64 = .ok (.iconst (-1), 1) := by decide +kernel
theorem d_X1_cageAll_65 : decode (D_X1_cageAll).2.1 65 = .ok (.ixor, 1) := by decide +kernel
theorem d_X1_cageAll_66 : decode (D_X1_cageAll).2.1 66 = .ok (.iand, 1) := by decide +kernel
theorem d_X1_cageAll_67 : decode (D_X1_cageAll).2.1 67 = .ok (.iastore, 1) := by decide +kernel
theorem d_X1_cageAll_68 : decode (D_X1_cageAll).2.1 68 = .ok (.return_, 1) := by decide +kernel
def f_X1_cageAll_L47 (n : Nat) (th : Nat) (p1 : Nat) (M : JMem) : Option (Int × JMem) := chk (jin 0 6) <| letm (jup M (th + 3) (jw 0).toNat (jand ((jshl 1 (M p1 2)) - 1) (jxor (M th 3) (-1)))) fun M1 => some (0, M1)
set_option maxRecDepth 4000 in
theorem t_X1_cageAll_L47 {g : JG} {ad : Nat → Nat} (hs : jStr g ad) (n : Nat) (th : Nat) (p1 : Nat) (hth : jK jNN (0, 1) th) (hp1 : jK jNN (0, 4) p1) (M : JMem) : jB g D_X1_cageAll ad 47 [some (.ref th), some (.ref p1), none] [] M (f_X1_cageAll_L47 n th p1 M) := by
  unfold f_X1_cageAll_L47
  refine jo_aload 0 d_X1_cageAll_47 rfl rfl ?_
  refine jo_getR (k := 7) cl_1 (Nat.le_of_ble_eq_true rfl) lk_X1_34 rfl hth (kr_Now_7 hth) d_X1_cageAll_48 ?_
  refine jo_iconst 0 d_X1_cageAll_51 ?_
  refine jo_iconst 1 d_X1_cageAll_52 ?_
  refine jo_aload 1 d_X1_cageAll_53 rfl rfl ?_
  refine jo_getI (k := 2) cl_4 (Nat.le_of_ble_eq_true rfl) lk_X1_59 (Or.inl rfl) hp1 d_X1_cageAll_54 ?_
  refine jo_ishl d_X1_cageAll_57 ?_
  refine jo_iconst 1 d_X1_cageAll_58 ?_
  refine jo_isub d_X1_cageAll_59 ?_
  refine jo_aload 0 d_X1_cageAll_60 rfl rfl ?_
  refine jo_getI (k := 3) cl_1 (Nat.le_of_ble_eq_true rfl) lk_X1_21 (Or.inl rfl) hth d_X1_cageAll_61 ?_
  refine jo_iconst (-1) d_X1_cageAll_64 ?_
  refine jo_ixor d_X1_cageAll_65 ?_
  refine jo_iand d_X1_cageAll_66 ?_
  refine jo_iast (N := 6) (ka_Now_7 hth) d_X1_cageAll_67 (fun M1 => ?_)
  exact jo_vret rfl d_X1_cageAll_68
def f_X1_cageAll_L28 (n : Nat) (th : Nat) (p1 : Nat) : Nat → Int → JMem → Option (Int × JMem)
  | 0, _, _ => none
  | k + 1, v2, M => if jw 8 ≤ jw v2 then (f_X1_cageAll_L47 n th p1 M) else (chk (jin v2 8) <| letm (jup M (th + 4) (jw v2).toNat 0) fun M1 => letv (v2 + 1) fun y2 => (f_X1_cageAll_L28 n th p1 k) y2 M1)
set_option maxRecDepth 4000 in
theorem t_X1_cageAll_L28 {g : JG} {ad : Nat → Nat} (hs : jStr g ad) (n : Nat) (th : Nat) (p1 : Nat) (hth : jK jNN (0, 1) th) (hp1 : jK jNN (0, 4) p1) : ∀ (k : Nat) (v2 : Int) (M : JMem), jB g D_X1_cageAll ad 28 [some (.ref th), some (.ref p1), some (ji v2)] [] M (f_X1_cageAll_L28 n th p1 k v2 M) := by
  intro k
  induction k with
  | zero => intro v2 M; exact jO.none
  | succ k ih =>
    intro v2 M
    rw [f_X1_cageAll_L28]
    refine jo_iload 2 d_X1_cageAll_28 rfl rfl ?_
    refine jo_bipush 8 d_X1_cageAll_29 (by decide) ?_
    refine jo_icmp_ge 47 d_X1_cageAll_31 (by decide) ?_ ?_
    · skip
      exact jO.sub (t_X1_cageAll_L47 hs n th p1 hth hp1 M) (And.intro rfl (And.intro rfl True.intro))
    · skip
      refine jo_aload 0 d_X1_cageAll_34 rfl rfl ?_
      refine jo_getR (k := 8) cl_1 (Nat.le_of_ble_eq_true rfl) lk_X1_37 rfl hth (kr_Now_8 hth) d_X1_cageAll_35 ?_
      refine jo_iload 2 d_X1_cageAll_38 rfl rfl ?_
      refine jo_iconst 0 d_X1_cageAll_39 ?_
      refine jo_iast (N := 8) (ka_Now_8 hth) d_X1_cageAll_40 (fun M1 => ?_)
      refine jo_iinc 2 d_X1_cageAll_41 rfl (Nat.le_of_ble_eq_true rfl) (fun y2 => ?_)
      refine jo_goto 28 d_X1_cageAll_44 (by decide) ?_
      exact jO.sub (ih y2 M1) (And.intro rfl (And.intro rfl (And.intro rfl True.intro)))
def f_X1_cageAll_L26 (n : Nat) (th : Nat) (p1 : Nat) (M : JMem) : Option (Int × JMem) := letv 0 fun y1 => f_X1_cageAll_L28 n th p1 n y1 M
set_option maxRecDepth 4000 in
theorem t_X1_cageAll_L26 {g : JG} {ad : Nat → Nat} (hs : jStr g ad) (n : Nat) (th : Nat) (p1 : Nat) (hth : jK jNN (0, 1) th) (hp1 : jK jNN (0, 4) p1) (M : JMem) : jB g D_X1_cageAll ad 26 [some (.ref th), some (.ref p1), none] [] M (f_X1_cageAll_L26 n th p1 M) := by
  unfold f_X1_cageAll_L26
  refine jo_iconst 0 d_X1_cageAll_26 ?_
  refine jo_istore 2 d_X1_cageAll_27 rfl (Nat.le_of_ble_eq_true rfl) (fun y1 => ?_)
  exact jO.sub (t_X1_cageAll_L28 hs n th p1 hth hp1 n y1 M) (And.intro rfl (And.intro rfl (And.intro rfl True.intro)))
def f_X1_cageAll_L7 (n : Nat) (th : Nat) (p1 : Nat) : Nat → Int → JMem → Option (Int × JMem)
  | 0, _, _ => none
  | k + 1, v2, M => if jw 6 ≤ jw v2 then (f_X1_cageAll_L26 n th p1 M) else (chk (jin v2 6) <| letm (jup M (th + 3) (jw v2).toNat 0) fun M1 => letv (v2 + 1) fun y2 => (f_X1_cageAll_L7 n th p1 k) y2 M1)
set_option maxRecDepth 4000 in
theorem t_X1_cageAll_L7 {g : JG} {ad : Nat → Nat} (hs : jStr g ad) (n : Nat) (th : Nat) (p1 : Nat) (hth : jK jNN (0, 1) th) (hp1 : jK jNN (0, 4) p1) : ∀ (k : Nat) (v2 : Int) (M : JMem), jB g D_X1_cageAll ad 7 [some (.ref th), some (.ref p1), some (ji v2)] [] M (f_X1_cageAll_L7 n th p1 k v2 M) := by
  intro k
  induction k with
  | zero => intro v2 M; exact jO.none
  | succ k ih =>
    intro v2 M
    rw [f_X1_cageAll_L7]
    refine jo_iload 2 d_X1_cageAll_7 rfl rfl ?_
    refine jo_bipush 6 d_X1_cageAll_8 (by decide) ?_
    refine jo_icmp_ge 26 d_X1_cageAll_10 (by decide) ?_ ?_
    · skip
      exact jO.sub (t_X1_cageAll_L26 hs n th p1 hth hp1 M) (And.intro rfl (And.intro rfl True.intro))
    · skip
      refine jo_aload 0 d_X1_cageAll_13 rfl rfl ?_
      refine jo_getR (k := 7) cl_1 (Nat.le_of_ble_eq_true rfl) lk_X1_34 rfl hth (kr_Now_7 hth) d_X1_cageAll_14 ?_
      refine jo_iload 2 d_X1_cageAll_17 rfl rfl ?_
      refine jo_iconst 0 d_X1_cageAll_18 ?_
      refine jo_iast (N := 6) (ka_Now_7 hth) d_X1_cageAll_19 (fun M1 => ?_)
      refine jo_iinc 2 d_X1_cageAll_20 rfl (Nat.le_of_ble_eq_true rfl) (fun y2 => ?_)
      refine jo_goto 7 d_X1_cageAll_23 (by decide) ?_
      exact jO.sub (ih y2 M1) (And.intro rfl (And.intro rfl (And.intro rfl True.intro)))
def f_X1_cageAll (n : Nat) (th : Nat) (p1 : Nat) (M : JMem) : Option (Int × JMem) := letm (jup M th 1 0) fun M1 => letv 0 fun y2 => f_X1_cageAll_L7 n th p1 n y2 M1
set_option maxRecDepth 4000 in
theorem t_X1_cageAll {g : JG} {ad : Nat → Nat} (hs : jStr g ad) (n : Nat) (th : Nat) (p1 : Nat) (hth : jK jNN (0, 1) th) (hp1 : jK jNN (0, 4) p1) (M : JMem) : jB g D_X1_cageAll ad 0 [some (.ref th), some (.ref p1), none] [] M (f_X1_cageAll n th p1 M) := by
  unfold f_X1_cageAll
  refine jo_aload 0 d_X1_cageAll_0 rfl rfl ?_
  refine jo_iconst 0 d_X1_cageAll_1 ?_
  refine jo_putI (k := 1) cl_1 (Nat.le_of_ble_eq_true rfl) lk_X1_15 rfl rfl hth d_X1_cageAll_2 (fun M1 => ?_)
  refine jo_iconst 0 d_X1_cageAll_5 ?_
  refine jo_istore 2 d_X1_cageAll_6 rfl (Nat.le_of_ble_eq_true rfl) (fun y2 => ?_)
  exact jO.sub (t_X1_cageAll_L7 hs n th p1 hth hp1 n y2 M1) (And.intro rfl (And.intro rfl (And.intro rfl True.intro)))
theorem m_X1_cageAll {g : JG} {ad : Nat → Nat} (hs : jStr g ad) (n : Nat) (th : Nat) (p1 : Nat) (hth : jK jNN (0, 1) th) (hp1 : jK jNN (0, 4) p1) (M : JMem) : jMet g jNN ad jR D_X1_cageAll yX1_cageAll [.ref th, .ref p1] M (f_X1_cageAll n th p1 M) :=
  jMet.of (lo0 := [some (.ref th), some (.ref p1), none]) (by decide) rfl rfl (Nat.le_of_ble_eq_true rfl) (And.intro rfl (And.intro rfl True.intro)) (t_X1_cageAll hs n th p1 hth hp1 M)
/-! CageLeave$Now.fetchAll(LCageLeave$Plan;)I -/
def D_X1_fetchAll : JD := (RX1, cX1_fetchAll, 4, some .int, "fetchAll", { frames := 1, cells := 0, slots := 0, locals := 22 })
theorem ok_X1_fetchAll : jOk D_X1_fetchAll yX1_fetchAll 1 := ⟨jTW_mem (k := 1050) (by decide +kernel) rfl, jTW_mem (k := 144) (by decide +kernel) rfl, ⟨by decide +kernel, by decide +kernel⟩, by decide +kernel, rfl, rfl⟩
theorem in_X1_fetchAll : Cond.instanceMethod yX1_fetchAll ∈ jTW := jTW_mem (k := 1048) (by decide +kernel) rfl
theorem se_X1_fetchAll : Cond.selects yX1_fetchAll.cls yX1_fetchAll yX1_fetchAll ∈ jTW := jTW_mem (k := 1049) (by decide +kernel) rfl
theorem lm_X1_55 : Cond.methodLink RX1 55 yX1_cageAll ∈ jTW := jTW_mem (k := 793) (by decide +kernel) rfl
theorem d_X1_fetchAll_0 : decode (D_X1_fetchAll).2.1 0 = .ok (.aload_n 0, 1) := by decide +kernel
theorem d_X1_fetchAll_1 : decode (D_X1_fetchAll).2.1 1 = .ok (.aload_n 1, 1) := by decide +kernel
theorem d_X1_fetchAll_2 : decode (D_X1_fetchAll).2.1 2 = .ok (.invokevirtual 86, 3) := by decide +kernel
theorem d_X1_fetchAll_5 : decode (D_X1_fetchAll).2.1 5 = .ok (.iconst 1, 1) := by decide +kernel
theorem d_X1_fetchAll_6 : decode (D_X1_fetchAll).2.1 6 = .ok (.aload_n 1, 1) := by decide +kernel
theorem d_X1_fetchAll_7 : decode (D_X1_fetchAll).2.1 7 = .ok (.getfield 59, 3) := by decide +kernel
theorem d_X1_fetchAll_10 : decode (D_X1_fetchAll).2.1 10 = .ok (.ishl, 1) := by decide +kernel
theorem d_X1_fetchAll_11 : decode (D_X1_fetchAll).2.1 11 = .ok (.iconst 1, 1) := by decide +kernel
theorem d_X1_fetchAll_12 : decode (D_X1_fetchAll).2.1 12 = .ok (.isub, 1) := by decide +kernel
theorem d_X1_fetchAll_13 : decode (D_X1_fetchAll).2.1 13 = .ok (.aload_n 0, 1) := by decide +kernel
theorem d_X1_fetchAll_14 : decode (D_X1_fetchAll).2.1 14 = .ok (.getfield 21, 3) := by decide +kernel
theorem d_X1_fetchAll_17 : decode (D_X1_fetchAll).2.1 17 = .ok (.iconst (-1), 1) := by decide +kernel
theorem d_X1_fetchAll_18 : decode (D_X1_fetchAll).2.1 18 = .ok (.ixor, 1) := by decide +kernel
theorem d_X1_fetchAll_19 : decode (D_X1_fetchAll).2.1 19 = .ok (.iand, 1) := by decide +kernel
theorem d_X1_fetchAll_20 : decode (D_X1_fetchAll).2.1 20 = .ok (.aload_n 0, 1) := by decide +kernel
theorem d_X1_fetchAll_21 : decode (D_X1_fetchAll).2.1 21 = .ok (.getfield 34, 3) := by decide +kernel
theorem d_X1_fetchAll_24 : decode (D_X1_fetchAll).2.1 24 = .ok (.iconst 0, 1) := by decide +kernel
theorem d_X1_fetchAll_25 : decode (D_X1_fetchAll).2.1 25 = .ok (.iaload, 1) := by decide +kernel
theorem d_X1_fetchAll_26 : decode (D_X1_fetchAll).2.1 26 = .ok (.iconst (-1), 1) := by decide +kernel
theorem d_X1_fetchAll_27 : decode (D_X1_fetchAll).2.1 27 = .ok (.ixor, 1) := by decide +kernel
theorem d_X1_fetchAll_28 : decode (D_X1_fetchAll).2.1 28 = .ok (.iand, 1) := by decide +kernel
theorem d_X1_fetchAll_29 : decode (D_X1_fetchAll).2.1 29 = .ok (.istore_n 2, 1) := by decide +kernel
theorem d_X1_fetchAll_30 : decode (D_X1_fetchAll).2.1 30 = .ok (.iconst 0, 1) := by decide +kernel
theorem d_X1_fetchAll_31 : decode (D_X1_fetchAll).2.1 31 = .ok (.istore_n 3, 1) := by decide +kernel
theorem d_X1_fetchAll_32 : decode (D_X1_fetchAll).2.1 32 = .ok (.iload_n 3, 1) := by decide +kernel
theorem d_X1_fetchAll_33 : decode (D_X1_fetchAll).2.1 33 = .ok (.aload_n 1, 1) := by decide +kernel
theorem d_X1_fetchAll_34 : decode (D_X1_fetchAll).2.1 34 = .ok (.getfield 59, 3) := by decide +kernel
theorem d_X1_fetchAll_37 : decode (D_X1_fetchAll).2.1 37 = .ok (.if_icmp .ge 27, 3) := by decide +kernel
theorem d_X1_fetchAll_40 : decode (D_X1_fetchAll).2.1 40 = .ok (.iload_n 2, 1) := by decide +kernel
theorem d_X1_fetchAll_41 : decode (D_X1_fetchAll).2.1 41 = .ok (.iload_n 3, 1) := by decide +kernel
theorem d_X1_fetchAll_42 : decode (D_X1_fetchAll).2.1 42 = .ok (.invokestatic 68, 3) := by decide +kernel
theorem d_X1_fetchAll_45 : decode (D_X1_fetchAll).2.1 45 = .ok (.ifCond .eq 13, 3) := by decide +kernel
theorem d_X1_fetchAll_48 : decode (D_X1_fetchAll).2.1 48 = .ok (.aload_n 0, 1) := by decide +kernel
theorem d_X1_fetchAll_49 : decode (D_X1_fetchAll).2.1 49 = .ok (.getfield 31, 3) := by decide +kernel
theorem d_X1_fetchAll_52 : decode (D_X1_fetchAll).2.1 52 = .ok (.iload_n 3, 1) := by decide +kernel
theorem d_X1_fetchAll_53 : decode (D_X1_fetchAll).2.1 53 = .ok (.dup2, 1) := by decide +kernel
theorem d_X1_fetchAll_54 : decode (D_X1_fetchAll).2.1 54 = .ok (.iaload, 1) := by decide +kernel
theorem d_X1_fetchAll_55 : decode (D_X1_fetchAll).2.1 55 = .ok (.iconst 1, 1) := by decide +kernel
theorem d_X1_fetchAll_56 : decode (D_X1_fetchAll).2.1 56 = .ok (.iadd, 1) := by decide +kernel
theorem d_X1_fetchAll_57 : decode (D_X1_fetchAll).2.1 57 = .ok (.iastore, 1) := by decide +kernel
theorem d_X1_fetchAll_58 : decode (D_X1_fetchAll).2.1 58 = .ok (.iinc 3 1, 3) := by decide +kernel
theorem d_X1_fetchAll_61 : decode (D_X1_fetchAll).2.1 61 = .ok (.goto (-29), 3) := by decide +kernel
theorem d_X1_fetchAll_64 : decode (D_X1_fetchAll).2.1 64 = .ok (.aload_n 0, 1) := by decide +kernel
theorem d_X1_fetchAll_65 : decode (D_X1_fetchAll).2.1 65 = .ok (.aload_n 1, 1) := by decide +kernel
theorem d_X1_fetchAll_66 : decode (D_X1_fetchAll).2.1 66 = .ok (.invokevirtual 55, 3) := by decide +kernel
theorem d_X1_fetchAll_69 : decode (D_X1_fetchAll).2.1 69 = .ok (.aload_n 0, 1) := by decide +kernel
theorem d_X1_fetchAll_70 : decode (D_X1_fetchAll).2.1 70 = .ok (.dup, 1) := by decide +kernel
theorem d_X1_fetchAll_71 : decode (D_X1_fetchAll).2.1 71 = .ok (.getfield 9, 3) := by decide +kernel
theorem d_X1_fetchAll_74 : decode (D_X1_fetchAll).2.1 74 = .ok (.iconst 1, 1) := by decide +kernel
theorem d_X1_fetchAll_75 : decode (D_X1_fetchAll).2.1 75 = .ok (.iadd, 1) := by decide +kernel
theorem d_X1_fetchAll_76 : decode (D_X1_fetchAll).2.1 76 = .ok (.putfield 9, 3) := by decide +kernel
theorem d_X1_fetchAll_79 : decode (D_X1_fetchAll).2.1 79 = .ok (.iload_n 2, 1) := by decide +kernel
theorem d_X1_fetchAll_80 : decode (D_X1_fetchAll).2.1 80 = .ok (.ireturn, 1) := by decide +kernel
def f_X1_fetchAll_L58 (n : Nat) (th : Nat) (p1 : Nat) (r32 : Int → Int → JMem → Option (Int × JMem)) (v2 v3 : Int) (M : JMem) : Option (Int × JMem) := letv (v3 + 1) fun y1 => r32 v2 y1 M
set_option maxRecDepth 4000 in
theorem t_X1_fetchAll_L58 {g : JG} {ad : Nat → Nat} (hs : jStr g ad) (n : Nat) (th : Nat) (p1 : Nat) (hth : jK jNN (0, 1) th) (hp1 : jK jNN (0, 4) p1) (r32 : Int → Int → JMem → Option (Int × JMem)) (hr32 : ∀ (v2 v3 : Int) (M : JMem), jB g D_X1_fetchAll ad 32 [some (.ref th), some (.ref p1), some (ji v2), some (ji v3)] [] M (r32 v2 v3 M)) (v2 v3 : Int) (M : JMem) : jB g D_X1_fetchAll ad 58 [some (.ref th), some (.ref p1), some (ji v2), some (ji v3)] [] M (f_X1_fetchAll_L58 n th p1 r32 v2 v3 M) := by
  unfold f_X1_fetchAll_L58
  refine jo_iinc 3 d_X1_fetchAll_58 rfl (Nat.le_of_ble_eq_true rfl) (fun y1 => ?_)
  refine jo_goto 32 d_X1_fetchAll_61 (by decide) ?_
  exact jO.sub (hr32 v2 y1 M) (And.intro rfl (And.intro rfl (And.intro rfl (And.intro rfl True.intro))))
def f_X1_fetchAll_L64 (n : Nat) (th : Nat) (p1 : Nat) (v2 : Int) (M : JMem) : Option (Int × JMem) := bnd (f_X1_cageAll n th p1 M) fun _ M2 => letm (jup M2 th 0 ((M2 th 0) + 1)) fun M3 => some (v2, M3)
set_option maxRecDepth 4000 in
theorem t_X1_fetchAll_L64 {g : JG} {ad : Nat → Nat} (hs : jStr g ad) (n : Nat) (th : Nat) (p1 : Nat) (hth : jK jNN (0, 1) th) (hp1 : jK jNN (0, 4) p1) (v2 : Int) (M : JMem) : jB g D_X1_fetchAll ad 64 [some (.ref th), some (.ref p1), some (ji v2), none] [] M (f_X1_fetchAll_L64 n th p1 v2 M) := by
  unfold f_X1_fetchAll_L64
  refine jo_aload 0 d_X1_fetchAll_64 rfl rfl ?_
  refine jo_aload 1 d_X1_fetchAll_65 rfl rfl ?_
  refine jo_callV (st := []) (m_X1_cageAll hs n th p1 hth hp1 M) ok_X1_cageAll (And.intro (Nat.le_of_ble_eq_true rfl) (Nat.le_of_ble_eq_true rfl)) lm_X1_55 in_X1_cageAll se_X1_cageAll rfl hth rfl rfl (And.intro (Nat.zero_le _) (Nat.zero_le _)) rfl (Nat.le_of_ble_eq_true rfl) d_X1_fetchAll_66 (fun _ M2 => ?_)
  refine jo_aload 0 d_X1_fetchAll_69 rfl rfl ?_
  refine jo_dup d_X1_fetchAll_70 rfl ?_
  refine jo_getI (k := 0) cl_1 (Nat.le_of_ble_eq_true rfl) lk_X1_9 (Or.inl rfl) hth d_X1_fetchAll_71 ?_
  refine jo_iconst 1 d_X1_fetchAll_74 ?_
  refine jo_iadd d_X1_fetchAll_75 ?_
  refine jo_putI (k := 0) cl_1 (Nat.le_of_ble_eq_true rfl) lk_X1_9 rfl rfl hth d_X1_fetchAll_76 (fun M3 => ?_)
  refine jo_iload 2 d_X1_fetchAll_79 rfl rfl ?_
  exact jo_iret rfl d_X1_fetchAll_80
def f_X1_fetchAll_L32 (n : Nat) (th : Nat) (p1 : Nat) : Nat → Int → Int → JMem → Option (Int × JMem)
  | 0, _, _, _ => none
  | k + 1, v2, v3, M => if jw (M p1 2) ≤ jw v3 then (f_X1_fetchAll_L64 n th p1 v2 M) else (bnd (f_X11_isIn n v2 v3 M) fun r1 M2 => if jw r1 = 0 then (f_X1_fetchAll_L58 n th p1 (f_X1_fetchAll_L32 n th p1 k) v2 v3 M2) else (chk (jin v3 8) <| chk (jin v3 8) <| letm (jup M2 (th + 2) (jw v3).toNat ((M2 (th + 2) (jw v3).toNat) + 1)) fun M3 => f_X1_fetchAll_L58 n th p1 (f_X1_fetchAll_L32 n th p1 k) v2 v3 M3))
set_option maxRecDepth 4000 in
theorem t_X1_fetchAll_L32 {g : JG} {ad : Nat → Nat} (hs : jStr g ad) (n : Nat) (th : Nat) (p1 : Nat) (hth : jK jNN (0, 1) th) (hp1 : jK jNN (0, 4) p1) : ∀ (k : Nat) (v2 v3 : Int) (M : JMem), jB g D_X1_fetchAll ad 32 [some (.ref th), some (.ref p1), some (ji v2), some (ji v3)] [] M (f_X1_fetchAll_L32 n th p1 k v2 v3 M) := by
  intro k
  induction k with
  | zero => intro v2 v3 M; exact jO.none
  | succ k ih =>
    intro v2 v3 M
    rw [f_X1_fetchAll_L32]
    refine jo_iload 3 d_X1_fetchAll_32 rfl rfl ?_
    refine jo_aload 1 d_X1_fetchAll_33 rfl rfl ?_
    refine jo_getI (k := 2) cl_4 (Nat.le_of_ble_eq_true rfl) lk_X1_59 (Or.inl rfl) hp1 d_X1_fetchAll_34 ?_
    refine jo_icmp_ge 64 d_X1_fetchAll_37 (by decide) ?_ ?_
    · skip
      exact jO.sub (t_X1_fetchAll_L64 hs n th p1 hth hp1 v2 M) (And.intro rfl (And.intro rfl (And.intro rfl True.intro)))
    · skip
      refine jo_iload 2 d_X1_fetchAll_40 rfl rfl ?_
      refine jo_iload 3 d_X1_fetchAll_41 rfl rfl ?_
      refine jo_callSN (st := []) (m_X11_isIn hs n v2 v3 M) ok_X11_isIn (And.intro (Nat.le_of_ble_eq_true rfl) (Nat.le_of_ble_eq_true rfl)) lm_X1_68 st_X11_isIn rfl (And.intro (Nat.zero_le _) (Nat.zero_le _)) rfl (Nat.le_of_ble_eq_true rfl) d_X1_fetchAll_42 (fun r1 M2 => ?_)
      refine jo_if_eq 58 d_X1_fetchAll_45 (by decide) ?_ ?_
      · skip
        exact jO.sub (t_X1_fetchAll_L58 hs n th p1 hth hp1 (f_X1_fetchAll_L32 n th p1 k) ih v2 v3 M2) (And.intro rfl (And.intro rfl (And.intro rfl (And.intro rfl True.intro))))
      · skip
        refine jo_aload 0 d_X1_fetchAll_48 rfl rfl ?_
        refine jo_getR (k := 6) cl_1 (Nat.le_of_ble_eq_true rfl) lk_X1_31 rfl hth (kr_Now_6 hth) d_X1_fetchAll_49 ?_
        refine jo_iload 3 d_X1_fetchAll_52 rfl rfl ?_
        refine jo_dup2 d_X1_fetchAll_53 rfl rfl ?_
        refine jo_iald (N := 8) (ka_Now_6 hth) d_X1_fetchAll_54 ?_
        refine jo_iconst 1 d_X1_fetchAll_55 ?_
        refine jo_iadd d_X1_fetchAll_56 ?_
        refine jo_iast (N := 8) (ka_Now_6 hth) d_X1_fetchAll_57 (fun M3 => ?_)
        exact jO.sub (t_X1_fetchAll_L58 hs n th p1 hth hp1 (f_X1_fetchAll_L32 n th p1 k) ih v2 v3 M3) (And.intro rfl (And.intro rfl (And.intro rfl (And.intro rfl True.intro))))
def f_X1_fetchAll (n : Nat) (th : Nat) (p1 : Nat) (M : JMem) : Option (Int × JMem) := bnd (f_X1_arrive n th p1 M) fun _ M2 => chk (jin 0 6) <| letv (jand (jand ((jshl 1 (M2 p1 2)) - 1) (jxor (M2 th 3) (-1))) (jxor (M2 (th + 3) (jw 0).toNat) (-1))) fun y3 => letv 0 fun y4 => f_X1_fetchAll_L32 n th p1 n y3 y4 M2
set_option maxRecDepth 4000 in
theorem t_X1_fetchAll {g : JG} {ad : Nat → Nat} (hs : jStr g ad) (n : Nat) (th : Nat) (p1 : Nat) (hth : jK jNN (0, 1) th) (hp1 : jK jNN (0, 4) p1) (M : JMem) : jB g D_X1_fetchAll ad 0 [some (.ref th), some (.ref p1), none, none] [] M (f_X1_fetchAll n th p1 M) := by
  unfold f_X1_fetchAll
  refine jo_aload 0 d_X1_fetchAll_0 rfl rfl ?_
  refine jo_aload 1 d_X1_fetchAll_1 rfl rfl ?_
  refine jo_callV (st := []) (m_X1_arrive hs n th p1 hth hp1 M) ok_X1_arrive (And.intro (Nat.le_of_ble_eq_true rfl) (Nat.le_of_ble_eq_true rfl)) lm_X1_86 in_X1_arrive se_X1_arrive rfl hth rfl rfl (And.intro (Nat.zero_le _) (Nat.zero_le _)) rfl (Nat.le_of_ble_eq_true rfl) d_X1_fetchAll_2 (fun _ M2 => ?_)
  refine jo_iconst 1 d_X1_fetchAll_5 ?_
  refine jo_aload 1 d_X1_fetchAll_6 rfl rfl ?_
  refine jo_getI (k := 2) cl_4 (Nat.le_of_ble_eq_true rfl) lk_X1_59 (Or.inl rfl) hp1 d_X1_fetchAll_7 ?_
  refine jo_ishl d_X1_fetchAll_10 ?_
  refine jo_iconst 1 d_X1_fetchAll_11 ?_
  refine jo_isub d_X1_fetchAll_12 ?_
  refine jo_aload 0 d_X1_fetchAll_13 rfl rfl ?_
  refine jo_getI (k := 3) cl_1 (Nat.le_of_ble_eq_true rfl) lk_X1_21 (Or.inl rfl) hth d_X1_fetchAll_14 ?_
  refine jo_iconst (-1) d_X1_fetchAll_17 ?_
  refine jo_ixor d_X1_fetchAll_18 ?_
  refine jo_iand d_X1_fetchAll_19 ?_
  refine jo_aload 0 d_X1_fetchAll_20 rfl rfl ?_
  refine jo_getR (k := 7) cl_1 (Nat.le_of_ble_eq_true rfl) lk_X1_34 rfl hth (kr_Now_7 hth) d_X1_fetchAll_21 ?_
  refine jo_iconst 0 d_X1_fetchAll_24 ?_
  refine jo_iald (N := 6) (ka_Now_7 hth) d_X1_fetchAll_25 ?_
  refine jo_iconst (-1) d_X1_fetchAll_26 ?_
  refine jo_ixor d_X1_fetchAll_27 ?_
  refine jo_iand d_X1_fetchAll_28 ?_
  refine jo_istore 2 d_X1_fetchAll_29 rfl (Nat.le_of_ble_eq_true rfl) (fun y3 => ?_)
  refine jo_iconst 0 d_X1_fetchAll_30 ?_
  refine jo_istore 3 d_X1_fetchAll_31 rfl (Nat.le_of_ble_eq_true rfl) (fun y4 => ?_)
  exact jO.sub (t_X1_fetchAll_L32 hs n th p1 hth hp1 n y3 y4 M2) (And.intro rfl (And.intro rfl (And.intro rfl (And.intro rfl True.intro))))
theorem m_X1_fetchAll {g : JG} {ad : Nat → Nat} (hs : jStr g ad) (n : Nat) (th : Nat) (p1 : Nat) (hth : jK jNN (0, 1) th) (hp1 : jK jNN (0, 4) p1) (M : JMem) : jMet g jNN ad jR D_X1_fetchAll yX1_fetchAll [.ref th, .ref p1] M (f_X1_fetchAll n th p1 M) :=
  jMet.of (lo0 := [some (.ref th), some (.ref p1), none, none]) (by decide) rfl rfl (Nat.le_of_ble_eq_true rfl) (And.intro rfl (And.intro rfl True.intro)) (t_X1_fetchAll hs n th p1 hth hp1 M)
/-! CageLeave$Life.isMondayDone(LCageLeave$Plan;LCageLeave$Now;)Z -/
def D_X0_isMondayDone : JD := (RX0, cX0_isMondayDone, 3, some .boolean, "isMondayDone", { frames := 2, cells := 0, slots := 0, locals := 45 })
theorem ok_X0_isMondayDone : jOk D_X0_isMondayDone yX0_isMondayDone 2 := ⟨jTW_mem (k := 1334) (by decide +kernel) rfl, jTW_mem (k := 150) (by decide +kernel) rfl, ⟨by decide +kernel, by decide +kernel⟩, by decide +kernel, rfl, rfl⟩
theorem in_X0_isMondayDone : Cond.instanceMethod yX0_isMondayDone ∈ jTW := jTW_mem (k := 1333) (by decide +kernel) rfl
theorem se_X0_isMondayDone : Cond.selects yX0_isMondayDone.cls yX0_isMondayDone yX0_isMondayDone ∈ jTW := jTW_mem (k := 45) (by decide +kernel) rfl
theorem lk_X0_101 : Cond.fieldLink RX0 101 (TX1 0).1 (TX1 0).2.1 (TX1 0).2.2.1 ∈ jTW := jTW_mem (k := 401) (by decide +kernel) rfl
theorem lm_X0_104 : Cond.methodLink RX0 104 yX1_fetchAll ∈ jTW := jTW_mem (k := 1335) (by decide +kernel) rfl
theorem d_X0_isMondayDone_0 : decode (D_X0_isMondayDone).2.1 0 = .ok (.aload_n 2, 1) := by decide +kernel
theorem d_X0_isMondayDone_1 : decode (D_X0_isMondayDone).2.1 1 = .ok (.getfield 88, 3) := by decide +kernel
theorem d_X0_isMondayDone_4 : decode (D_X0_isMondayDone).2.1 4 = .ok (.bipush 64, 2) := by decide +kernel
theorem d_X0_isMondayDone_6 : decode (D_X0_isMondayDone).2.1 6 = .ok (.if_icmp .lt 13, 3) := by decide +kernel
theorem d_X0_isMondayDone_9 : decode (D_X0_isMondayDone).2.1 9 = .ok (.aload_n 2, 1) := by decide +kernel
theorem d_X0_isMondayDone_10 : decode (D_X0_isMondayDone).2.1 10 = .ok (.getfield 101, 3) := by decide +kernel
theorem d_X0_isMondayDone_13 : decode (D_X0_isMondayDone).2.1 13 = .ok (.sipush 999, 3) := by decide +kernel
theorem d_X0_isMondayDone_16 : decode (D_X0_isMondayDone).2.1 16 = .ok (.if_icmp .lt 5, 3) := by decide +kernel
theorem d_X0_isMondayDone_19 : decode (D_X0_isMondayDone).2.1 19 = .ok (.iconst 0, 1) := by decide +kernel
theorem d_X0_isMondayDone_20 : decode (D_X0_isMondayDone).2.1 20 = .ok (.ireturn, 1) := by decide +kernel
theorem d_X0_isMondayDone_21 : decode (D_X0_isMondayDone).2.1 21 = .ok (.aload_n 0, 1) := by decide +kernel
theorem d_X0_isMondayDone_22 : decode (D_X0_isMondayDone).2.1 22 = .ok (.getfield 15, 3) := by decide +kernel
theorem d_X0_isMondayDone_25 : decode (D_X0_isMondayDone).2.1 25 = .ok (.iconst 3, 1) := by decide +kernel
theorem d_X0_isMondayDone_26 : decode (D_X0_isMondayDone).2.1 26 = .ok (.dup2, 1) := by decide +kernel
theorem d_X0_isMondayDone_27 : decode (D_X0_isMondayDone).2.1 27 = .ok (.iaload, 1) := by decide +kernel
theorem d_X0_isMondayDone_28 : decode (D_X0_isMondayDone).2.1 28 = .ok (.aload_n 2, 1) := by decide +kernel
theorem d_X0_isMondayDone_29 : decode (D_X0_isMondayDone).2.1 29 = .ok (.aload_n 1, 1) := by decide +kernel
theorem d_X0_isMondayDone_30 : decode (D_X0_isMondayDone).2.1 30 = .ok (.invokevirtual 104, 3) := by decide +kernel
theorem d_X0_isMondayDone_33 : decode (D_X0_isMondayDone).2.1 33 = .ok (.invokestatic 95, 3) := by decide +kernel
theorem d_X0_isMondayDone_36 : decode (D_X0_isMondayDone).2.1 36 = .ok (.iadd, 1) := by decide +kernel
theorem d_X0_isMondayDone_37 : decode (D_X0_isMondayDone).2.1 37 = .ok (.iastore, 1) := by decide +kernel
theorem d_X0_isMondayDone_38 : decode (D_X0_isMondayDone).2.1 38 = .ok (.iconst 1, 1) := by decide +kernel
theorem d_X0_isMondayDone_39 : decode (D_X0_isMondayDone).2.1 39 = .ok (.ireturn, 1) := by decide +kernel
def f_X0_isMondayDone (n : Nat) (th : Nat) (p1 : Nat) (p2 : Nat) (M : JMem) : Option (Int × JMem) := if jw (M p2 1) < jw 64 then (some (0, M)) else (if jw (M p2 0) < jw 999 then (chk (jin 3 5) <| bnd (f_X1_fetchAll n p2 p1 M) fun r1 M2 => bnd (f_J6_bitCount_0f7a4 n r1 M2) fun r3 M4 => chk (jin 3 5) <| letm (jup M4 (th + 1) (jw 3).toNat ((M (th + 1) (jw 3).toNat) + r3)) fun M5 => some (1, M5)) else (some (0, M)))
set_option maxRecDepth 4000 in
theorem t_X0_isMondayDone {g : JG} {ad : Nat → Nat} (hs : jStr g ad) (n : Nat) (th : Nat) (p1 : Nat) (p2 : Nat) (hth : jK jNN (0, 0) th) (hp1 : jK jNN (0, 4) p1) (hp2 : jK jNN (0, 1) p2) (M : JMem) : jB g D_X0_isMondayDone ad 0 [some (.ref th), some (.ref p1), some (.ref p2)] [] M (f_X0_isMondayDone n th p1 p2 M) := by
  unfold f_X0_isMondayDone
  refine jo_aload 2 d_X0_isMondayDone_0 rfl rfl ?_
  refine jo_getI (k := 1) cl_1 (Nat.le_of_ble_eq_true rfl) lk_X0_88 (Or.inl rfl) hp2 d_X0_isMondayDone_1 ?_
  refine jo_bipush 64 d_X0_isMondayDone_4 (by decide) ?_
  refine jo_icmp_lt 19 d_X0_isMondayDone_6 (by decide) ?_ ?_
  · skip
    refine jo_iconst 0 d_X0_isMondayDone_19 ?_
    exact jo_zret rfl (by decide) d_X0_isMondayDone_20
  · skip
    refine jo_aload 2 d_X0_isMondayDone_9 rfl rfl ?_
    refine jo_getI (k := 0) cl_1 (Nat.le_of_ble_eq_true rfl) lk_X0_101 (Or.inl rfl) hp2 d_X0_isMondayDone_10 ?_
    refine jo_sipush 999 d_X0_isMondayDone_13 (by decide) ?_
    refine jo_icmp_lt 21 d_X0_isMondayDone_16 (by decide) ?_ ?_
    · skip
      refine jo_aload 0 d_X0_isMondayDone_21 rfl rfl ?_
      refine jo_getR (k := 1) cl_0 (Nat.le_of_ble_eq_true rfl) lk_X0_15 rfl hth (kr_Life_1 hth) d_X0_isMondayDone_22 ?_
      refine jo_iconst 3 d_X0_isMondayDone_25 ?_
      refine jo_dup2 d_X0_isMondayDone_26 rfl rfl ?_
      refine jo_iald (N := 5) (ka_Life_1 hth) d_X0_isMondayDone_27 ?_
      refine jo_aload 2 d_X0_isMondayDone_28 rfl rfl ?_
      refine jo_aload 1 d_X0_isMondayDone_29 rfl rfl ?_
      refine jo_callV (st := [ji (M (th + 1) (jw 3).toNat), ji 3, .ref (th + 1)]) (m_X1_fetchAll hs n p2 p1 hp2 hp1 M) ok_X1_fetchAll (And.intro (Nat.le_of_ble_eq_true rfl) (Nat.le_of_ble_eq_true rfl)) lm_X0_104 in_X1_fetchAll se_X1_fetchAll rfl hp2 rfl rfl (And.intro (Nat.zero_le _) (Nat.zero_le _)) rfl (Nat.le_of_ble_eq_true rfl) d_X0_isMondayDone_30 (fun r1 M2 => ?_)
      refine jo_callS (st := [ji (M (th + 1) (jw 3).toNat), ji 3, .ref (th + 1)]) (m_J6_bitCount_0f7a4 hs n r1 M2) ok_J6_bitCount_0f7a4 (And.intro (Nat.le_of_ble_eq_true rfl) (Nat.le_of_ble_eq_true rfl)) lm_X0_95 st_J6_bitCount_0f7a4 rfl (And.intro (Nat.zero_le _) (Nat.zero_le _)) rfl (Nat.le_of_ble_eq_true rfl) d_X0_isMondayDone_33 (fun r3 M4 => ?_)
      refine jo_iadd d_X0_isMondayDone_36 ?_
      refine jo_iast (N := 5) (ka_Life_1 hth) d_X0_isMondayDone_37 (fun M5 => ?_)
      refine jo_iconst 1 d_X0_isMondayDone_38 ?_
      exact jo_zret rfl (by decide) d_X0_isMondayDone_39
    · skip
      refine jo_iconst 0 d_X0_isMondayDone_19 ?_
      exact jo_zret rfl (by decide) d_X0_isMondayDone_20
theorem m_X0_isMondayDone {g : JG} {ad : Nat → Nat} (hs : jStr g ad) (n : Nat) (th : Nat) (p1 : Nat) (p2 : Nat) (hth : jK jNN (0, 0) th) (hp1 : jK jNN (0, 4) p1) (hp2 : jK jNN (0, 1) p2) (M : JMem) : jMet g jNN ad jR D_X0_isMondayDone yX0_isMondayDone [.ref th, .ref p1, .ref p2] M (f_X0_isMondayDone n th p1 p2 M) :=
  jMet.of (lo0 := [some (.ref th), some (.ref p1), some (.ref p2)]) (by decide) rfl rfl (Nat.le_of_ble_eq_true rfl) (And.intro rfl (And.intro rfl (And.intro rfl True.intro))) (t_X0_isMondayDone hs n th p1 p2 hth hp1 hp2 M)
/-! CageLeave$Life.isSnowDone(LCageLeave$Plan;LCageLeave$Now;)Z -/
def D_X0_isSnowDone : JD := (RX0, cX0_isSnowDone, 5, some .boolean, "isSnowDone", { frames := 0, cells := 0, slots := 0, locals := 0 })
theorem ok_X0_isSnowDone : jOk D_X0_isSnowDone yX0_isSnowDone 2 := ⟨jTW_mem (k := 1339) (by decide +kernel) rfl, jTW_mem (k := 150) (by decide +kernel) rfl, ⟨by decide +kernel, by decide +kernel⟩, by decide +kernel, rfl, rfl⟩
theorem in_X0_isSnowDone : Cond.instanceMethod yX0_isSnowDone ∈ jTW := jTW_mem (k := 1338) (by decide +kernel) rfl
theorem se_X0_isSnowDone : Cond.selects yX0_isSnowDone.cls yX0_isSnowDone yX0_isSnowDone ∈ jTW := jTW_mem (k := 46) (by decide +kernel) rfl
theorem lk_X0_117 : Cond.fieldLink RX0 117 (TX1 4).1 (TX1 4).2.1 (TX1 4).2.2.1 ∈ jTW := jTW_mem (k := 411) (by decide +kernel) rfl
theorem lk_X0_108 : Cond.fieldLink RX0 108 (TX4 1).1 (TX4 1).2.1 (TX4 1).2.2.1 ∈ jTW := jTW_mem (k := 309) (by decide +kernel) rfl
theorem lc_X0_113 : Cond.constant RX0 113 (Int32.ofInt 65536) ∈ jTW := jTW_mem (k := 1340) (by decide +kernel) rfl
theorem lk_X0_114 : Cond.fieldLink RX0 114 (TX4 3).1 (TX4 3).2.1 (TX4 3).2.2.1 ∈ jTW := jTW_mem (k := 320) (by decide +kernel) rfl
theorem d_X0_isSnowDone_0 : decode (D_X0_isSnowDone).2.1 0 = .ok (.aload_n 1, 1) := by decide +kernel
theorem d_X0_isSnowDone_1 : decode (D_X0_isSnowDone).2.1 1 = .ok (.getfield 108, 3) := by decide +kernel
theorem d_X0_isSnowDone_4 : decode (D_X0_isSnowDone).2.1 4 = .ok (.ifCond .ne 5, 3) := by decide +kernel
theorem d_X0_isSnowDone_7 : decode (D_X0_isSnowDone).2.1 7 = .ok (.iconst 0, 1) := by decide +kernel
theorem d_X0_isSnowDone_8 : decode (D_X0_isSnowDone).2.1 8 = .ok (.ireturn, 1) := by decide +kernel
theorem d_X0_isSnowDone_9 : decode (D_X0_isSnowDone).2.1 9 = .ok (.iconst 0, 1) := by decide +kernel
theorem d_X0_isSnowDone_10 : decode (D_X0_isSnowDone).2.1 10 = .ok (.istore_n 3, 1) := by decide +kernel
theorem d_X0_isSnowDone_11 : decode (D_X0_isSnowDone).2.1 11 = .ok (.iconst 0, 1) := by decide +kernel
theorem d_X0_isSnowDone_12 : decode (D_X0_isSnowDone).2.1 12 = .ok (.istore 4, 2) := by decide +kernel
theorem d_X0_isSnowDone_14 : decode (D_X0_isSnowDone).2.1 14 = .ok (.iload 4, 2) := by decide +kernel
theorem d_X0_isSnowDone_16 : decode (D_X0_isSnowDone).2.1 16 = .ok (.aload_n 1, 1) := by decide +kernel
theorem d_X0_isSnowDone_17 : decode (D_X0_isSnowDone).2.1 17 = .ok (.getfield 108, 3) := by decide +kernel
theorem d_X0_isSnowDone_20 : decode (D_X0_isSnowDone).2.1 20 = .ok (.if_icmp .ge 52, 3) := by decide +kernel
theorem d_X0_isSnowDone_23 : decode (D_X0_isSnowDone).2.1 23 = .ok (.aload_n 0, 1) := by decide +kernel
theorem d_X0_isSnowDone_24 : decode (D_X0_isSnowDone).2.1 24 = .ok (.aload_n 0, 1) := by decide +kernel
theorem d_X0_isSnowDone_25 : decode (D_X0_isSnowDone).2.1 25 = .ok (.getfield 19, 3) := by decide +kernel
theorem d_X0_isSnowDone_28 : decode (D_X0_isSnowDone).2.1 28 = .ok (.sipush 3089, 3) := by decide +kernel
theorem d_X0_isSnowDone_31 : decode (D_X0_isSnowDone).2.1 31 = .ok (.imul, 1) := by decide +kernel
theorem d_X0_isSnowDone_32 : decode (D_X0_isSnowDone).2.1 32 = .ok (.sipush 11317, 3) := by decide +kernel
theorem d_X0_isSnowDone_35 : decode (D_X0_isSnowDone).2.1 35 = .ok (.iadd, 1) := by decide +kernel
theorem d_X0_isSnowDone_36 : decode (D_X0_isSnowDone).2.1 36 = .ok (.ldc 113, 2) := by decide +kernel
theorem d_X0_isSnowDone_38 : decode (D_X0_isSnowDone).2.1 38 = .ok (.irem, 1) := by decide +kernel
theorem d_X0_isSnowDone_39 : decode (D_X0_isSnowDone).2.1 39 = .ok (.putfield 19, 3) := by decide +kernel
theorem d_X0_isSnowDone_42 : decode (D_X0_isSnowDone).2.1 42 = .ok (.aload_n 0, 1) := by decide +kernel
theorem d_X0_isSnowDone_43 : decode (D_X0_isSnowDone).2.1 43 = .ok (.getfield 19, 3) := by decide +kernel
theorem d_X0_isSnowDone_46 : decode (D_X0_isSnowDone).2.1 46 = .ok (.bipush 8, 2) := by decide +kernel
theorem d_X0_isSnowDone_48 : decode (D_X0_isSnowDone).2.1 48 = .ok (.idiv, 1) := by decide +kernel
theorem d_X0_isSnowDone_49 : decode (D_X0_isSnowDone).2.1 49 = .ok (.bipush 16, 2) := by decide +kernel
theorem d_X0_isSnowDone_51 : decode (D_X0_isSnowDone).2.1 51 = .ok (.irem, 1) := by decide +kernel
theorem d_X0_isSnowDone_52 : decode (D_X0_isSnowDone).2.1 52 = .ok (.aload_n 1, 1) := by decide +kernel
theorem d_X0_isSnowDone_53 : decode (D_X0_isSnowDone).2.1 53 = .ok (.getfield 114, 3) := by decide +kernel
theorem d_X0_isSnowDone_56 : decode (D_X0_isSnowDone).2.1 56 = .ok (.if_icmp .ge 10, 3) := by decide +kernel
theorem d_X0_isSnowDone_59 : decode (D_X0_isSnowDone).2.1 59 = .ok (.iload_n 3, 1) := by decide +kernel
theorem d_X0_isSnowDone_60 : decode (D_X0_isSnowDone).2.1 60 = .ok (.iconst 1, 1) := by decide +kernel
theorem d_X0_isSnowDone_61 : decode (D_X0_isSnowDone).2.1 61 = .ok (.iload 4, 2) := by decide +kernel
theorem d_X0_isSnowDone_63 : decode (D_X0_isSnowDone).2.1 63 = .ok (.ishl, 1) := by decide +kernel
theorem d_X0_isSnowDone_64 : decode (D_X0_isSnowDone).2.1 64 = .ok (.ior, 1) := by decide +kernel
theorem d_X0_isSnowDone_65 : decode (D_X0_isSnowDone).2.1 65 = .ok (.istore_n 3, 1) := by decide +kernel
theorem d_X0_isSnowDone_66 : decode (D_X0_isSnowDone).2.1 66 = .ok (.iinc 4 1, 3) := by decide +kernel
theorem d_X0_isSnowDone_69 : decode (D_X0_isSnowDone).2.1 69 = .ok (.goto (-55), 3) := by decide +kernel
theorem d_X0_isSnowDone_72 : decode (D_X0_isSnowDone).2.1 72 = .ok (.aload_n 2, 1) := by decide +kernel
theorem d_X0_isSnowDone_73 : decode (D_X0_isSnowDone).2.1 73 = .ok (.iload_n 3, 1) := by decide +kernel
theorem d_X0_isSnowDone_74 : decode (D_X0_isSnowDone).2.1 74 = .ok (.putfield 117, 3) := by decide +kernel
theorem d_X0_isSnowDone_77 : decode (D_X0_isSnowDone).2.1 77 = .ok (.iconst 1, 1) := by decide +kernel
theorem d_X0_isSnowDone_78 : decode (D_X0_isSnowDone).2.1 78 = .ok (.ireturn, 1) := by decide +kernel
def f_X0_isSnowDone_L66 (n : Nat) (th : Nat) (p1 : Nat) (p2 : Nat) (r14 : Int → Int → JMem → Option (Int × JMem)) (v3 v4 : Int) (M : JMem) : Option (Int × JMem) := letv (v4 + 1) fun y1 => r14 v3 y1 M
set_option maxRecDepth 4000 in
theorem t_X0_isSnowDone_L66 {g : JG} {ad : Nat → Nat} (hs : jStr g ad) (n : Nat) (th : Nat) (p1 : Nat) (p2 : Nat) (hth : jK jNN (0, 0) th) (hp1 : jK jNN (0, 4) p1) (hp2 : jK jNN (0, 1) p2) (r14 : Int → Int → JMem → Option (Int × JMem)) (hr14 : ∀ (v3 v4 : Int) (M : JMem), jB g D_X0_isSnowDone ad 14 [some (.ref th), some (.ref p1), some (.ref p2), some (ji v3), some (ji v4)] [] M (r14 v3 v4 M)) (v3 v4 : Int) (M : JMem) : jB g D_X0_isSnowDone ad 66 [some (.ref th), some (.ref p1), some (.ref p2), some (ji v3), some (ji v4)] [] M (f_X0_isSnowDone_L66 n th p1 p2 r14 v3 v4 M) := by
  unfold f_X0_isSnowDone_L66
  refine jo_iinc 4 d_X0_isSnowDone_66 rfl (Nat.le_of_ble_eq_true rfl) (fun y1 => ?_)
  refine jo_goto 14 d_X0_isSnowDone_69 (by decide) ?_
  exact jO.sub (hr14 v3 y1 M) (And.intro rfl (And.intro rfl (And.intro rfl (And.intro rfl (And.intro rfl True.intro)))))
def f_X0_isSnowDone_L72 (n : Nat) (th : Nat) (p1 : Nat) (p2 : Nat) (v3 : Int) (M : JMem) : Option (Int × JMem) := letm (jup M p2 4 v3) fun M1 => some (1, M1)
set_option maxRecDepth 4000 in
theorem t_X0_isSnowDone_L72 {g : JG} {ad : Nat → Nat} (hs : jStr g ad) (n : Nat) (th : Nat) (p1 : Nat) (p2 : Nat) (hth : jK jNN (0, 0) th) (hp1 : jK jNN (0, 4) p1) (hp2 : jK jNN (0, 1) p2) (v3 : Int) (M : JMem) : jB g D_X0_isSnowDone ad 72 [none, none, some (.ref p2), some (ji v3), none] [] M (f_X0_isSnowDone_L72 n th p1 p2 v3 M) := by
  unfold f_X0_isSnowDone_L72
  refine jo_aload 2 d_X0_isSnowDone_72 rfl rfl ?_
  refine jo_iload 3 d_X0_isSnowDone_73 rfl rfl ?_
  refine jo_putI (k := 4) cl_1 (Nat.le_of_ble_eq_true rfl) lk_X0_117 rfl rfl hp2 d_X0_isSnowDone_74 (fun M1 => ?_)
  refine jo_iconst 1 d_X0_isSnowDone_77 ?_
  exact jo_zret rfl (by decide) d_X0_isSnowDone_78
def f_X0_isSnowDone_L14 (n : Nat) (th : Nat) (p1 : Nat) (p2 : Nat) : Nat → Int → Int → JMem → Option (Int × JMem)
  | 0, _, _, _ => none
  | k + 1, v3, v4, M => if jw (M p1 1) ≤ jw v4 then (f_X0_isSnowDone_L72 n th p1 p2 v3 M) else (letm (jup M th 2 (jrem (((M th 2) * 3089) + 11317) 65536)) fun M1 => if jw (M1 p1 3) ≤ jw (jrem (jdiv (M1 th 2) 8) 16) then (f_X0_isSnowDone_L66 n th p1 p2 (f_X0_isSnowDone_L14 n th p1 p2 k) v3 v4 M1) else (letv (jor v3 (jshl 1 v4)) fun y2 => f_X0_isSnowDone_L66 n th p1 p2 (f_X0_isSnowDone_L14 n th p1 p2 k) y2 v4 M1))
set_option maxRecDepth 4000 in
theorem t_X0_isSnowDone_L14 {g : JG} {ad : Nat → Nat} (hs : jStr g ad) (n : Nat) (th : Nat) (p1 : Nat) (p2 : Nat) (hth : jK jNN (0, 0) th) (hp1 : jK jNN (0, 4) p1) (hp2 : jK jNN (0, 1) p2) : ∀ (k : Nat) (v3 v4 : Int) (M : JMem), jB g D_X0_isSnowDone ad 14 [some (.ref th), some (.ref p1), some (.ref p2), some (ji v3), some (ji v4)] [] M (f_X0_isSnowDone_L14 n th p1 p2 k v3 v4 M) := by
  intro k
  induction k with
  | zero => intro v3 v4 M; exact jO.none
  | succ k ih =>
    intro v3 v4 M
    rw [f_X0_isSnowDone_L14]
    refine jo_iloadW 4 d_X0_isSnowDone_14 rfl ?_
    refine jo_aload 1 d_X0_isSnowDone_16 rfl rfl ?_
    refine jo_getI (k := 1) cl_4 (Nat.le_of_ble_eq_true rfl) lk_X0_108 (Or.inl rfl) hp1 d_X0_isSnowDone_17 ?_
    refine jo_icmp_ge 72 d_X0_isSnowDone_20 (by decide) ?_ ?_
    · skip
      exact jO.sub (t_X0_isSnowDone_L72 hs n th p1 p2 hth hp1 hp2 v3 M) (And.intro rfl (And.intro rfl True.intro))
    · skip
      refine jo_aload 0 d_X0_isSnowDone_23 rfl rfl ?_
      refine jo_aload 0 d_X0_isSnowDone_24 rfl rfl ?_
      refine jo_getI (k := 2) cl_0 (Nat.le_of_ble_eq_true rfl) lk_X0_19 (Or.inl rfl) hth d_X0_isSnowDone_25 ?_
      refine jo_sipush 3089 d_X0_isSnowDone_28 (by decide) ?_
      refine jo_imul d_X0_isSnowDone_31 ?_
      refine jo_sipush 11317 d_X0_isSnowDone_32 (by decide) ?_
      refine jo_iadd d_X0_isSnowDone_35 ?_
      refine jo_ldc 65536 lc_X0_113 d_X0_isSnowDone_36 ?_
      refine jo_irem d_X0_isSnowDone_38 (by decide) ?_
      refine jo_putI (k := 2) cl_0 (Nat.le_of_ble_eq_true rfl) lk_X0_19 rfl rfl hth d_X0_isSnowDone_39 (fun M1 => ?_)
      refine jo_aload 0 d_X0_isSnowDone_42 rfl rfl ?_
      refine jo_getI (k := 2) cl_0 (Nat.le_of_ble_eq_true rfl) lk_X0_19 (Or.inl rfl) hth d_X0_isSnowDone_43 ?_
      refine jo_bipush 8 d_X0_isSnowDone_46 (by decide) ?_
      refine jo_idiv d_X0_isSnowDone_48 (by decide) ?_
      refine jo_bipush 16 d_X0_isSnowDone_49 (by decide) ?_
      refine jo_irem d_X0_isSnowDone_51 (by decide) ?_
      refine jo_aload 1 d_X0_isSnowDone_52 rfl rfl ?_
      refine jo_getI (k := 3) cl_4 (Nat.le_of_ble_eq_true rfl) lk_X0_114 (Or.inl rfl) hp1 d_X0_isSnowDone_53 ?_
      refine jo_icmp_ge 66 d_X0_isSnowDone_56 (by decide) ?_ ?_
      · skip
        exact jO.sub (t_X0_isSnowDone_L66 hs n th p1 p2 hth hp1 hp2 (f_X0_isSnowDone_L14 n th p1 p2 k) ih v3 v4 M1) (And.intro rfl (And.intro rfl (And.intro rfl (And.intro rfl (And.intro rfl True.intro)))))
      · skip
        refine jo_iload 3 d_X0_isSnowDone_59 rfl rfl ?_
        refine jo_iconst 1 d_X0_isSnowDone_60 ?_
        refine jo_iloadW 4 d_X0_isSnowDone_61 rfl ?_
        refine jo_ishl d_X0_isSnowDone_63 ?_
        refine jo_ior d_X0_isSnowDone_64 ?_
        refine jo_istore 3 d_X0_isSnowDone_65 rfl (Nat.le_of_ble_eq_true rfl) (fun y2 => ?_)
        exact jO.sub (t_X0_isSnowDone_L66 hs n th p1 p2 hth hp1 hp2 (f_X0_isSnowDone_L14 n th p1 p2 k) ih y2 v4 M1) (And.intro rfl (And.intro rfl (And.intro rfl (And.intro rfl (And.intro rfl True.intro)))))
def f_X0_isSnowDone (n : Nat) (th : Nat) (p1 : Nat) (p2 : Nat) (M : JMem) : Option (Int × JMem) := if jw (M p1 1) = 0 then (some (0, M)) else (letv 0 fun y1 => letv 0 fun y2 => f_X0_isSnowDone_L14 n th p1 p2 n y1 y2 M)
set_option maxRecDepth 4000 in
theorem t_X0_isSnowDone {g : JG} {ad : Nat → Nat} (hs : jStr g ad) (n : Nat) (th : Nat) (p1 : Nat) (p2 : Nat) (hth : jK jNN (0, 0) th) (hp1 : jK jNN (0, 4) p1) (hp2 : jK jNN (0, 1) p2) (M : JMem) : jB g D_X0_isSnowDone ad 0 [some (.ref th), some (.ref p1), some (.ref p2), none, none] [] M (f_X0_isSnowDone n th p1 p2 M) := by
  unfold f_X0_isSnowDone
  refine jo_aload 1 d_X0_isSnowDone_0 rfl rfl ?_
  refine jo_getI (k := 1) cl_4 (Nat.le_of_ble_eq_true rfl) lk_X0_108 (Or.inl rfl) hp1 d_X0_isSnowDone_1 ?_
  refine jo_if_ne 9 d_X0_isSnowDone_4 (by decide) ?_ ?_
  · skip
    refine jo_iconst 0 d_X0_isSnowDone_9 ?_
    refine jo_istore 3 d_X0_isSnowDone_10 rfl (Nat.le_of_ble_eq_true rfl) (fun y1 => ?_)
    refine jo_iconst 0 d_X0_isSnowDone_11 ?_
    refine jo_istoreW 4 d_X0_isSnowDone_12 (Nat.le_of_ble_eq_true rfl) (fun y2 => ?_)
    exact jO.sub (t_X0_isSnowDone_L14 hs n th p1 p2 hth hp1 hp2 n y1 y2 M) (And.intro rfl (And.intro rfl (And.intro rfl (And.intro rfl (And.intro rfl True.intro)))))
  · skip
    refine jo_iconst 0 d_X0_isSnowDone_7 ?_
    exact jo_zret rfl (by decide) d_X0_isSnowDone_8
theorem m_X0_isSnowDone {g : JG} {ad : Nat → Nat} (hs : jStr g ad) (n : Nat) (th : Nat) (p1 : Nat) (p2 : Nat) (hth : jK jNN (0, 0) th) (hp1 : jK jNN (0, 4) p1) (hp2 : jK jNN (0, 1) p2) (M : JMem) : jMet g jNN ad jR D_X0_isSnowDone yX0_isSnowDone [.ref th, .ref p1, .ref p2] M (f_X0_isSnowDone n th p1 p2 M) :=
  jMet.of (lo0 := [some (.ref th), some (.ref p1), some (.ref p2), none, none]) (by decide) rfl rfl (Nat.le_of_ble_eq_true rfl) (And.intro rfl (And.intro rfl (And.intro rfl True.intro))) (t_X0_isSnowDone hs n th p1 p2 hth hp1 hp2 M)
/-! CageLeave$Now.turnHalt(I)V -/
def D_X1_turnHalt : JD := (RX1, cX1_turnHalt, 2, none, "turnHalt", { frames := 0, cells := 0, slots := 0, locals := 0 })
theorem ok_X1_turnHalt : jOk D_X1_turnHalt yX1_turnHalt 1 := ⟨jTW_mem (k := 1072) (by decide +kernel) rfl, jTW_mem (k := 144) (by decide +kernel) rfl, ⟨by decide +kernel, by decide +kernel⟩, by decide +kernel, rfl, rfl⟩
theorem in_X1_turnHalt : Cond.instanceMethod yX1_turnHalt ∈ jTW := jTW_mem (k := 1070) (by decide +kernel) rfl
theorem se_X1_turnHalt : Cond.selects yX1_turnHalt.cls yX1_turnHalt yX1_turnHalt ∈ jTW := jTW_mem (k := 1071) (by decide +kernel) rfl
theorem d_X1_turnHalt_0 : decode (D_X1_turnHalt).2.1 0 = .ok (.aload_n 0, 1) := by decide +kernel
theorem d_X1_turnHalt_1 : decode (D_X1_turnHalt).2.1 1 = .ok (.dup, 1) := by decide +kernel
theorem d_X1_turnHalt_2 : decode (D_X1_turnHalt).2.1 2 = .ok (.getfield 24, 3) := by decide +kernel
theorem d_X1_turnHalt_5 : decode (D_X1_turnHalt).2.1 5 = .ok (.iconst 1, 1) := by decide +kernel
theorem d_X1_turnHalt_6 : decode (D_X1_turnHalt).2.1 6 = .ok (.iload_n 1, 1) := by decide +kernel
theorem d_X1_turnHalt_7 : decode (D_X1_turnHalt).2.1 7 = .ok (.ishl, 1) := by decide +kernel
theorem d_X1_turnHalt_8 : decode (D_X1_turnHalt).2.1 8 = .ok (.ixor, 1) := by decide +kernel
theorem d_X1_turnHalt_9 : decode (D_X1_turnHalt).2.1 9 = .ok (.putfield 24, 3) := by decide +kernel
theorem d_X1_turnHalt_12 : decode (D_X1_turnHalt).2.1 12 = .ok (.return_, 1) := by decide +kernel
def f_X1_turnHalt (n : Nat) (th : Nat) (x1 : Int) (M : JMem) : Option (Int × JMem) := letm (jup M th 4 (jxor (M th 4) (jshl 1 x1))) fun M1 => some (0, M1)
set_option maxRecDepth 4000 in
theorem t_X1_turnHalt {g : JG} {ad : Nat → Nat} (hs : jStr g ad) (n : Nat) (th : Nat) (x1 : Int) (hth : jK jNN (0, 1) th) (M : JMem) : jB g D_X1_turnHalt ad 0 [some (.ref th), some (ji x1)] [] M (f_X1_turnHalt n th x1 M) := by
  unfold f_X1_turnHalt
  refine jo_aload 0 d_X1_turnHalt_0 rfl rfl ?_
  refine jo_dup d_X1_turnHalt_1 rfl ?_
  refine jo_getI (k := 4) cl_1 (Nat.le_of_ble_eq_true rfl) lk_X1_24 (Or.inl rfl) hth d_X1_turnHalt_2 ?_
  refine jo_iconst 1 d_X1_turnHalt_5 ?_
  refine jo_iload 1 d_X1_turnHalt_6 rfl rfl ?_
  refine jo_ishl d_X1_turnHalt_7 ?_
  refine jo_ixor d_X1_turnHalt_8 ?_
  refine jo_putI (k := 4) cl_1 (Nat.le_of_ble_eq_true rfl) lk_X1_24 rfl rfl hth d_X1_turnHalt_9 (fun M1 => ?_)
  exact jo_vret rfl d_X1_turnHalt_12
theorem m_X1_turnHalt {g : JG} {ad : Nat → Nat} (hs : jStr g ad) (n : Nat) (th : Nat) (x1 : Int) (hth : jK jNN (0, 1) th) (M : JMem) : jMet g jNN ad jR D_X1_turnHalt yX1_turnHalt [.ref th, ji x1] M (f_X1_turnHalt n th x1 M) :=
  jMet.of (lo0 := [some (.ref th), some (ji x1)]) (by decide) rfl rfl (Nat.le_of_ble_eq_true rfl) (And.intro rfl (And.intro rfl True.intro)) (t_X1_turnHalt hs n th x1 hth M)
/-! CageLeave$Now.isEaten(I)Z -/
def D_X1_isEaten : JD := (RX1, cX1_isEaten, 2, some .boolean, "isEaten", { frames := 1, cells := 0, slots := 0, locals := 21 })
theorem ok_X1_isEaten : jOk D_X1_isEaten yX1_isEaten 1 := ⟨jTW_mem (k := 980) (by decide +kernel) rfl, jTW_mem (k := 144) (by decide +kernel) rfl, ⟨by decide +kernel, by decide +kernel⟩, by decide +kernel, rfl, rfl⟩
theorem in_X1_isEaten : Cond.instanceMethod yX1_isEaten ∈ jTW := jTW_mem (k := 978) (by decide +kernel) rfl
theorem se_X1_isEaten : Cond.selects yX1_isEaten.cls yX1_isEaten yX1_isEaten ∈ jTW := jTW_mem (k := 979) (by decide +kernel) rfl
theorem d_X1_isEaten_0 : decode (D_X1_isEaten).2.1 0 = .ok (.aload_n 0, 1) := by decide +kernel
theorem d_X1_isEaten_1 : decode (D_X1_isEaten).2.1 1 = .ok (.getfield 21, 3) := by decide +kernel
theorem d_X1_isEaten_4 : decode (D_X1_isEaten).2.1 4 = .ok (.iload_n 1, 1) := by decide +kernel
theorem d_X1_isEaten_5 : decode (D_X1_isEaten).2.1 5 = .ok (.invokestatic 68, 3) := by decide +kernel
theorem d_X1_isEaten_8 : decode (D_X1_isEaten).2.1 8 = .ok (.ireturn, 1) := by decide +kernel
def f_X1_isEaten (n : Nat) (th : Nat) (x1 : Int) (M : JMem) : Option (Int × JMem) := bnd (f_X11_isIn n (M th 3) x1 M) fun r1 M2 => chk (jw r1 = 0 ∨ jw r1 = 1) (some (r1, M2))
set_option maxRecDepth 4000 in
theorem t_X1_isEaten {g : JG} {ad : Nat → Nat} (hs : jStr g ad) (n : Nat) (th : Nat) (x1 : Int) (hth : jK jNN (0, 1) th) (M : JMem) : jB g D_X1_isEaten ad 0 [some (.ref th), some (ji x1)] [] M (f_X1_isEaten n th x1 M) := by
  unfold f_X1_isEaten
  refine jo_aload 0 d_X1_isEaten_0 rfl rfl ?_
  refine jo_getI (k := 3) cl_1 (Nat.le_of_ble_eq_true rfl) lk_X1_21 (Or.inl rfl) hth d_X1_isEaten_1 ?_
  refine jo_iload 1 d_X1_isEaten_4 rfl rfl ?_
  refine jo_callSN (st := []) (m_X11_isIn hs n (M th 3) x1 M) ok_X11_isIn (And.intro (Nat.le_of_ble_eq_true rfl) (Nat.le_of_ble_eq_true rfl)) lm_X1_68 st_X11_isIn rfl (And.intro (Nat.zero_le _) (Nat.zero_le _)) rfl (Nat.le_of_ble_eq_true rfl) d_X1_isEaten_5 (fun r1 M2 => ?_)
  exact jo_zretq rfl d_X1_isEaten_8
theorem m_X1_isEaten {g : JG} {ad : Nat → Nat} (hs : jStr g ad) (n : Nat) (th : Nat) (x1 : Int) (hth : jK jNN (0, 1) th) (M : JMem) : jMet g jNN ad jR D_X1_isEaten yX1_isEaten [.ref th, ji x1] M (f_X1_isEaten n th x1 M) :=
  jMet.of (lo0 := [some (.ref th), some (ji x1)]) (by decide) rfl rfl (Nat.le_of_ble_eq_true rfl) (And.intro rfl (And.intro rfl True.intro)) (t_X1_isEaten hs n th x1 hth M)
/-! CageLeave$Now.turnTicket(II)V -/
def D_X1_turnTicket : JD := (RX1, cX1_turnTicket, 3, none, "turnTicket", { frames := 0, cells := 0, slots := 0, locals := 0 })
theorem ok_X1_turnTicket : jOk D_X1_turnTicket yX1_turnTicket 2 := ⟨jTW_mem (k := 1059) (by decide +kernel) rfl, jTW_mem (k := 144) (by decide +kernel) rfl, ⟨by decide +kernel, by decide +kernel⟩, by decide +kernel, rfl, rfl⟩
theorem in_X1_turnTicket : Cond.instanceMethod yX1_turnTicket ∈ jTW := jTW_mem (k := 1057) (by decide +kernel) rfl
theorem se_X1_turnTicket : Cond.selects yX1_turnTicket.cls yX1_turnTicket yX1_turnTicket ∈ jTW := jTW_mem (k := 1058) (by decide +kernel) rfl
theorem d_X1_turnTicket_0 : decode (D_X1_turnTicket).2.1 0 = .ok (.aload_n 0, 1) := by decide +kernel
theorem d_X1_turnTicket_1 : decode (D_X1_turnTicket).2.1 1 = .ok (.getfield 27, 3) := by decide +kernel
theorem d_X1_turnTicket_4 : decode (D_X1_turnTicket).2.1 4 = .ok (.iload_n 1, 1) := by decide +kernel
theorem d_X1_turnTicket_5 : decode (D_X1_turnTicket).2.1 5 = .ok (.dup2, 1) := by decide +kernel
theorem d_X1_turnTicket_6 : decode (D_X1_turnTicket).2.1 6 = .ok (.iaload, 1) := by decide +kernel
theorem d_X1_turnTicket_7 : decode (D_X1_turnTicket).2.1 7 = .ok (.iconst 1, 1) := by decide +kernel
theorem d_X1_turnTicket_8 : decode (D_X1_turnTicket).2.1 8 = .ok (.iload_n 2, 1) := by decide +kernel
theorem d_X1_turnTicket_9 : decode (D_X1_turnTicket).2.1 9 = .ok (.ishl, 1) := by decide +kernel
theorem d_X1_turnTicket_10 : decode (D_X1_turnTicket).2.1 10 = .ok (.ixor, 1) := by decide +kernel
theorem d_X1_turnTicket_11 : decode (D_X1_turnTicket).2.1 11 = .ok (.iastore, 1) := by decide +kernel
theorem d_X1_turnTicket_12 : decode (D_X1_turnTicket).2.1 12 = .ok (.return_, 1) := by decide +kernel
def f_X1_turnTicket (n : Nat) (th : Nat) (x1 : Int) (x2 : Int) (M : JMem) : Option (Int × JMem) := chk (jin x1 8) <| chk (jin x1 8) <| letm (jup M (th + 1) (jw x1).toNat (jxor (M (th + 1) (jw x1).toNat) (jshl 1 x2))) fun M1 => some (0, M1)
set_option maxRecDepth 4000 in
theorem t_X1_turnTicket {g : JG} {ad : Nat → Nat} (hs : jStr g ad) (n : Nat) (th : Nat) (x1 : Int) (x2 : Int) (hth : jK jNN (0, 1) th) (M : JMem) : jB g D_X1_turnTicket ad 0 [some (.ref th), some (ji x1), some (ji x2)] [] M (f_X1_turnTicket n th x1 x2 M) := by
  unfold f_X1_turnTicket
  refine jo_aload 0 d_X1_turnTicket_0 rfl rfl ?_
  refine jo_getR (k := 5) cl_1 (Nat.le_of_ble_eq_true rfl) lk_X1_27 rfl hth (kr_Now_5 hth) d_X1_turnTicket_1 ?_
  refine jo_iload 1 d_X1_turnTicket_4 rfl rfl ?_
  refine jo_dup2 d_X1_turnTicket_5 rfl rfl ?_
  refine jo_iald (N := 8) (ka_Now_5 hth) d_X1_turnTicket_6 ?_
  refine jo_iconst 1 d_X1_turnTicket_7 ?_
  refine jo_iload 2 d_X1_turnTicket_8 rfl rfl ?_
  refine jo_ishl d_X1_turnTicket_9 ?_
  refine jo_ixor d_X1_turnTicket_10 ?_
  refine jo_iast (N := 8) (ka_Now_5 hth) d_X1_turnTicket_11 (fun M1 => ?_)
  exact jo_vret rfl d_X1_turnTicket_12
theorem m_X1_turnTicket {g : JG} {ad : Nat → Nat} (hs : jStr g ad) (n : Nat) (th : Nat) (x1 : Int) (x2 : Int) (hth : jK jNN (0, 1) th) (M : JMem) : jMet g jNN ad jR D_X1_turnTicket yX1_turnTicket [.ref th, ji x1, ji x2] M (f_X1_turnTicket n th x1 x2 M) :=
  jMet.of (lo0 := [some (.ref th), some (ji x1), some (ji x2)]) (by decide) rfl rfl (Nat.le_of_ble_eq_true rfl) (And.intro rfl (And.intro rfl (And.intro rfl True.intro))) (t_X1_turnTicket hs n th x1 x2 hth M)
/-! CageLeave$Now.turnOut(I)V -/
def D_X1_turnOut : JD := (RX1, cX1_turnOut, 2, none, "turnOut", { frames := 0, cells := 0, slots := 0, locals := 0 })
theorem ok_X1_turnOut : jOk D_X1_turnOut yX1_turnOut 1 := ⟨jTW_mem (k := 856) (by decide +kernel) rfl, jTW_mem (k := 144) (by decide +kernel) rfl, ⟨by decide +kernel, by decide +kernel⟩, by decide +kernel, rfl, rfl⟩
theorem in_X1_turnOut : Cond.instanceMethod yX1_turnOut ∈ jTW := jTW_mem (k := 854) (by decide +kernel) rfl
theorem se_X1_turnOut : Cond.selects yX1_turnOut.cls yX1_turnOut yX1_turnOut ∈ jTW := jTW_mem (k := 855) (by decide +kernel) rfl
theorem d_X1_turnOut_0 : decode (D_X1_turnOut).2.1 0 = .ok (.aload_n 0, 1) := by decide +kernel
theorem d_X1_turnOut_1 : decode (D_X1_turnOut).2.1 1 = .ok (.dup, 1) := by decide +kernel
theorem d_X1_turnOut_2 : decode (D_X1_turnOut).2.1 2 = .ok (.getfield 18, 3) := by decide +kernel
theorem d_X1_turnOut_5 : decode (D_X1_turnOut).2.1 5 = .ok (.iconst 1, 1) := by decide +kernel
theorem d_X1_turnOut_6 : decode (D_X1_turnOut).2.1 6 = .ok (.iload_n 1, 1) := by decide +kernel
theorem d_X1_turnOut_7 : decode (D_X1_turnOut).2.1 7 = .ok (.ishl, 1) := by decide +kernel
theorem d_X1_turnOut_8 : decode (D_X1_turnOut).2.1 8 = .ok (.ixor, 1) := by decide +kernel
theorem d_X1_turnOut_9 : decode (D_X1_turnOut).2.1 9 = .ok (.putfield 18, 3) := by decide +kernel
theorem d_X1_turnOut_12 : decode (D_X1_turnOut).2.1 12 = .ok (.return_, 1) := by decide +kernel
def f_X1_turnOut (n : Nat) (th : Nat) (x1 : Int) (M : JMem) : Option (Int × JMem) := letm (jup M th 2 (jxor (M th 2) (jshl 1 x1))) fun M1 => some (0, M1)
set_option maxRecDepth 4000 in
theorem t_X1_turnOut {g : JG} {ad : Nat → Nat} (hs : jStr g ad) (n : Nat) (th : Nat) (x1 : Int) (hth : jK jNN (0, 1) th) (M : JMem) : jB g D_X1_turnOut ad 0 [some (.ref th), some (ji x1)] [] M (f_X1_turnOut n th x1 M) := by
  unfold f_X1_turnOut
  refine jo_aload 0 d_X1_turnOut_0 rfl rfl ?_
  refine jo_dup d_X1_turnOut_1 rfl ?_
  refine jo_getI (k := 2) cl_1 (Nat.le_of_ble_eq_true rfl) lk_X1_18 (Or.inl rfl) hth d_X1_turnOut_2 ?_
  refine jo_iconst 1 d_X1_turnOut_5 ?_
  refine jo_iload 1 d_X1_turnOut_6 rfl rfl ?_
  refine jo_ishl d_X1_turnOut_7 ?_
  refine jo_ixor d_X1_turnOut_8 ?_
  refine jo_putI (k := 2) cl_1 (Nat.le_of_ble_eq_true rfl) lk_X1_18 rfl rfl hth d_X1_turnOut_9 (fun M1 => ?_)
  exact jo_vret rfl d_X1_turnOut_12
theorem m_X1_turnOut {g : JG} {ad : Nat → Nat} (hs : jStr g ad) (n : Nat) (th : Nat) (x1 : Int) (hth : jK jNN (0, 1) th) (M : JMem) : jMet g jNN ad jR D_X1_turnOut yX1_turnOut [.ref th, ji x1] M (f_X1_turnOut n th x1 M) :=
  jMet.of (lo0 := [some (.ref th), some (ji x1)]) (by decide) rfl rfl (Nat.le_of_ble_eq_true rfl) (And.intro rfl (And.intro rfl True.intro)) (t_X1_turnOut hs n th x1 hth M)
/-! CageLeave$Life.isSo(LCageLeave$Now;LCageLeave$Weeks;I)Z -/
def D_X0_isSo : JD := (RX0, cX0_isSo, 6, some .boolean, "isSo", { frames := 2, cells := 0, slots := 0, locals := 42 })
theorem ok_X0_isSo : jOk D_X0_isSo yX0_isSo 3 := ⟨jTW_mem (k := 1348) (by decide +kernel) rfl, jTW_mem (k := 150) (by decide +kernel) rfl, ⟨by decide +kernel, by decide +kernel⟩, by decide +kernel, rfl, rfl⟩
theorem in_X0_isSo : Cond.instanceMethod yX0_isSo ∈ jTW := jTW_mem (k := 1347) (by decide +kernel) rfl
theorem se_X0_isSo : Cond.selects yX0_isSo.cls yX0_isSo yX0_isSo ∈ jTW := jTW_mem (k := 47) (by decide +kernel) rfl
theorem lk_X0_50 : Cond.fieldLink RX0 50 (TX9 4).1 (TX9 4).2.1 (TX9 4).2.2.1 ∈ jTW := jTW_mem (k := 493) (by decide +kernel) rfl
theorem lk_X0_74 : Cond.fieldLink RX0 74 (TX9 5).1 (TX9 5).2.1 (TX9 5).2.2.1 ∈ jTW := jTW_mem (k := 495) (by decide +kernel) rfl
theorem lk_X0_120 : Cond.fieldLink RX0 120 (TX1 7).1 (TX1 7).2.1 (TX1 7).2.2.1 ∈ jTW := jTW_mem (k := 420) (by decide +kernel) rfl
theorem lm_X0_123 : Cond.methodLinkNest RX0 123 yX11_isIn "CageLeave" ∈ jNW := by decide +kernel
theorem lm_X0_70 : Cond.methodLink RX0 70 yX1_isEaten ∈ jTW := jTW_mem (k := 1342) (by decide +kernel) rfl
theorem d_X0_isSo_0 : decode (D_X0_isSo).2.1 0 = .ok (.aload_n 2, 1) := by decide +kernel
theorem d_X0_isSo_1 : decode (D_X0_isSo).2.1 1 = .ok (.getfield 50, 3) := by decide +kernel
theorem d_X0_isSo_4 : decode (D_X0_isSo).2.1 4 = .ok (.iload_n 3, 1) := by decide +kernel
theorem d_X0_isSo_5 : decode (D_X0_isSo).2.1 5 = .ok (.iaload, 1) := by decide +kernel
theorem d_X0_isSo_6 : decode (D_X0_isSo).2.1 6 = .ok (.istore 4, 2) := by decide +kernel
theorem d_X0_isSo_8 : decode (D_X0_isSo).2.1 8 = .ok (.aload_n 2, 1) := by decide +kernel
theorem d_X0_isSo_9 : decode (D_X0_isSo).2.1 9 = .ok (.getfield 74, 3) := by decide +kernel
theorem d_X0_isSo_12 : decode (D_X0_isSo).2.1 12 = .ok (.iload_n 3, 1) := by decide +kernel
theorem d_X0_isSo_13 : decode (D_X0_isSo).2.1 13 = .ok (.iaload, 1) := by decide +kernel
theorem d_X0_isSo_14 : decode (D_X0_isSo).2.1 14 = .ok (.istore 5, 2) := by decide +kernel
theorem d_X0_isSo_16 : decode (D_X0_isSo).2.1 16 = .ok (.aload_n 2, 1) := by decide +kernel
theorem d_X0_isSo_17 : decode (D_X0_isSo).2.1 17 = .ok (.getfield 34, 3) := by decide +kernel
theorem d_X0_isSo_20 : decode (D_X0_isSo).2.1 20 = .ok (.iload_n 3, 1) := by decide +kernel
theorem d_X0_isSo_21 : decode (D_X0_isSo).2.1 21 = .ok (.iaload, 1) := by decide +kernel
theorem d_X0_isSo_22 : decode (D_X0_isSo).2.1 22 = .ok (.lookupswitch 46 #[(21, 26), (22, 39)], 26) := by decide +kernel
theorem d_X0_isSo_48 : decode (D_X0_isSo).2.1 48 = .ok (.aload_n 1, 1) := by decide +kernel
theorem d_X0_isSo_49 : decode (D_X0_isSo).2.1 49 = .ok (.getfield 120, 3) := by decide +kernel
theorem d_X0_isSo_52 : decode (D_X0_isSo).2.1 52 = .ok (.iload 5, 2) := by decide +kernel
theorem d_X0_isSo_54 : decode (D_X0_isSo).2.1 54 = .ok (.iaload, 1) := by decide +kernel
theorem d_X0_isSo_55 : decode (D_X0_isSo).2.1 55 = .ok (.iload 4, 2) := by decide +kernel
theorem d_X0_isSo_57 : decode (D_X0_isSo).2.1 57 = .ok (.invokestatic 123, 3) := by decide +kernel
theorem d_X0_isSo_60 : decode (D_X0_isSo).2.1 60 = .ok (.ireturn, 1) := by decide +kernel
theorem d_X0_isSo_61 : decode (D_X0_isSo).2.1 61 = .ok (.aload_n 1, 1) := by decide +kernel
theorem d_X0_isSo_62 : decode (D_X0_isSo).2.1 62 = .ok (.iload 4, 2) := by decide +kernel
theorem d_X0_isSo_64 : decode (D_X0_isSo).2.1 64 = .ok (.invokevirtual 70, 3) := by decide +kernel
theorem d_X0_isSo_67 : decode (D_X0_isSo).2.1 67 = .ok (.ireturn, 1) := by decide +kernel
theorem d_X0_isSo_68 : decode (D_X0_isSo).2.1 68 = .ok (.iload 4, 2) := by decide +kernel
theorem d_X0_isSo_70 : decode (D_X0_isSo).2.1 70 = .ok (.bipush 60, 2) := by decide +kernel
theorem d_X0_isSo_72 : decode (D_X0_isSo).2.1 72 = .ok (.if_icmp .ne 18, 3) := by decide +kernel
theorem d_X0_isSo_75 : decode (D_X0_isSo).2.1 75 = .ok (.aload_n 1, 1) := by decide +kernel
theorem d_X0_isSo_76 : decode (D_X0_isSo).2.1 76 = .ok (.getfield 88, 3) := by decide +kernel
theorem d_X0_isSo_79 : decode (D_X0_isSo).2.1 79 = .ok (.iload 5, 2) := by decide +kernel
theorem d_X0_isSo_81 : decode (D_X0_isSo).2.1 81 = .ok (.if_icmp .ge 7, 3) := by decide +kernel
theorem d_X0_isSo_84 : decode (D_X0_isSo).2.1 84 = .ok (.iconst 1, 1) := by decide +kernel
theorem d_X0_isSo_85 : decode (D_X0_isSo).2.1 85 = .ok (.goto 4, 3) := by decide +kernel
theorem d_X0_isSo_88 : decode (D_X0_isSo).2.1 88 = .ok (.iconst 0, 1) := by decide +kernel
theorem d_X0_isSo_89 : decode (D_X0_isSo).2.1 89 = .ok (.ireturn, 1) := by decide +kernel
theorem d_X0_isSo_90 : decode (D_X0_isSo).2.1 90 = .ok (.iload 4, 2) := by decide +kernel
theorem d_X0_isSo_92 : decode (D_X0_isSo).2.1 92 = .ok (.bipush 62, 2) := by decide +kernel
theorem d_X0_isSo_94 : decode (D_X0_isSo).2.1 94 = .ok (.if_icmp .ne 20, 3) := by decide +kernel
theorem d_X0_isSo_97 : decode (D_X0_isSo).2.1 97 = .ok (.aload_n 1, 1) := by decide +kernel
theorem d_X0_isSo_98 : decode (D_X0_isSo).2.1 98 = .ok (.getfield 88, 3) := by decide +kernel
theorem d_X0_isSo_101 : decode (D_X0_isSo).2.1 101 = .ok (.iload 5, 2) := by decide +kernel
theorem d_X0_isSo_103 : decode (D_X0_isSo).2.1 103 = .ok (.if_icmp .le 7, 3) := by decide +kernel
theorem d_X0_isSo_106 : decode (D_X0_isSo).2.1 106 = .ok (.iconst 1, 1) := by decide +kernel
theorem d_X0_isSo_107 : decode (D_X0_isSo).2.1 107 = .ok (.goto 21, 3) := by decide +kernel
theorem d_X0_isSo_110 : decode (D_X0_isSo).2.1 110 = .ok (.iconst 0, 1) := by decide +kernel
theorem d_X0_isSo_111 : decode (D_X0_isSo).2.1 111 = .ok (.goto 17, 3) := by decide +kernel
theorem d_X0_isSo_114 : decode (D_X0_isSo).2.1 114 = .ok (.aload_n 1, 1) := by decide +kernel
theorem d_X0_isSo_115 : decode (D_X0_isSo).2.1 115 = .ok (.getfield 88, 3) := by decide +kernel
theorem d_X0_isSo_118 : decode (D_X0_isSo).2.1 118 = .ok (.iload 5, 2) := by decide +kernel
theorem d_X0_isSo_120 : decode (D_X0_isSo).2.1 120 = .ok (.if_icmp .ne 7, 3) := by decide +kernel
theorem d_X0_isSo_123 : decode (D_X0_isSo).2.1 123 = .ok (.iconst 1, 1) := by decide +kernel
theorem d_X0_isSo_124 : decode (D_X0_isSo).2.1 124 = .ok (.goto 4, 3) := by decide +kernel
theorem d_X0_isSo_127 : decode (D_X0_isSo).2.1 127 = .ok (.iconst 0, 1) := by decide +kernel
theorem d_X0_isSo_128 : decode (D_X0_isSo).2.1 128 = .ok (.ireturn, 1) := by decide +kernel
def f_X0_isSo (n : Nat) (th : Nat) (p1 : Nat) (p2 : Nat) (x3 : Int) (M : JMem) : Option (Int × JMem) := chk (jin x3 60) <| letv (M (p2 + 2) (jw x3).toNat) fun y1 => chk (jin x3 60) <| letv (M (p2 + 3) (jw x3).toNat) fun y2 => chk (jin x3 60) <| if jw (M (p2 + 1) (jw x3).toNat) = 21 then (chk (jin y2 6) <| bnd (f_X11_isIn n (M (p1 + 3) (jw y2).toNat) y1 M) fun r4 M5 => chk (jw r4 = 0 ∨ jw r4 = 1) (some (r4, M5))) else (if jw (M (p2 + 1) (jw x3).toNat) = 22 then (bnd (f_X1_isEaten n p1 y1 M) fun r6 M7 => chk (jw r6 = 0 ∨ jw r6 = 1) (some (r6, M7))) else (if jw y1 = jw 60 then (if jw y2 ≤ jw (M p1 1) then (some (0, M)) else (some (1, M))) else (if jw y1 = jw 62 then (if jw (M p1 1) ≤ jw y2 then (some (0, M)) else (some (1, M))) else (if jw (M p1 1) = jw y2 then (some (1, M)) else (some (0, M))))))
set_option maxRecDepth 4000 in
theorem t_X0_isSo {g : JG} {ad : Nat → Nat} (hs : jStr g ad) (n : Nat) (th : Nat) (p1 : Nat) (p2 : Nat) (x3 : Int) (hth : jK jNN (0, 0) th) (hp1 : jK jNN (0, 1) p1) (hp2 : jK jNN (0, 9) p2) (M : JMem) : jB g D_X0_isSo ad 0 [some (.ref th), some (.ref p1), some (.ref p2), some (ji x3), none, none] [] M (f_X0_isSo n th p1 p2 x3 M) := by
  unfold f_X0_isSo
  refine jo_aload 2 d_X0_isSo_0 rfl rfl ?_
  refine jo_getR (k := 4) cl_9 (Nat.le_of_ble_eq_true rfl) lk_X0_50 rfl hp2 (kr_Weeks_4 hp2) d_X0_isSo_1 ?_
  refine jo_iload 3 d_X0_isSo_4 rfl rfl ?_
  refine jo_iald (N := 60) (ka_Weeks_4 hp2) d_X0_isSo_5 ?_
  refine jo_istoreW 4 d_X0_isSo_6 (Nat.le_of_ble_eq_true rfl) (fun y1 => ?_)
  refine jo_aload 2 d_X0_isSo_8 rfl rfl ?_
  refine jo_getR (k := 5) cl_9 (Nat.le_of_ble_eq_true rfl) lk_X0_74 rfl hp2 (kr_Weeks_5 hp2) d_X0_isSo_9 ?_
  refine jo_iload 3 d_X0_isSo_12 rfl rfl ?_
  refine jo_iald (N := 60) (ka_Weeks_5 hp2) d_X0_isSo_13 ?_
  refine jo_istoreW 5 d_X0_isSo_14 (Nat.le_of_ble_eq_true rfl) (fun y2 => ?_)
  refine jo_aload 2 d_X0_isSo_16 rfl rfl ?_
  refine jo_getR (k := 3) cl_9 (Nat.le_of_ble_eq_true rfl) lk_X0_34 rfl hp2 (kr_Weeks_3 hp2) d_X0_isSo_17 ?_
  refine jo_iload 3 d_X0_isSo_20 rfl rfl ?_
  refine jo_iald (N := 60) (ka_Weeks_3 hp2) d_X0_isSo_21 ?_
  refine jo_if (fun c3_21 => ?_) (fun c3_21 => ?_)
  · skip
    refine jo_lookup 48 d_X0_isSo_22 (by decide) (by first | (rw [c3_21]; done) | (rw [c3_21]; decide)) (by decide) ?_
    refine jo_aload 1 d_X0_isSo_48 rfl rfl ?_
    refine jo_getR (k := 7) cl_1 (Nat.le_of_ble_eq_true rfl) lk_X0_120 rfl hp1 (kr_Now_7 hp1) d_X0_isSo_49 ?_
    refine jo_iloadW 5 d_X0_isSo_52 rfl ?_
    refine jo_iald (N := 6) (ka_Now_7 hp1) d_X0_isSo_54 ?_
    refine jo_iloadW 4 d_X0_isSo_55 rfl ?_
    refine jo_callSN (st := []) (m_X11_isIn hs n (M (p1 + 3) (jw y2).toNat) y1 M) ok_X11_isIn (And.intro (Nat.le_of_ble_eq_true rfl) (Nat.le_of_ble_eq_true rfl)) lm_X0_123 st_X11_isIn rfl (And.intro (Nat.zero_le _) (Nat.zero_le _)) rfl (Nat.le_of_ble_eq_true rfl) d_X0_isSo_57 (fun r4 M5 => ?_)
    exact jo_zretq rfl d_X0_isSo_60
  refine jo_if (fun c3_22 => ?_) (fun c3_22 => ?_)
  · skip
    refine jo_lookup 61 d_X0_isSo_22 (by decide) (by first | (rw [c3_22]; done) | (rw [c3_22]; decide)) (by decide) ?_
    refine jo_aload 1 d_X0_isSo_61 rfl rfl ?_
    refine jo_iloadW 4 d_X0_isSo_62 rfl ?_
    refine jo_callV (st := []) (m_X1_isEaten hs n p1 y1 hp1 M) ok_X1_isEaten (And.intro (Nat.le_of_ble_eq_true rfl) (Nat.le_of_ble_eq_true rfl)) lm_X0_70 in_X1_isEaten se_X1_isEaten rfl hp1 rfl rfl (And.intro (Nat.zero_le _) (Nat.zero_le _)) rfl (Nat.le_of_ble_eq_true rfl) d_X0_isSo_64 (fun r6 M7 => ?_)
    exact jo_zretq rfl d_X0_isSo_67
  refine jo_lookup (off := 46) 68 d_X0_isSo_22 (by decide) (by simp [Op.lookupswitch.offset, Ne.symm c3_21, Ne.symm c3_22]) (by decide) ?_
  refine jo_iloadW 4 d_X0_isSo_68 rfl ?_
  refine jo_bipush 60 d_X0_isSo_70 (by decide) ?_
  refine jo_icmp_ne 90 d_X0_isSo_72 (by decide) ?_ ?_
  · skip
    refine jo_iloadW 4 d_X0_isSo_90 rfl ?_
    refine jo_bipush 62 d_X0_isSo_92 (by decide) ?_
    refine jo_icmp_ne 114 d_X0_isSo_94 (by decide) ?_ ?_
    · skip
      refine jo_aload 1 d_X0_isSo_114 rfl rfl ?_
      refine jo_getI (k := 1) cl_1 (Nat.le_of_ble_eq_true rfl) lk_X0_88 (Or.inl rfl) hp1 d_X0_isSo_115 ?_
      refine jo_iloadW 5 d_X0_isSo_118 rfl ?_
      refine jo_icmp_ne 127 d_X0_isSo_120 (by decide) ?_ ?_
      · skip
        refine jo_iconst 0 d_X0_isSo_127 ?_
        exact jo_zret rfl (by decide) d_X0_isSo_128
      · skip
        refine jo_iconst 1 d_X0_isSo_123 ?_
        refine jo_goto 128 d_X0_isSo_124 (by decide) ?_
        exact jo_zret rfl (by decide) d_X0_isSo_128
    · skip
      refine jo_aload 1 d_X0_isSo_97 rfl rfl ?_
      refine jo_getI (k := 1) cl_1 (Nat.le_of_ble_eq_true rfl) lk_X0_88 (Or.inl rfl) hp1 d_X0_isSo_98 ?_
      refine jo_iloadW 5 d_X0_isSo_101 rfl ?_
      refine jo_icmp_le 110 d_X0_isSo_103 (by decide) ?_ ?_
      · skip
        refine jo_iconst 0 d_X0_isSo_110 ?_
        refine jo_goto 128 d_X0_isSo_111 (by decide) ?_
        exact jo_zret rfl (by decide) d_X0_isSo_128
      · skip
        refine jo_iconst 1 d_X0_isSo_106 ?_
        refine jo_goto 128 d_X0_isSo_107 (by decide) ?_
        exact jo_zret rfl (by decide) d_X0_isSo_128
  · skip
    refine jo_aload 1 d_X0_isSo_75 rfl rfl ?_
    refine jo_getI (k := 1) cl_1 (Nat.le_of_ble_eq_true rfl) lk_X0_88 (Or.inl rfl) hp1 d_X0_isSo_76 ?_
    refine jo_iloadW 5 d_X0_isSo_79 rfl ?_
    refine jo_icmp_ge 88 d_X0_isSo_81 (by decide) ?_ ?_
    · skip
      refine jo_iconst 0 d_X0_isSo_88 ?_
      exact jo_zret rfl (by decide) d_X0_isSo_89
    · skip
      refine jo_iconst 1 d_X0_isSo_84 ?_
      refine jo_goto 89 d_X0_isSo_85 (by decide) ?_
      exact jo_zret rfl (by decide) d_X0_isSo_89
theorem m_X0_isSo {g : JG} {ad : Nat → Nat} (hs : jStr g ad) (n : Nat) (th : Nat) (p1 : Nat) (p2 : Nat) (x3 : Int) (hth : jK jNN (0, 0) th) (hp1 : jK jNN (0, 1) p1) (hp2 : jK jNN (0, 9) p2) (M : JMem) : jMet g jNN ad jR D_X0_isSo yX0_isSo [.ref th, .ref p1, .ref p2, ji x3] M (f_X0_isSo n th p1 p2 x3 M) :=
  jMet.of (lo0 := [some (.ref th), some (.ref p1), some (.ref p2), some (ji x3), none, none]) (by decide) rfl rfl (Nat.le_of_ble_eq_true rfl) (And.intro rfl (And.intro rfl (And.intro rfl (And.intro rfl True.intro)))) (t_X0_isSo hs n th p1 p2 x3 hth hp1 hp2 M)
/-! CageLeave$Life.isDone(LCageLeave$Plan;LCageLeave$Now;LCageLeave$Weeks;I)Z -/
def D_X0_isDone : JD := (RX0, cX0_isDone, 6, some .boolean, "isDone", { frames := 5, cells := 0, slots := 0, locals := 118 })
theorem ok_X0_isDone : jOk D_X0_isDone yX0_isDone 4 := ⟨jTW_mem (k := 1324) (by decide +kernel) rfl, jTW_mem (k := 150) (by decide +kernel) rfl, ⟨by decide +kernel, by decide +kernel⟩, by decide +kernel, rfl, rfl⟩
theorem in_X0_isDone : Cond.instanceMethod yX0_isDone ∈ jTW := jTW_mem (k := 1323) (by decide +kernel) rfl
theorem se_X0_isDone : Cond.selects yX0_isDone.cls yX0_isDone yX0_isDone ∈ jTW := jTW_mem (k := 43) (by decide +kernel) rfl
theorem lm_X0_84 : Cond.methodLink RX0 84 yX0_isSo ∈ jTW := jTW_mem (k := 1345) (by decide +kernel) rfl
theorem lm_X0_53 : Cond.methodLink RX0 53 yX0_areHoursDone ∈ jTW := jTW_mem (k := 1325) (by decide +kernel) rfl
theorem lm_X0_57 : Cond.methodLink RX0 57 yX0_isMondayDone ∈ jTW := jTW_mem (k := 1331) (by decide +kernel) rfl
theorem lm_X0_77 : Cond.methodLink RX0 77 yX1_turnTicket ∈ jTW := jTW_mem (k := 1343) (by decide +kernel) rfl
theorem lm_X0_81 : Cond.methodLink RX0 81 yX1_turnOut ∈ jTW := jTW_mem (k := 1344) (by decide +kernel) rfl
theorem lm_X0_64 : Cond.methodLink RX0 64 yX1_turnHalt ∈ jTW := jTW_mem (k := 1341) (by decide +kernel) rfl
theorem lm_X0_61 : Cond.methodLink RX0 61 yX0_isSnowDone ∈ jTW := jTW_mem (k := 1336) (by decide +kernel) rfl
theorem lk_X0_31 : Cond.fieldLink RX0 31 (TX9 2).1 (TX9 2).2.1 (TX9 2).2.2.1 ∈ jTW := jTW_mem (k := 488) (by decide +kernel) rfl
theorem d_X0_isDone_0 : decode (D_X0_isDone).2.1 0 = .ok (.aload_n 3, 1) := by decide +kernel
theorem d_X0_isDone_1 : decode (D_X0_isDone).2.1 1 = .ok (.getfield 50, 3) := by decide +kernel
theorem d_X0_isDone_4 : decode (D_X0_isDone).2.1 4 = .ok (.iload 4, 2) := by decide +kernel
theorem d_X0_isDone_6 : decode (D_X0_isDone).2.1 6 = .ok (.iaload, 1) := by decide +kernel
theorem d_X0_isDone_7 : decode (D_X0_isDone).2.1 7 = .ok (.istore 5, 2) := by decide +kernel
theorem d_X0_isDone_9 : decode (D_X0_isDone).2.1 9 = .ok (.aload_n 3, 1) := by decide +kernel
theorem d_X0_isDone_10 : decode (D_X0_isDone).2.1 10 = .ok (.getfield 34, 3) := by decide +kernel
theorem d_X0_isDone_13 : decode (D_X0_isDone).2.1 13 = .ok (.iload 4, 2) := by decide +kernel
theorem d_X0_isDone_15 : decode (D_X0_isDone).2.1 15 = .ok (.iaload, 1) := by decide +kernel
theorem d_X0_isDone_16 : decode (D_X0_isDone).2.1 16 = .ok (.tableswitch 165 14 26 #[68, 77, 120, 146, 91, 84, 165, 165, 165, 165, 109, 165, 99], 68) := by decide +kernel
theorem d_X0_isDone_84 : decode (D_X0_isDone).2.1 84 = .ok (.aload_n 0, 1) := by decide +kernel
theorem d_X0_isDone_85 : decode (D_X0_isDone).2.1 85 = .ok (.aload_n 1, 1) := by decide +kernel
theorem d_X0_isDone_86 : decode (D_X0_isDone).2.1 86 = .ok (.aload_n 2, 1) := by decide +kernel
theorem d_X0_isDone_87 : decode (D_X0_isDone).2.1 87 = .ok (.iload 5, 2) := by decide +kernel
theorem d_X0_isDone_89 : decode (D_X0_isDone).2.1 89 = .ok (.invokevirtual 53, 3) := by decide +kernel
theorem d_X0_isDone_92 : decode (D_X0_isDone).2.1 92 = .ok (.ireturn, 1) := by decide +kernel
theorem d_X0_isDone_93 : decode (D_X0_isDone).2.1 93 = .ok (.aload_n 0, 1) := by decide +kernel
theorem d_X0_isDone_94 : decode (D_X0_isDone).2.1 94 = .ok (.aload_n 1, 1) := by decide +kernel
theorem d_X0_isDone_95 : decode (D_X0_isDone).2.1 95 = .ok (.aload_n 2, 1) := by decide +kernel
theorem d_X0_isDone_96 : decode (D_X0_isDone).2.1 96 = .ok (.invokevirtual 57, 3) := by decide +kernel
theorem d_X0_isDone_99 : decode (D_X0_isDone).2.1 99 = .ok (.ireturn, 1) := by decide +kernel
theorem d_X0_isDone_100 : decode (D_X0_isDone).2.1 100 = .ok (.aload_n 0, 1) := by decide +kernel
theorem d_X0_isDone_101 : decode (D_X0_isDone).2.1 101 = .ok (.aload_n 1, 1) := by decide +kernel
theorem d_X0_isDone_102 : decode (D_X0_isDone).2.1 102 = .ok (.aload_n 2, 1) := by decide +kernel
theorem d_X0_isDone_103 : decode (D_X0_isDone).2.1 103 = .ok (.invokevirtual 61, 3) := by decide +kernel
theorem d_X0_isDone_106 : decode (D_X0_isDone).2.1 106 = .ok (.ireturn, 1) := by decide +kernel
theorem d_X0_isDone_107 : decode (D_X0_isDone).2.1 107 = .ok (.aload_n 2, 1) := by decide +kernel
theorem d_X0_isDone_108 : decode (D_X0_isDone).2.1 108 = .ok (.iload 5, 2) := by decide +kernel
theorem d_X0_isDone_110 : decode (D_X0_isDone).2.1 110 = .ok (.invokevirtual 64, 3) := by decide +kernel
theorem d_X0_isDone_113 : decode (D_X0_isDone).2.1 113 = .ok (.iconst 1, 1) := by decide +kernel
theorem d_X0_isDone_114 : decode (D_X0_isDone).2.1 114 = .ok (.ireturn, 1) := by decide +kernel
theorem d_X0_isDone_115 : decode (D_X0_isDone).2.1 115 = .ok (.aload_n 0, 1) := by decide +kernel
theorem d_X0_isDone_116 : decode (D_X0_isDone).2.1 116 = .ok (.aload_n 3, 1) := by decide +kernel
theorem d_X0_isDone_117 : decode (D_X0_isDone).2.1 117 = .ok (.getfield 31, 3) := by decide +kernel
theorem d_X0_isDone_120 : decode (D_X0_isDone).2.1 120 = .ok (.putfield 22, 3) := by decide +kernel
theorem d_X0_isDone_123 : decode (D_X0_isDone).2.1 123 = .ok (.iconst 1, 1) := by decide +kernel
theorem d_X0_isDone_124 : decode (D_X0_isDone).2.1 124 = .ok (.ireturn, 1) := by decide +kernel
theorem d_X0_isDone_125 : decode (D_X0_isDone).2.1 125 = .ok (.aload_n 0, 1) := by decide +kernel
theorem d_X0_isDone_126 : decode (D_X0_isDone).2.1 126 = .ok (.getfield 27, 3) := by decide +kernel
theorem d_X0_isDone_129 : decode (D_X0_isDone).2.1 129 = .ok (.iload 4, 2) := by decide +kernel
theorem d_X0_isDone_131 : decode (D_X0_isDone).2.1 131 = .ok (.iload 5, 2) := by decide +kernel
theorem d_X0_isDone_133 : decode (D_X0_isDone).2.1 133 = .ok (.iastore, 1) := by decide +kernel
theorem d_X0_isDone_134 : decode (D_X0_isDone).2.1 134 = .ok (.iconst 1, 1) := by decide +kernel
theorem d_X0_isDone_135 : decode (D_X0_isDone).2.1 135 = .ok (.ireturn, 1) := by decide +kernel
theorem d_X0_isDone_136 : decode (D_X0_isDone).2.1 136 = .ok (.aload_n 2, 1) := by decide +kernel
theorem d_X0_isDone_137 : decode (D_X0_isDone).2.1 137 = .ok (.iload 5, 2) := by decide +kernel
theorem d_X0_isDone_139 : decode (D_X0_isDone).2.1 139 = .ok (.invokevirtual 70, 3) := by decide +kernel
theorem d_X0_isDone_142 : decode (D_X0_isDone).2.1 142 = .ok (.ifCond .eq 5, 3) := by decide +kernel
theorem d_X0_isDone_145 : decode (D_X0_isDone).2.1 145 = .ok (.iconst 0, 1) := by decide +kernel
theorem d_X0_isDone_146 : decode (D_X0_isDone).2.1 146 = .ok (.ireturn, 1) := by decide +kernel
theorem d_X0_isDone_147 : decode (D_X0_isDone).2.1 147 = .ok (.aload_n 2, 1) := by decide +kernel
theorem d_X0_isDone_148 : decode (D_X0_isDone).2.1 148 = .ok (.iload 5, 2) := by decide +kernel
theorem d_X0_isDone_150 : decode (D_X0_isDone).2.1 150 = .ok (.aload_n 3, 1) := by decide +kernel
theorem d_X0_isDone_151 : decode (D_X0_isDone).2.1 151 = .ok (.getfield 74, 3) := by decide +kernel
theorem d_X0_isDone_154 : decode (D_X0_isDone).2.1 154 = .ok (.iload 4, 2) := by decide +kernel
theorem d_X0_isDone_156 : decode (D_X0_isDone).2.1 156 = .ok (.iaload, 1) := by decide +kernel
theorem d_X0_isDone_157 : decode (D_X0_isDone).2.1 157 = .ok (.invokevirtual 77, 3) := by decide +kernel
theorem d_X0_isDone_160 : decode (D_X0_isDone).2.1 160 = .ok (.iconst 1, 1) := by decide +kernel
theorem d_X0_isDone_161 : decode (D_X0_isDone).2.1 161 = .ok (.ireturn, 1) := by decide +kernel
theorem d_X0_isDone_162 : decode (D_X0_isDone).2.1 162 = .ok (.aload_n 2, 1) := by decide +kernel
theorem d_X0_isDone_163 : decode (D_X0_isDone).2.1 163 = .ok (.iload 5, 2) := by decide +kernel
theorem d_X0_isDone_165 : decode (D_X0_isDone).2.1 165 = .ok (.invokevirtual 70, 3) := by decide +kernel
theorem d_X0_isDone_168 : decode (D_X0_isDone).2.1 168 = .ok (.ifCond .eq 5, 3) := by decide +kernel
theorem d_X0_isDone_171 : decode (D_X0_isDone).2.1 171 = .ok (.iconst 0, 1) := by decide +kernel
theorem d_X0_isDone_172 : decode (D_X0_isDone).2.1 172 = .ok (.ireturn, 1) := by decide +kernel
theorem d_X0_isDone_173 : decode (D_X0_isDone).2.1 173 = .ok (.aload_n 2, 1) := by decide +kernel
theorem d_X0_isDone_174 : decode (D_X0_isDone).2.1 174 = .ok (.iload 5, 2) := by decide +kernel
theorem d_X0_isDone_176 : decode (D_X0_isDone).2.1 176 = .ok (.invokevirtual 81, 3) := by decide +kernel
theorem d_X0_isDone_179 : decode (D_X0_isDone).2.1 179 = .ok (.iconst 1, 1) := by decide +kernel
theorem d_X0_isDone_180 : decode (D_X0_isDone).2.1 180 = .ok (.ireturn, 1) := by decide +kernel
theorem d_X0_isDone_181 : decode (D_X0_isDone).2.1 181 = .ok (.aload_n 0, 1) := by decide +kernel
theorem d_X0_isDone_182 : decode (D_X0_isDone).2.1 182 = .ok (.aload_n 2, 1) := by decide +kernel
theorem d_X0_isDone_183 : decode (D_X0_isDone).2.1 183 = .ok (.aload_n 3, 1) := by decide +kernel
theorem d_X0_isDone_184 : decode (D_X0_isDone).2.1 184 = .ok (.iload 4, 2) := by decide +kernel
theorem d_X0_isDone_186 : decode (D_X0_isDone).2.1 186 = .ok (.invokevirtual 84, 3) := by decide +kernel
theorem d_X0_isDone_189 : decode (D_X0_isDone).2.1 189 = .ok (.ifCond .ne 16, 3) := by decide +kernel
theorem d_X0_isDone_192 : decode (D_X0_isDone).2.1 192 = .ok (.aload_n 0, 1) := by decide +kernel
theorem d_X0_isDone_193 : decode (D_X0_isDone).2.1 193 = .ok (.aload_n 3, 1) := by decide +kernel
theorem d_X0_isDone_194 : decode (D_X0_isDone).2.1 194 = .ok (.getfield 47, 3) := by decide +kernel
theorem d_X0_isDone_197 : decode (D_X0_isDone).2.1 197 = .ok (.iload 4, 2) := by decide +kernel
theorem d_X0_isDone_199 : decode (D_X0_isDone).2.1 199 = .ok (.iaload, 1) := by decide +kernel
theorem d_X0_isDone_200 : decode (D_X0_isDone).2.1 200 = .ok (.iconst 1, 1) := by decide +kernel
theorem d_X0_isDone_201 : decode (D_X0_isDone).2.1 201 = .ok (.iadd, 1) := by decide +kernel
theorem d_X0_isDone_202 : decode (D_X0_isDone).2.1 202 = .ok (.putfield 22, 3) := by decide +kernel
theorem d_X0_isDone_205 : decode (D_X0_isDone).2.1 205 = .ok (.iconst 1, 1) := by decide +kernel
theorem d_X0_isDone_206 : decode (D_X0_isDone).2.1 206 = .ok (.ireturn, 1) := by decide +kernel
def f_X0_isDone_L181 (n : Nat) (th : Nat) (p1 : Nat) (p2 : Nat) (p3 : Nat) (v4 : Int) (M : JMem) : Option (Int × JMem) := bnd (f_X0_isSo n th p2 p3 v4 M) fun r1 M2 => if jw r1 = 0 then (chk (jin v4 60) <| letm (jup M2 th 3 ((M2 (p3 + 4) (jw v4).toNat) + 1)) fun M3 => some (1, M3)) else (some (1, M2))
set_option maxRecDepth 4000 in
theorem t_X0_isDone_L181 {g : JG} {ad : Nat → Nat} (hs : jStr g ad) (n : Nat) (th : Nat) (p1 : Nat) (p2 : Nat) (p3 : Nat) (hth : jK jNN (0, 0) th) (hp1 : jK jNN (0, 4) p1) (hp2 : jK jNN (0, 1) p2) (hp3 : jK jNN (0, 9) p3) (v4 : Int) (M : JMem) : jB g D_X0_isDone ad 181 [some (.ref th), none, some (.ref p2), some (.ref p3), some (ji v4), none] [] M (f_X0_isDone_L181 n th p1 p2 p3 v4 M) := by
  unfold f_X0_isDone_L181
  refine jo_aload 0 d_X0_isDone_181 rfl rfl ?_
  refine jo_aload 2 d_X0_isDone_182 rfl rfl ?_
  refine jo_aload 3 d_X0_isDone_183 rfl rfl ?_
  refine jo_iloadW 4 d_X0_isDone_184 rfl ?_
  refine jo_callV (st := []) (m_X0_isSo hs n th p2 p3 v4 hth hp2 hp3 M) ok_X0_isSo (And.intro (Nat.le_of_ble_eq_true rfl) (Nat.le_of_ble_eq_true rfl)) lm_X0_84 in_X0_isSo se_X0_isSo rfl hth rfl rfl (And.intro (Nat.zero_le _) (Nat.zero_le _)) rfl (Nat.le_of_ble_eq_true rfl) d_X0_isDone_186 (fun r1 M2 => ?_)
  refine jo_if_ne 205 d_X0_isDone_189 (by decide) ?_ ?_
  · skip
    refine jo_iconst 1 d_X0_isDone_205 ?_
    exact jo_zret rfl (by decide) d_X0_isDone_206
  · skip
    refine jo_aload 0 d_X0_isDone_192 rfl rfl ?_
    refine jo_aload 3 d_X0_isDone_193 rfl rfl ?_
    refine jo_getR (k := 6) cl_9 (Nat.le_of_ble_eq_true rfl) lk_X0_47 rfl hp3 (kr_Weeks_6 hp3) d_X0_isDone_194 ?_
    refine jo_iloadW 4 d_X0_isDone_197 rfl ?_
    refine jo_iald (N := 60) (ka_Weeks_6 hp3) d_X0_isDone_199 ?_
    refine jo_iconst 1 d_X0_isDone_200 ?_
    refine jo_iadd d_X0_isDone_201 ?_
    refine jo_putI (k := 3) cl_0 (Nat.le_of_ble_eq_true rfl) lk_X0_22 rfl rfl hth d_X0_isDone_202 (fun M3 => ?_)
    refine jo_iconst 1 d_X0_isDone_205 ?_
    exact jo_zret rfl (by decide) d_X0_isDone_206
def f_X0_isDone (n : Nat) (th : Nat) (p1 : Nat) (p2 : Nat) (p3 : Nat) (x4 : Int) (M : JMem) : Option (Int × JMem) := chk (jin x4 60) <| letv (M (p3 + 2) (jw x4).toNat) fun y1 => chk (jin x4 60) <| if jw (M (p3 + 1) (jw x4).toNat) = 14 then (bnd (f_X0_areHoursDone n th p1 p2 y1 M) fun r3 M4 => chk (jw r3 = 0 ∨ jw r3 = 1) (some (r3, M4))) else (if jw (M (p3 + 1) (jw x4).toNat) = 15 then (bnd (f_X0_isMondayDone n th p1 p2 M) fun r5 M6 => chk (jw r5 = 0 ∨ jw r5 = 1) (some (r5, M6))) else (if jw (M (p3 + 1) (jw x4).toNat) = 16 then (bnd (f_X1_isEaten n p2 y1 M) fun r7 M8 => if jw r7 = 0 then (chk (jin x4 60) <| bnd (f_X1_turnTicket n p2 y1 (M8 (p3 + 3) (jw x4).toNat) M8) fun _ M10 => some (1, M10)) else (some (0, M8))) else (if jw (M (p3 + 1) (jw x4).toNat) = 17 then (bnd (f_X1_isEaten n p2 y1 M) fun r11 M12 => if jw r11 = 0 then (bnd (f_X1_turnOut n p2 y1 M12) fun _ M14 => some (1, M14)) else (some (0, M12))) else (if jw (M (p3 + 1) (jw x4).toNat) = 18 then (bnd (f_X1_turnHalt n p2 y1 M) fun _ M16 => some (1, M16)) else (if jw (M (p3 + 1) (jw x4).toNat) = 19 then (bnd (f_X0_isSnowDone n th p1 p2 M) fun r17 M18 => chk (jw r17 = 0 ∨ jw r17 = 1) (some (r17, M18))) else (if jw (M (p3 + 1) (jw x4).toNat) = 24 then (chk (jin x4 60) <| letm (jup M (th + 2) (jw x4).toNat y1) fun M19 => some (1, M19)) else (if jw (M (p3 + 1) (jw x4).toNat) = 26 then (letm (jup M th 3 (M p3 2)) fun M20 => some (1, M20)) else (f_X0_isDone_L181 n th p1 p2 p3 x4 M))))))))
set_option maxRecDepth 4000 in
theorem t_X0_isDone {g : JG} {ad : Nat → Nat} (hs : jStr g ad) (n : Nat) (th : Nat) (p1 : Nat) (p2 : Nat) (p3 : Nat) (x4 : Int) (hth : jK jNN (0, 0) th) (hp1 : jK jNN (0, 4) p1) (hp2 : jK jNN (0, 1) p2) (hp3 : jK jNN (0, 9) p3) (M : JMem) : jB g D_X0_isDone ad 0 [some (.ref th), some (.ref p1), some (.ref p2), some (.ref p3), some (ji x4), none] [] M (f_X0_isDone n th p1 p2 p3 x4 M) := by
  unfold f_X0_isDone
  refine jo_aload 3 d_X0_isDone_0 rfl rfl ?_
  refine jo_getR (k := 4) cl_9 (Nat.le_of_ble_eq_true rfl) lk_X0_50 rfl hp3 (kr_Weeks_4 hp3) d_X0_isDone_1 ?_
  refine jo_iloadW 4 d_X0_isDone_4 rfl ?_
  refine jo_iald (N := 60) (ka_Weeks_4 hp3) d_X0_isDone_6 ?_
  refine jo_istoreW 5 d_X0_isDone_7 (Nat.le_of_ble_eq_true rfl) (fun y1 => ?_)
  refine jo_aload 3 d_X0_isDone_9 rfl rfl ?_
  refine jo_getR (k := 3) cl_9 (Nat.le_of_ble_eq_true rfl) lk_X0_34 rfl hp3 (kr_Weeks_3 hp3) d_X0_isDone_10 ?_
  refine jo_iloadW 4 d_X0_isDone_13 rfl ?_
  refine jo_iald (N := 60) (ka_Weeks_3 hp3) d_X0_isDone_15 ?_
  refine jo_if (fun c2_14 => ?_) (fun c2_14 => ?_)
  · skip
    refine jo_tabIn 84 d_X0_isDone_16 14 c2_14 (by decide) (by decide) rfl (by decide) ?_
    refine jo_aload 0 d_X0_isDone_84 rfl rfl ?_
    refine jo_aload 1 d_X0_isDone_85 rfl rfl ?_
    refine jo_aload 2 d_X0_isDone_86 rfl rfl ?_
    refine jo_iloadW 5 d_X0_isDone_87 rfl ?_
    refine jo_callV (st := []) (m_X0_areHoursDone hs n th p1 p2 y1 hth hp1 hp2 M) ok_X0_areHoursDone (And.intro (Nat.le_of_ble_eq_true rfl) (Nat.le_of_ble_eq_true rfl)) lm_X0_53 in_X0_areHoursDone se_X0_areHoursDone rfl hth rfl rfl (And.intro (Nat.zero_le _) (Nat.zero_le _)) rfl (Nat.le_of_ble_eq_true rfl) d_X0_isDone_89 (fun r3 M4 => ?_)
    exact jo_zretq rfl d_X0_isDone_92
  refine jo_if (fun c2_15 => ?_) (fun c2_15 => ?_)
  · skip
    refine jo_tabIn 93 d_X0_isDone_16 15 c2_15 (by decide) (by decide) rfl (by decide) ?_
    refine jo_aload 0 d_X0_isDone_93 rfl rfl ?_
    refine jo_aload 1 d_X0_isDone_94 rfl rfl ?_
    refine jo_aload 2 d_X0_isDone_95 rfl rfl ?_
    refine jo_callV (st := []) (m_X0_isMondayDone hs n th p1 p2 hth hp1 hp2 M) ok_X0_isMondayDone (And.intro (Nat.le_of_ble_eq_true rfl) (Nat.le_of_ble_eq_true rfl)) lm_X0_57 in_X0_isMondayDone se_X0_isMondayDone rfl hth rfl rfl (And.intro (Nat.zero_le _) (Nat.zero_le _)) rfl (Nat.le_of_ble_eq_true rfl) d_X0_isDone_96 (fun r5 M6 => ?_)
    exact jo_zretq rfl d_X0_isDone_99
  refine jo_if (fun c2_16 => ?_) (fun c2_16 => ?_)
  · skip
    refine jo_tabIn 136 d_X0_isDone_16 16 c2_16 (by decide) (by decide) rfl (by decide) ?_
    refine jo_aload 2 d_X0_isDone_136 rfl rfl ?_
    refine jo_iloadW 5 d_X0_isDone_137 rfl ?_
    refine jo_callV (st := []) (m_X1_isEaten hs n p2 y1 hp2 M) ok_X1_isEaten (And.intro (Nat.le_of_ble_eq_true rfl) (Nat.le_of_ble_eq_true rfl)) lm_X0_70 in_X1_isEaten se_X1_isEaten rfl hp2 rfl rfl (And.intro (Nat.zero_le _) (Nat.zero_le _)) rfl (Nat.le_of_ble_eq_true rfl) d_X0_isDone_139 (fun r7 M8 => ?_)
    refine jo_if_eq 147 d_X0_isDone_142 (by decide) ?_ ?_
    · skip
      refine jo_aload 2 d_X0_isDone_147 rfl rfl ?_
      refine jo_iloadW 5 d_X0_isDone_148 rfl ?_
      refine jo_aload 3 d_X0_isDone_150 rfl rfl ?_
      refine jo_getR (k := 5) cl_9 (Nat.le_of_ble_eq_true rfl) lk_X0_74 rfl hp3 (kr_Weeks_5 hp3) d_X0_isDone_151 ?_
      refine jo_iloadW 4 d_X0_isDone_154 rfl ?_
      refine jo_iald (N := 60) (ka_Weeks_5 hp3) d_X0_isDone_156 ?_
      refine jo_callV (st := []) (m_X1_turnTicket hs n p2 y1 (M8 (p3 + 3) (jw x4).toNat) hp2 M8) ok_X1_turnTicket (And.intro (Nat.le_of_ble_eq_true rfl) (Nat.le_of_ble_eq_true rfl)) lm_X0_77 in_X1_turnTicket se_X1_turnTicket rfl hp2 rfl rfl (And.intro (Nat.zero_le _) (Nat.zero_le _)) rfl (Nat.le_of_ble_eq_true rfl) d_X0_isDone_157 (fun _ M10 => ?_)
      refine jo_iconst 1 d_X0_isDone_160 ?_
      exact jo_zret rfl (by decide) d_X0_isDone_161
    · skip
      refine jo_iconst 0 d_X0_isDone_145 ?_
      exact jo_zret rfl (by decide) d_X0_isDone_146
  refine jo_if (fun c2_17 => ?_) (fun c2_17 => ?_)
  · skip
    refine jo_tabIn 162 d_X0_isDone_16 17 c2_17 (by decide) (by decide) rfl (by decide) ?_
    refine jo_aload 2 d_X0_isDone_162 rfl rfl ?_
    refine jo_iloadW 5 d_X0_isDone_163 rfl ?_
    refine jo_callV (st := []) (m_X1_isEaten hs n p2 y1 hp2 M) ok_X1_isEaten (And.intro (Nat.le_of_ble_eq_true rfl) (Nat.le_of_ble_eq_true rfl)) lm_X0_70 in_X1_isEaten se_X1_isEaten rfl hp2 rfl rfl (And.intro (Nat.zero_le _) (Nat.zero_le _)) rfl (Nat.le_of_ble_eq_true rfl) d_X0_isDone_165 (fun r11 M12 => ?_)
    refine jo_if_eq 173 d_X0_isDone_168 (by decide) ?_ ?_
    · skip
      refine jo_aload 2 d_X0_isDone_173 rfl rfl ?_
      refine jo_iloadW 5 d_X0_isDone_174 rfl ?_
      refine jo_callV (st := []) (m_X1_turnOut hs n p2 y1 hp2 M12) ok_X1_turnOut (And.intro (Nat.le_of_ble_eq_true rfl) (Nat.le_of_ble_eq_true rfl)) lm_X0_81 in_X1_turnOut se_X1_turnOut rfl hp2 rfl rfl (And.intro (Nat.zero_le _) (Nat.zero_le _)) rfl (Nat.le_of_ble_eq_true rfl) d_X0_isDone_176 (fun _ M14 => ?_)
      refine jo_iconst 1 d_X0_isDone_179 ?_
      exact jo_zret rfl (by decide) d_X0_isDone_180
    · skip
      refine jo_iconst 0 d_X0_isDone_171 ?_
      exact jo_zret rfl (by decide) d_X0_isDone_172
  refine jo_if (fun c2_18 => ?_) (fun c2_18 => ?_)
  · skip
    refine jo_tabIn 107 d_X0_isDone_16 18 c2_18 (by decide) (by decide) rfl (by decide) ?_
    refine jo_aload 2 d_X0_isDone_107 rfl rfl ?_
    refine jo_iloadW 5 d_X0_isDone_108 rfl ?_
    refine jo_callV (st := []) (m_X1_turnHalt hs n p2 y1 hp2 M) ok_X1_turnHalt (And.intro (Nat.le_of_ble_eq_true rfl) (Nat.le_of_ble_eq_true rfl)) lm_X0_64 in_X1_turnHalt se_X1_turnHalt rfl hp2 rfl rfl (And.intro (Nat.zero_le _) (Nat.zero_le _)) rfl (Nat.le_of_ble_eq_true rfl) d_X0_isDone_110 (fun _ M16 => ?_)
    refine jo_iconst 1 d_X0_isDone_113 ?_
    exact jo_zret rfl (by decide) d_X0_isDone_114
  refine jo_if (fun c2_19 => ?_) (fun c2_19 => ?_)
  · skip
    refine jo_tabIn 100 d_X0_isDone_16 19 c2_19 (by decide) (by decide) rfl (by decide) ?_
    refine jo_aload 0 d_X0_isDone_100 rfl rfl ?_
    refine jo_aload 1 d_X0_isDone_101 rfl rfl ?_
    refine jo_aload 2 d_X0_isDone_102 rfl rfl ?_
    refine jo_callV (st := []) (m_X0_isSnowDone hs n th p1 p2 hth hp1 hp2 M) ok_X0_isSnowDone (And.intro (Nat.le_of_ble_eq_true rfl) (Nat.le_of_ble_eq_true rfl)) lm_X0_61 in_X0_isSnowDone se_X0_isSnowDone rfl hth rfl rfl (And.intro (Nat.zero_le _) (Nat.zero_le _)) rfl (Nat.le_of_ble_eq_true rfl) d_X0_isDone_103 (fun r17 M18 => ?_)
    exact jo_zretq rfl d_X0_isDone_106
  refine jo_if (fun c2_24 => ?_) (fun c2_24 => ?_)
  · skip
    refine jo_tabIn 125 d_X0_isDone_16 24 c2_24 (by decide) (by decide) rfl (by decide) ?_
    refine jo_aload 0 d_X0_isDone_125 rfl rfl ?_
    refine jo_getR (k := 4) cl_0 (Nat.le_of_ble_eq_true rfl) lk_X0_27 rfl hth (kr_Life_4 hth) d_X0_isDone_126 ?_
    refine jo_iloadW 4 d_X0_isDone_129 rfl ?_
    refine jo_iloadW 5 d_X0_isDone_131 rfl ?_
    refine jo_iast (N := 60) (ka_Life_4 hth) d_X0_isDone_133 (fun M19 => ?_)
    refine jo_iconst 1 d_X0_isDone_134 ?_
    exact jo_zret rfl (by decide) d_X0_isDone_135
  refine jo_if (fun c2_26 => ?_) (fun c2_26 => ?_)
  · skip
    refine jo_tabIn 115 d_X0_isDone_16 26 c2_26 (by decide) (by decide) rfl (by decide) ?_
    refine jo_aload 0 d_X0_isDone_115 rfl rfl ?_
    refine jo_aload 3 d_X0_isDone_116 rfl rfl ?_
    refine jo_getI (k := 2) cl_9 (Nat.le_of_ble_eq_true rfl) lk_X0_31 (Or.inl rfl) hp3 d_X0_isDone_117 ?_
    refine jo_putI (k := 3) cl_0 (Nat.le_of_ble_eq_true rfl) lk_X0_22 rfl rfl hth d_X0_isDone_120 (fun M20 => ?_)
    refine jo_iconst 1 d_X0_isDone_123 ?_
    exact jo_zret rfl (by decide) d_X0_isDone_124
  refine jo_tabAny 181 d_X0_isDone_16 (by rcases (show (jw (M (p3 + 1) (jw x4).toNat) < 14 ∨ 26 < jw (M (p3 + 1) (jw x4).toNat)) ∨ jw (M (p3 + 1) (jw x4).toNat) = 20 ∨ jw (M (p3 + 1) (jw x4).toNat) = 21 ∨ jw (M (p3 + 1) (jw x4).toNat) = 22 ∨ jw (M (p3 + 1) (jw x4).toNat) = 23 ∨ jw (M (p3 + 1) (jw x4).toNat) = 25 by omega) with h | h | h | h | h | h; exact Or.inl h; exact Or.inr ⟨20, h, by decide, by decide, rfl⟩; exact Or.inr ⟨21, h, by decide, by decide, rfl⟩; exact Or.inr ⟨22, h, by decide, by decide, rfl⟩; exact Or.inr ⟨23, h, by decide, by decide, rfl⟩; exact Or.inr ⟨25, h, by decide, by decide, rfl⟩) (by decide) ?_
  exact jO.sub (t_X0_isDone_L181 hs n th p1 p2 p3 hth hp1 hp2 hp3 x4 M) (And.intro rfl (And.intro rfl (And.intro rfl (And.intro rfl True.intro))))
theorem m_X0_isDone {g : JG} {ad : Nat → Nat} (hs : jStr g ad) (n : Nat) (th : Nat) (p1 : Nat) (p2 : Nat) (p3 : Nat) (x4 : Int) (hth : jK jNN (0, 0) th) (hp1 : jK jNN (0, 4) p1) (hp2 : jK jNN (0, 1) p2) (hp3 : jK jNN (0, 9) p3) (M : JMem) : jMet g jNN ad jR D_X0_isDone yX0_isDone [.ref th, .ref p1, .ref p2, .ref p3, ji x4] M (f_X0_isDone n th p1 p2 p3 x4 M) :=
  jMet.of (lo0 := [some (.ref th), some (.ref p1), some (.ref p2), some (.ref p3), some (ji x4), none]) (by decide) rfl rfl (Nat.le_of_ble_eq_true rfl) (And.intro rfl (And.intro rfl (And.intro rfl (And.intro rfl (And.intro rfl True.intro))))) (t_X0_isDone hs n th p1 p2 p3 x4 hth hp1 hp2 hp3 M)
/-! CageLeave$Life.run(LCageLeave$Plan;LCageLeave$Now;LCageLeave$Weeks;I)V -/
def D_X0_run : JD := (RX0, cX0_run, 7, none, "run", { frames := 6, cells := 0, slots := 0, locals := 143 })
theorem ok_X0_run : jOk D_X0_run yX0_run 4 := ⟨jTW_mem (k := 1315) (by decide +kernel) rfl, jTW_mem (k := 150) (by decide +kernel) rfl, ⟨by decide +kernel, by decide +kernel⟩, by decide +kernel, rfl, rfl⟩
theorem in_X0_run : Cond.instanceMethod yX0_run ∈ jTW := jTW_mem (k := 1313) (by decide +kernel) rfl
theorem se_X0_run : Cond.selects yX0_run.cls yX0_run yX0_run ∈ jTW := jTW_mem (k := 1314) (by decide +kernel) rfl
theorem lc_X0_30 : Cond.constant RX0 30 (Int32.ofInt 1000000) ∈ jTW := jTW_mem (k := 1316) (by decide +kernel) rfl
theorem lm_X0_43 : Cond.methodLink RX0 43 yX0_isDone ∈ jTW := jTW_mem (k := 1321) (by decide +kernel) rfl
theorem lm_X0_39 : Cond.methodLink RX0 39 yX0_endRound ∈ jTW := jTW_mem (k := 1317) (by decide +kernel) rfl
theorem d_X0_run_0 : decode (D_X0_run).2.1 0 = .ok (.aload_n 0, 1) := by decide +kernel
theorem d_X0_run_1 : decode (D_X0_run).2.1 1 = .ok (.iconst 0, 1) := by decide +kernel
theorem d_X0_run_2 : decode (D_X0_run).2.1 2 = .ok (.putfield 9, 3) := by decide +kernel
theorem d_X0_run_5 : decode (D_X0_run).2.1 5 = .ok (.aload_n 0, 1) := by decide +kernel
theorem d_X0_run_6 : decode (D_X0_run).2.1 6 = .ok (.iload 4, 2) := by decide +kernel
theorem d_X0_run_8 : decode (D_X0_run).2.1 8 = .ok (.putfield 19, 3) := by decide +kernel
theorem d_X0_run_11 : decode (D_X0_run).2.1 11 = .ok (.aload_n 0, 1) := by decide +kernel
theorem d_X0_run_12 : decode (D_X0_run).2.1 12 = .ok (.iconst 0, 1) := by decide +kernel
theorem d_X0_run_13 : decode (D_X0_run).2.1 13 = .ok (.putfield 22, 3) := by decide +kernel
theorem d_X0_run_16 : decode (D_X0_run).2.1 16 = .ok (.iconst 0, 1) := by decide +kernel
theorem d_X0_run_17 : decode (D_X0_run).2.1 17 = .ok (.istore 5, 2) := by decide +kernel
theorem d_X0_run_19 : decode (D_X0_run).2.1 19 = .ok (.iload 5, 2) := by decide +kernel
theorem d_X0_run_21 : decode (D_X0_run).2.1 21 = .ok (.iconst 5, 1) := by decide +kernel
theorem d_X0_run_22 : decode (D_X0_run).2.1 22 = .ok (.if_icmp .ge 17, 3) := by decide +kernel
theorem d_X0_run_25 : decode (D_X0_run).2.1 25 = .ok (.aload_n 0, 1) := by decide +kernel
theorem d_X0_run_26 : decode (D_X0_run).2.1 26 = .ok (.getfield 15, 3) := by decide +kernel
theorem d_X0_run_29 : decode (D_X0_run).2.1 29 = .ok (.iload 5, 2) := by decide +kernel
theorem d_X0_run_31 : decode (D_X0_run).2.1 31 = .ok (.iconst 0, 1) := by decide +kernel
theorem d_X0_run_32 : decode (D_X0_run).2.1 32 = .ok (.iastore, 1) := by decide +kernel
theorem d_X0_run_33 : decode (D_X0_run).2.1 33 = .ok (.iinc 5 1, 3) := by decide +kernel
theorem d_X0_run_36 : decode (D_X0_run).2.1 36 = .ok (.goto (-17), 3) := by decide +kernel
theorem d_X0_run_39 : decode (D_X0_run).2.1 39 = .ok (.iconst 0, 1) := by decide +kernel
theorem d_X0_run_40 : decode (D_X0_run).2.1 40 = .ok (.istore 5, 2) := by decide +kernel
theorem d_X0_run_42 : decode (D_X0_run).2.1 42 = .ok (.iload 5, 2) := by decide +kernel
theorem d_X0_run_44 : decode (D_X0_run).2.1 44 = .ok (.ldc 30, 2) := by decide +kernel
theorem d_X0_run_46 : decode (D_X0_run).2.1 46 = .ok (.if_icmp .ge 106, 3) := by decide +kernel
theorem d_X0_run_49 : decode (D_X0_run).2.1 49 = .ok (.aload_n 0, 1) := by decide +kernel
theorem d_X0_run_50 : decode (D_X0_run).2.1 50 = .ok (.getfield 22, 3) := by decide +kernel
theorem d_X0_run_53 : decode (D_X0_run).2.1 53 = .ok (.aload_n 3, 1) := by decide +kernel
theorem d_X0_run_54 : decode (D_X0_run).2.1 54 = .ok (.getfield 31, 3) := by decide +kernel
theorem d_X0_run_57 : decode (D_X0_run).2.1 57 = .ok (.if_icmp .ge 95, 3) := by decide +kernel
theorem d_X0_run_60 : decode (D_X0_run).2.1 60 = .ok (.aload_n 0, 1) := by decide +kernel
theorem d_X0_run_61 : decode (D_X0_run).2.1 61 = .ok (.getfield 22, 3) := by decide +kernel
theorem d_X0_run_64 : decode (D_X0_run).2.1 64 = .ok (.istore 6, 2) := by decide +kernel
theorem d_X0_run_66 : decode (D_X0_run).2.1 66 = .ok (.aload_n 0, 1) := by decide +kernel
theorem d_X0_run_67 : decode (D_X0_run).2.1 67 = .ok (.iload 6, 2) := by decide +kernel
theorem d_X0_run_69 : decode (D_X0_run).2.1 69 = .ok (.iconst 1, 1) := by decide +kernel
theorem d_X0_run_70 : decode (D_X0_run).2.1 70 = .ok (.iadd, 1) := by decide +kernel
theorem d_X0_run_71 : decode (D_X0_run).2.1 71 = .ok (.putfield 22, 3) := by decide +kernel
theorem d_X0_run_74 : decode (D_X0_run).2.1 74 = .ok (.aload_n 3, 1) := by decide +kernel
theorem d_X0_run_75 : decode (D_X0_run).2.1 75 = .ok (.getfield 34, 3) := by decide +kernel
theorem d_X0_run_78 : decode (D_X0_run).2.1 78 = .ok (.iload 6, 2) := by decide +kernel
theorem d_X0_run_80 : decode (D_X0_run).2.1 80 = .ok (.iaload, 1) := by decide +kernel
theorem d_X0_run_81 : decode (D_X0_run).2.1 81 = .ok (.bipush 25, 2) := by decide +kernel
theorem d_X0_run_83 : decode (D_X0_run).2.1 83 = .ok (.if_icmp .ne 13, 3) := by decide +kernel
theorem d_X0_run_86 : decode (D_X0_run).2.1 86 = .ok (.aload_n 0, 1) := by decide +kernel
theorem d_X0_run_87 : decode (D_X0_run).2.1 87 = .ok (.aload_n 3, 1) := by decide +kernel
theorem d_X0_run_88 : decode (D_X0_run).2.1 88 = .ok (.iload 6, 2) := by decide +kernel
theorem d_X0_run_90 : decode (D_X0_run).2.1 90 = .ok (.invokevirtual 39, 3) := by decide +kernel
theorem d_X0_run_93 : decode (D_X0_run).2.1 93 = .ok (.goto 53, 3) := by decide +kernel
theorem d_X0_run_96 : decode (D_X0_run).2.1 96 = .ok (.aload_n 0, 1) := by decide +kernel
theorem d_X0_run_97 : decode (D_X0_run).2.1 97 = .ok (.getfield 9, 3) := by decide +kernel
theorem d_X0_run_100 : decode (D_X0_run).2.1 100 = .ok (.sipush 300, 3) := by decide +kernel
theorem d_X0_run_103 : decode (D_X0_run).2.1 103 = .ok (.if_icmp .ne 11, 3) := by decide +kernel
theorem d_X0_run_106 : decode (D_X0_run).2.1 106 = .ok (.aload_n 0, 1) := by decide +kernel
theorem d_X0_run_107 : decode (D_X0_run).2.1 107 = .ok (.getfield 15, 3) := by decide +kernel
theorem d_X0_run_110 : decode (D_X0_run).2.1 110 = .ok (.iconst 4, 1) := by decide +kernel
theorem d_X0_run_111 : decode (D_X0_run).2.1 111 = .ok (.iconst 1, 1) := by decide +kernel
theorem d_X0_run_112 : decode (D_X0_run).2.1 112 = .ok (.iastore, 1) := by decide +kernel
theorem d_X0_run_113 : decode (D_X0_run).2.1 113 = .ok (.return_, 1) := by decide +kernel
theorem d_X0_run_114 : decode (D_X0_run).2.1 114 = .ok (.aload_n 0, 1) := by decide +kernel
theorem d_X0_run_115 : decode (D_X0_run).2.1 115 = .ok (.dup, 1) := by decide +kernel
theorem d_X0_run_116 : decode (D_X0_run).2.1 116 = .ok (.getfield 9, 3) := by decide +kernel
theorem d_X0_run_119 : decode (D_X0_run).2.1 119 = .ok (.iconst 1, 1) := by decide +kernel
theorem d_X0_run_120 : decode (D_X0_run).2.1 120 = .ok (.iadd, 1) := by decide +kernel
theorem d_X0_run_121 : decode (D_X0_run).2.1 121 = .ok (.putfield 9, 3) := by decide +kernel
theorem d_X0_run_124 : decode (D_X0_run).2.1 124 = .ok (.aload_n 0, 1) := by decide +kernel
theorem d_X0_run_125 : decode (D_X0_run).2.1 125 = .ok (.aload_n 1, 1) := by decide +kernel
theorem d_X0_run_126 : decode (D_X0_run).2.1 126 = .ok (.aload_n 2, 1) := by decide +kernel
theorem d_X0_run_127 : decode (D_X0_run).2.1 127 = .ok (.aload_n 3, 1) := by decide +kernel
theorem d_X0_run_128 : decode (D_X0_run).2.1 128 = .ok (.iload 6, 2) := by decide +kernel
theorem d_X0_run_130 : decode (D_X0_run).2.1 130 = .ok (.invokevirtual 43, 3) := by decide +kernel
theorem d_X0_run_133 : decode (D_X0_run).2.1 133 = .ok (.ifCond .ne 13, 3) := by decide +kernel
theorem d_X0_run_136 : decode (D_X0_run).2.1 136 = .ok (.aload_n 0, 1) := by decide +kernel
theorem d_X0_run_137 : decode (D_X0_run).2.1 137 = .ok (.getfield 15, 3) := by decide +kernel
theorem d_X0_run_140 : decode (D_X0_run).2.1 140 = .ok (.iconst 0, 1) := by decide +kernel
theorem d_X0_run_141 : decode (D_X0_run).2.1 141 = .ok (.dup2, 1) := by decide +kernel
theorem d_X0_run_142 : decode (D_X0_run).2.1 142 = .ok (.iaload, 1) := by decide +kernel
theorem d_X0_run_143 : decode (D_X0_run).2.1 143 = .ok (.iconst 1, 1) := by decide +kernel
theorem d_X0_run_144 : decode (D_X0_run).2.1 144 = .ok (.iadd, 1) := by decide +kernel
theorem d_X0_run_145 : decode (D_X0_run).2.1 145 = .ok (.iastore, 1) := by decide +kernel
theorem d_X0_run_146 : decode (D_X0_run).2.1 146 = .ok (.iinc 5 1, 3) := by decide +kernel
theorem d_X0_run_149 : decode (D_X0_run).2.1 149 = .ok (.goto (-107), 3) := by decide +kernel
theorem d_X0_run_152 : decode (D_X0_run).2.1 152 = .ok (.return_, 1) := by decide +kernel
def f_X0_run_L106 (n : Nat) (th : Nat) (p1 : Nat) (p2 : Nat) (p3 : Nat) (M : JMem) : Option (Int × JMem) := chk (jin 4 5) <| letm (jup M (th + 1) (jw 4).toNat 1) fun M1 => some (0, M1)
set_option maxRecDepth 4000 in
theorem t_X0_run_L106 {g : JG} {ad : Nat → Nat} (hs : jStr g ad) (n : Nat) (th : Nat) (p1 : Nat) (p2 : Nat) (p3 : Nat) (hth : jK jNN (0, 0) th) (hp1 : jK jNN (0, 4) p1) (hp2 : jK jNN (0, 1) p2) (hp3 : jK jNN (0, 9) p3) (M : JMem) : jB g D_X0_run ad 106 [some (.ref th), none, none, none, none, none, none] [] M (f_X0_run_L106 n th p1 p2 p3 M) := by
  unfold f_X0_run_L106
  refine jo_aload 0 d_X0_run_106 rfl rfl ?_
  refine jo_getR (k := 1) cl_0 (Nat.le_of_ble_eq_true rfl) lk_X0_15 rfl hth (kr_Life_1 hth) d_X0_run_107 ?_
  refine jo_iconst 4 d_X0_run_110 ?_
  refine jo_iconst 1 d_X0_run_111 ?_
  refine jo_iast (N := 5) (ka_Life_1 hth) d_X0_run_112 (fun M1 => ?_)
  exact jo_vret rfl d_X0_run_113
def f_X0_run_L146 (n : Nat) (th : Nat) (p1 : Nat) (p2 : Nat) (p3 : Nat) (r42 : Int → JMem → Option (Int × JMem)) (v5 : Int) (M : JMem) : Option (Int × JMem) := letv (v5 + 1) fun y1 => r42 y1 M
set_option maxRecDepth 4000 in
theorem t_X0_run_L146 {g : JG} {ad : Nat → Nat} (hs : jStr g ad) (n : Nat) (th : Nat) (p1 : Nat) (p2 : Nat) (p3 : Nat) (hth : jK jNN (0, 0) th) (hp1 : jK jNN (0, 4) p1) (hp2 : jK jNN (0, 1) p2) (hp3 : jK jNN (0, 9) p3) (r42 : Int → JMem → Option (Int × JMem)) (hr42 : ∀ (v5 : Int) (M : JMem), jB g D_X0_run ad 42 [some (.ref th), some (.ref p1), some (.ref p2), some (.ref p3), none, some (ji v5), none] [] M (r42 v5 M)) (v5 : Int) (M : JMem) : jB g D_X0_run ad 146 [some (.ref th), some (.ref p1), some (.ref p2), some (.ref p3), none, some (ji v5), none] [] M (f_X0_run_L146 n th p1 p2 p3 r42 v5 M) := by
  unfold f_X0_run_L146
  refine jo_iinc 5 d_X0_run_146 rfl (Nat.le_of_ble_eq_true rfl) (fun y1 => ?_)
  refine jo_goto 42 d_X0_run_149 (by decide) ?_
  exact jO.sub (hr42 y1 M) (And.intro rfl (And.intro rfl (And.intro rfl (And.intro rfl (And.intro rfl True.intro)))))
def f_X0_run_L42 (n : Nat) (th : Nat) (p1 : Nat) (p2 : Nat) (p3 : Nat) : Nat → Int → JMem → Option (Int × JMem)
  | 0, _, _ => none
  | k + 1, v5, M => if jw 1000000 ≤ jw v5 then (some (0, M)) else (if jw (M p3 2) ≤ jw (M th 3) then (some (0, M)) else (letv (M th 3) fun y1 => letm (jup M th 3 (y1 + 1)) fun M2 => chk (jin y1 60) <| if jw (M2 (p3 + 1) (jw y1).toNat) = jw 25 then (bnd (f_X0_endRound n th p3 y1 M2) fun _ M8 => f_X0_run_L146 n th p1 p2 p3 (f_X0_run_L42 n th p1 p2 p3 k) v5 M8) else (if jw (M2 th 0) = jw 300 then (f_X0_run_L106 n th p1 p2 p3 M2) else (letm (jup M2 th 0 ((M2 th 0) + 1)) fun M3 => bnd (f_X0_isDone n th p1 p2 p3 y1 M3) fun r4 M5 => if jw r4 = 0 then (chk (jin 0 5) <| chk (jin 0 5) <| letm (jup M5 (th + 1) (jw 0).toNat ((M5 (th + 1) (jw 0).toNat) + 1)) fun M6 => f_X0_run_L146 n th p1 p2 p3 (f_X0_run_L42 n th p1 p2 p3 k) v5 M6) else (f_X0_run_L146 n th p1 p2 p3 (f_X0_run_L42 n th p1 p2 p3 k) v5 M5)))))
set_option maxRecDepth 4000 in
theorem t_X0_run_L42 {g : JG} {ad : Nat → Nat} (hs : jStr g ad) (n : Nat) (th : Nat) (p1 : Nat) (p2 : Nat) (p3 : Nat) (hth : jK jNN (0, 0) th) (hp1 : jK jNN (0, 4) p1) (hp2 : jK jNN (0, 1) p2) (hp3 : jK jNN (0, 9) p3) : ∀ (k : Nat) (v5 : Int) (M : JMem), jB g D_X0_run ad 42 [some (.ref th), some (.ref p1), some (.ref p2), some (.ref p3), none, some (ji v5), none] [] M (f_X0_run_L42 n th p1 p2 p3 k v5 M) := by
  intro k
  induction k with
  | zero => intro v5 M; exact jO.none
  | succ k ih =>
    intro v5 M
    rw [f_X0_run_L42]
    refine jo_iloadW 5 d_X0_run_42 rfl ?_
    refine jo_ldc 1000000 lc_X0_30 d_X0_run_44 ?_
    refine jo_icmp_ge 152 d_X0_run_46 (by decide) ?_ ?_
    · skip
      exact jo_vret rfl d_X0_run_152
    · skip
      refine jo_aload 0 d_X0_run_49 rfl rfl ?_
      refine jo_getI (k := 3) cl_0 (Nat.le_of_ble_eq_true rfl) lk_X0_22 (Or.inl rfl) hth d_X0_run_50 ?_
      refine jo_aload 3 d_X0_run_53 rfl rfl ?_
      refine jo_getI (k := 2) cl_9 (Nat.le_of_ble_eq_true rfl) lk_X0_31 (Or.inl rfl) hp3 d_X0_run_54 ?_
      refine jo_icmp_ge 152 d_X0_run_57 (by decide) ?_ ?_
      · skip
        exact jo_vret rfl d_X0_run_152
      · skip
        refine jo_aload 0 d_X0_run_60 rfl rfl ?_
        refine jo_getI (k := 3) cl_0 (Nat.le_of_ble_eq_true rfl) lk_X0_22 (Or.inl rfl) hth d_X0_run_61 ?_
        refine jo_istoreW 6 d_X0_run_64 (Nat.le_of_ble_eq_true rfl) (fun y1 => ?_)
        refine jo_aload 0 d_X0_run_66 rfl rfl ?_
        refine jo_iloadW 6 d_X0_run_67 rfl ?_
        refine jo_iconst 1 d_X0_run_69 ?_
        refine jo_iadd d_X0_run_70 ?_
        refine jo_putI (k := 3) cl_0 (Nat.le_of_ble_eq_true rfl) lk_X0_22 rfl rfl hth d_X0_run_71 (fun M2 => ?_)
        refine jo_aload 3 d_X0_run_74 rfl rfl ?_
        refine jo_getR (k := 3) cl_9 (Nat.le_of_ble_eq_true rfl) lk_X0_34 rfl hp3 (kr_Weeks_3 hp3) d_X0_run_75 ?_
        refine jo_iloadW 6 d_X0_run_78 rfl ?_
        refine jo_iald (N := 60) (ka_Weeks_3 hp3) d_X0_run_80 ?_
        refine jo_bipush 25 d_X0_run_81 (by decide) ?_
        refine jo_icmp_ne 96 d_X0_run_83 (by decide) ?_ ?_
        · skip
          refine jo_aload 0 d_X0_run_96 rfl rfl ?_
          refine jo_getI (k := 0) cl_0 (Nat.le_of_ble_eq_true rfl) lk_X0_9 (Or.inl rfl) hth d_X0_run_97 ?_
          refine jo_sipush 300 d_X0_run_100 (by decide) ?_
          refine jo_icmp_ne 114 d_X0_run_103 (by decide) ?_ ?_
          · skip
            refine jo_aload 0 d_X0_run_114 rfl rfl ?_
            refine jo_dup d_X0_run_115 rfl ?_
            refine jo_getI (k := 0) cl_0 (Nat.le_of_ble_eq_true rfl) lk_X0_9 (Or.inl rfl) hth d_X0_run_116 ?_
            refine jo_iconst 1 d_X0_run_119 ?_
            refine jo_iadd d_X0_run_120 ?_
            refine jo_putI (k := 0) cl_0 (Nat.le_of_ble_eq_true rfl) lk_X0_9 rfl rfl hth d_X0_run_121 (fun M3 => ?_)
            refine jo_aload 0 d_X0_run_124 rfl rfl ?_
            refine jo_aload 1 d_X0_run_125 rfl rfl ?_
            refine jo_aload 2 d_X0_run_126 rfl rfl ?_
            refine jo_aload 3 d_X0_run_127 rfl rfl ?_
            refine jo_iloadW 6 d_X0_run_128 rfl ?_
            refine jo_callV (st := []) (m_X0_isDone hs n th p1 p2 p3 y1 hth hp1 hp2 hp3 M3) ok_X0_isDone (And.intro (Nat.le_of_ble_eq_true rfl) (Nat.le_of_ble_eq_true rfl)) lm_X0_43 in_X0_isDone se_X0_isDone rfl hth rfl rfl (And.intro (Nat.zero_le _) (Nat.zero_le _)) rfl (Nat.le_of_ble_eq_true rfl) d_X0_run_130 (fun r4 M5 => ?_)
            refine jo_if_ne 146 d_X0_run_133 (by decide) ?_ ?_
            · skip
              exact jO.sub (t_X0_run_L146 hs n th p1 p2 p3 hth hp1 hp2 hp3 (f_X0_run_L42 n th p1 p2 p3 k) ih v5 M5) (And.intro rfl (And.intro rfl (And.intro rfl (And.intro rfl (And.intro rfl True.intro)))))
            · skip
              refine jo_aload 0 d_X0_run_136 rfl rfl ?_
              refine jo_getR (k := 1) cl_0 (Nat.le_of_ble_eq_true rfl) lk_X0_15 rfl hth (kr_Life_1 hth) d_X0_run_137 ?_
              refine jo_iconst 0 d_X0_run_140 ?_
              refine jo_dup2 d_X0_run_141 rfl rfl ?_
              refine jo_iald (N := 5) (ka_Life_1 hth) d_X0_run_142 ?_
              refine jo_iconst 1 d_X0_run_143 ?_
              refine jo_iadd d_X0_run_144 ?_
              refine jo_iast (N := 5) (ka_Life_1 hth) d_X0_run_145 (fun M6 => ?_)
              exact jO.sub (t_X0_run_L146 hs n th p1 p2 p3 hth hp1 hp2 hp3 (f_X0_run_L42 n th p1 p2 p3 k) ih v5 M6) (And.intro rfl (And.intro rfl (And.intro rfl (And.intro rfl (And.intro rfl True.intro)))))
          · skip
            exact jO.sub (t_X0_run_L106 hs n th p1 p2 p3 hth hp1 hp2 hp3 M2) (And.intro rfl True.intro)
        · skip
          refine jo_aload 0 d_X0_run_86 rfl rfl ?_
          refine jo_aload 3 d_X0_run_87 rfl rfl ?_
          refine jo_iloadW 6 d_X0_run_88 rfl ?_
          refine jo_callV (st := []) (m_X0_endRound hs n th p3 y1 hth hp3 M2) ok_X0_endRound (And.intro (Nat.le_of_ble_eq_true rfl) (Nat.le_of_ble_eq_true rfl)) lm_X0_39 in_X0_endRound se_X0_endRound rfl hth rfl rfl (And.intro (Nat.zero_le _) (Nat.zero_le _)) rfl (Nat.le_of_ble_eq_true rfl) d_X0_run_90 (fun _ M8 => ?_)
          refine jo_goto 146 d_X0_run_93 (by decide) ?_
          exact jO.sub (t_X0_run_L146 hs n th p1 p2 p3 hth hp1 hp2 hp3 (f_X0_run_L42 n th p1 p2 p3 k) ih v5 M8) (And.intro rfl (And.intro rfl (And.intro rfl (And.intro rfl (And.intro rfl True.intro)))))
def f_X0_run_L39 (n : Nat) (th : Nat) (p1 : Nat) (p2 : Nat) (p3 : Nat) (M : JMem) : Option (Int × JMem) := letv 0 fun y1 => f_X0_run_L42 n th p1 p2 p3 n y1 M
set_option maxRecDepth 4000 in
theorem t_X0_run_L39 {g : JG} {ad : Nat → Nat} (hs : jStr g ad) (n : Nat) (th : Nat) (p1 : Nat) (p2 : Nat) (p3 : Nat) (hth : jK jNN (0, 0) th) (hp1 : jK jNN (0, 4) p1) (hp2 : jK jNN (0, 1) p2) (hp3 : jK jNN (0, 9) p3) (M : JMem) : jB g D_X0_run ad 39 [some (.ref th), some (.ref p1), some (.ref p2), some (.ref p3), none, none, none] [] M (f_X0_run_L39 n th p1 p2 p3 M) := by
  unfold f_X0_run_L39
  refine jo_iconst 0 d_X0_run_39 ?_
  refine jo_istoreW 5 d_X0_run_40 (Nat.le_of_ble_eq_true rfl) (fun y1 => ?_)
  exact jO.sub (t_X0_run_L42 hs n th p1 p2 p3 hth hp1 hp2 hp3 n y1 M) (And.intro rfl (And.intro rfl (And.intro rfl (And.intro rfl (And.intro rfl True.intro)))))
def f_X0_run_L19 (n : Nat) (th : Nat) (p1 : Nat) (p2 : Nat) (p3 : Nat) : Nat → Int → JMem → Option (Int × JMem)
  | 0, _, _ => none
  | k + 1, v5, M => if jw 5 ≤ jw v5 then (f_X0_run_L39 n th p1 p2 p3 M) else (chk (jin v5 5) <| letm (jup M (th + 1) (jw v5).toNat 0) fun M1 => letv (v5 + 1) fun y2 => (f_X0_run_L19 n th p1 p2 p3 k) y2 M1)
set_option maxRecDepth 4000 in
theorem t_X0_run_L19 {g : JG} {ad : Nat → Nat} (hs : jStr g ad) (n : Nat) (th : Nat) (p1 : Nat) (p2 : Nat) (p3 : Nat) (hth : jK jNN (0, 0) th) (hp1 : jK jNN (0, 4) p1) (hp2 : jK jNN (0, 1) p2) (hp3 : jK jNN (0, 9) p3) : ∀ (k : Nat) (v5 : Int) (M : JMem), jB g D_X0_run ad 19 [some (.ref th), some (.ref p1), some (.ref p2), some (.ref p3), none, some (ji v5), none] [] M (f_X0_run_L19 n th p1 p2 p3 k v5 M) := by
  intro k
  induction k with
  | zero => intro v5 M; exact jO.none
  | succ k ih =>
    intro v5 M
    rw [f_X0_run_L19]
    refine jo_iloadW 5 d_X0_run_19 rfl ?_
    refine jo_iconst 5 d_X0_run_21 ?_
    refine jo_icmp_ge 39 d_X0_run_22 (by decide) ?_ ?_
    · skip
      exact jO.sub (t_X0_run_L39 hs n th p1 p2 p3 hth hp1 hp2 hp3 M) (And.intro rfl (And.intro rfl (And.intro rfl (And.intro rfl True.intro))))
    · skip
      refine jo_aload 0 d_X0_run_25 rfl rfl ?_
      refine jo_getR (k := 1) cl_0 (Nat.le_of_ble_eq_true rfl) lk_X0_15 rfl hth (kr_Life_1 hth) d_X0_run_26 ?_
      refine jo_iloadW 5 d_X0_run_29 rfl ?_
      refine jo_iconst 0 d_X0_run_31 ?_
      refine jo_iast (N := 5) (ka_Life_1 hth) d_X0_run_32 (fun M1 => ?_)
      refine jo_iinc 5 d_X0_run_33 rfl (Nat.le_of_ble_eq_true rfl) (fun y2 => ?_)
      refine jo_goto 19 d_X0_run_36 (by decide) ?_
      exact jO.sub (ih y2 M1) (And.intro rfl (And.intro rfl (And.intro rfl (And.intro rfl (And.intro rfl True.intro)))))
def f_X0_run (n : Nat) (th : Nat) (p1 : Nat) (p2 : Nat) (p3 : Nat) (x4 : Int) (M : JMem) : Option (Int × JMem) := letm (jup M th 0 0) fun M1 => letm (jup M1 th 2 x4) fun M2 => letm (jup M2 th 3 0) fun M3 => letv 0 fun y4 => f_X0_run_L19 n th p1 p2 p3 n y4 M3
set_option maxRecDepth 4000 in
theorem t_X0_run {g : JG} {ad : Nat → Nat} (hs : jStr g ad) (n : Nat) (th : Nat) (p1 : Nat) (p2 : Nat) (p3 : Nat) (x4 : Int) (hth : jK jNN (0, 0) th) (hp1 : jK jNN (0, 4) p1) (hp2 : jK jNN (0, 1) p2) (hp3 : jK jNN (0, 9) p3) (M : JMem) : jB g D_X0_run ad 0 [some (.ref th), some (.ref p1), some (.ref p2), some (.ref p3), some (ji x4), none, none] [] M (f_X0_run n th p1 p2 p3 x4 M) := by
  unfold f_X0_run
  refine jo_aload 0 d_X0_run_0 rfl rfl ?_
  refine jo_iconst 0 d_X0_run_1 ?_
  refine jo_putI (k := 0) cl_0 (Nat.le_of_ble_eq_true rfl) lk_X0_9 rfl rfl hth d_X0_run_2 (fun M1 => ?_)
  refine jo_aload 0 d_X0_run_5 rfl rfl ?_
  refine jo_iloadW 4 d_X0_run_6 rfl ?_
  refine jo_putI (k := 2) cl_0 (Nat.le_of_ble_eq_true rfl) lk_X0_19 rfl rfl hth d_X0_run_8 (fun M2 => ?_)
  refine jo_aload 0 d_X0_run_11 rfl rfl ?_
  refine jo_iconst 0 d_X0_run_12 ?_
  refine jo_putI (k := 3) cl_0 (Nat.le_of_ble_eq_true rfl) lk_X0_22 rfl rfl hth d_X0_run_13 (fun M3 => ?_)
  refine jo_iconst 0 d_X0_run_16 ?_
  refine jo_istoreW 5 d_X0_run_17 (Nat.le_of_ble_eq_true rfl) (fun y4 => ?_)
  exact jO.sub (t_X0_run_L19 hs n th p1 p2 p3 hth hp1 hp2 hp3 n y4 M3) (And.intro rfl (And.intro rfl (And.intro rfl (And.intro rfl (And.intro rfl True.intro)))))
theorem m_X0_run {g : JG} {ad : Nat → Nat} (hs : jStr g ad) (n : Nat) (th : Nat) (p1 : Nat) (p2 : Nat) (p3 : Nat) (x4 : Int) (hth : jK jNN (0, 0) th) (hp1 : jK jNN (0, 4) p1) (hp2 : jK jNN (0, 1) p2) (hp3 : jK jNN (0, 9) p3) (M : JMem) : jMet g jNN ad jR D_X0_run yX0_run [.ref th, .ref p1, .ref p2, .ref p3, ji x4] M (f_X0_run n th p1 p2 p3 x4 M) :=
  jMet.of (lo0 := [some (.ref th), some (.ref p1), some (.ref p2), some (.ref p3), some (ji x4), none, none]) (by decide) rfl rfl (Nat.le_of_ble_eq_true rfl) (And.intro rfl (And.intro rfl (And.intro rfl (And.intro rfl (And.intro rfl True.intro))))) (t_X0_run hs n th p1 p2 p3 x4 hth hp1 hp2 hp3 M)
/-! CageLeave$Now.clear(LCageLeave$Plan;)V -/
def D_X1_clear : JD := (RX1, cX1_clear, 3, none, "clear", { frames := 1, cells := 0, slots := 0, locals := 22 })
theorem ok_X1_clear : jOk D_X1_clear yX1_clear 1 := ⟨jTW_mem (k := 792) (by decide +kernel) rfl, jTW_mem (k := 144) (by decide +kernel) rfl, ⟨by decide +kernel, by decide +kernel⟩, by decide +kernel, rfl, rfl⟩
theorem in_X1_clear : Cond.instanceMethod yX1_clear ∈ jTW := jTW_mem (k := 790) (by decide +kernel) rfl
theorem se_X1_clear : Cond.selects yX1_clear.cls yX1_clear yX1_clear ∈ jTW := jTW_mem (k := 791) (by decide +kernel) rfl
theorem d_X1_clear_0 : decode (D_X1_clear).2.1 0 = .ok (.aload_n 0, 1) := by decide +kernel
theorem d_X1_clear_1 : decode (D_X1_clear).2.1 1 = .ok (.iconst 0, 1) := by decide +kernel
theorem d_X1_clear_2 : decode (D_X1_clear).2.1 2 = .ok (.putfield 9, 3) := by decide +kernel
theorem d_X1_clear_5 : decode (D_X1_clear).2.1 5 = .ok (.aload_n 0, 1) := by decide +kernel
theorem d_X1_clear_6 : decode (D_X1_clear).2.1 6 = .ok (.iconst 0, 1) := by decide +kernel
theorem d_X1_clear_7 : decode (D_X1_clear).2.1 7 = .ok (.putfield 18, 3) := by decide +kernel
theorem d_X1_clear_10 : decode (D_X1_clear).2.1 10 = .ok (.aload_n 0, 1) := by decide +kernel
theorem d_X1_clear_11 : decode (D_X1_clear).2.1 11 = .ok (.iconst 0, 1) := by decide +kernel
theorem d_X1_clear_12 : decode (D_X1_clear).2.1 12 = .ok (.putfield 21, 3) := by decide +kernel
theorem d_X1_clear_15 : decode (D_X1_clear).2.1 15 = .ok (.aload_n 0, 1) := by decide +kernel
theorem d_X1_clear_16 : decode (D_X1_clear).2.1 16 = .ok (.iconst 0, 1) := by decide +kernel
theorem d_X1_clear_17 : decode (D_X1_clear).2.1 17 = .ok (.putfield 24, 3) := by decide +kernel
theorem d_X1_clear_20 : decode (D_X1_clear).2.1 20 = .ok (.iconst 0, 1) := by decide +kernel
theorem d_X1_clear_21 : decode (D_X1_clear).2.1 21 = .ok (.istore_n 2, 1) := by decide +kernel
theorem d_X1_clear_22 : decode (D_X1_clear).2.1 22 = .ok (.iload_n 2, 1) := by decide +kernel
theorem d_X1_clear_23 : decode (D_X1_clear).2.1 23 = .ok (.bipush 8, 2) := by decide +kernel
theorem d_X1_clear_25 : decode (D_X1_clear).2.1 25 = .ok (.if_icmp .ge 23, 3) := by decide +kernel
theorem d_X1_clear_28 : decode (D_X1_clear).2.1 28 = .ok (.aload_n 0, 1) := by decide +kernel
theorem d_X1_clear_29 : decode (D_X1_clear).2.1 29 = .ok (.getfield 27, 3) := by decide +kernel
theorem d_X1_clear_32 : decode (D_X1_clear).2.1 32 = .ok (.iload_n 2, 1) := by decide +kernel
theorem d_X1_clear_33 : decode (D_X1_clear).2.1 33 = .ok (.iconst 0, 1) := by decide +kernel
theorem d_X1_clear_34 : decode (D_X1_clear).2.1 34 = .ok (.iastore, 1) := by decide +kernel
theorem d_X1_clear_35 : decode (D_X1_clear).2.1 35 = .ok (.aload_n 0, 1) := by decide +kernel
theorem d_X1_clear_36 : decode (D_X1_clear).2.1 36 = .ok (.getfield 31, 3) := by decide +kernel
theorem d_X1_clear_39 : decode (D_X1_clear).2.1 39 = .ok (.iload_n 2, 1) := by decide +kernel
theorem d_X1_clear_40 : decode (D_X1_clear).2.1 40 = .ok (.iconst 0, 1) := by decide +kernel
theorem d_X1_clear_41 : decode (D_X1_clear).2.1 41 = .ok (.iastore, 1) := by decide +kernel
theorem d_X1_clear_42 : decode (D_X1_clear).2.1 42 = .ok (.iinc 2 1, 3) := by decide +kernel
theorem d_X1_clear_45 : decode (D_X1_clear).2.1 45 = .ok (.goto (-23), 3) := by decide +kernel
theorem d_X1_clear_48 : decode (D_X1_clear).2.1 48 = .ok (.aload_n 0, 1) := by decide +kernel
theorem d_X1_clear_49 : decode (D_X1_clear).2.1 49 = .ok (.aload_n 1, 1) := by decide +kernel
theorem d_X1_clear_50 : decode (D_X1_clear).2.1 50 = .ok (.invokevirtual 55, 3) := by decide +kernel
theorem d_X1_clear_53 : decode (D_X1_clear).2.1 53 = .ok (.return_, 1) := by decide +kernel
def f_X1_clear_L48 (n : Nat) (th : Nat) (p1 : Nat) (M : JMem) : Option (Int × JMem) := bnd (f_X1_cageAll n th p1 M) fun _ M2 => some (0, M2)
set_option maxRecDepth 4000 in
theorem t_X1_clear_L48 {g : JG} {ad : Nat → Nat} (hs : jStr g ad) (n : Nat) (th : Nat) (p1 : Nat) (hth : jK jNN (0, 1) th) (hp1 : jK jNN (0, 4) p1) (M : JMem) : jB g D_X1_clear ad 48 [some (.ref th), some (.ref p1), none] [] M (f_X1_clear_L48 n th p1 M) := by
  unfold f_X1_clear_L48
  refine jo_aload 0 d_X1_clear_48 rfl rfl ?_
  refine jo_aload 1 d_X1_clear_49 rfl rfl ?_
  refine jo_callV (st := []) (m_X1_cageAll hs n th p1 hth hp1 M) ok_X1_cageAll (And.intro (Nat.le_of_ble_eq_true rfl) (Nat.le_of_ble_eq_true rfl)) lm_X1_55 in_X1_cageAll se_X1_cageAll rfl hth rfl rfl (And.intro (Nat.zero_le _) (Nat.zero_le _)) rfl (Nat.le_of_ble_eq_true rfl) d_X1_clear_50 (fun _ M2 => ?_)
  exact jo_vret rfl d_X1_clear_53
def f_X1_clear_L22 (n : Nat) (th : Nat) (p1 : Nat) : Nat → Int → JMem → Option (Int × JMem)
  | 0, _, _ => none
  | k + 1, v2, M => if jw 8 ≤ jw v2 then (f_X1_clear_L48 n th p1 M) else (chk (jin v2 8) <| letm (jup M (th + 1) (jw v2).toNat 0) fun M1 => chk (jin v2 8) <| letm (jup M1 (th + 2) (jw v2).toNat 0) fun M2 => letv (v2 + 1) fun y3 => (f_X1_clear_L22 n th p1 k) y3 M2)
set_option maxRecDepth 4000 in
theorem t_X1_clear_L22 {g : JG} {ad : Nat → Nat} (hs : jStr g ad) (n : Nat) (th : Nat) (p1 : Nat) (hth : jK jNN (0, 1) th) (hp1 : jK jNN (0, 4) p1) : ∀ (k : Nat) (v2 : Int) (M : JMem), jB g D_X1_clear ad 22 [some (.ref th), some (.ref p1), some (ji v2)] [] M (f_X1_clear_L22 n th p1 k v2 M) := by
  intro k
  induction k with
  | zero => intro v2 M; exact jO.none
  | succ k ih =>
    intro v2 M
    rw [f_X1_clear_L22]
    refine jo_iload 2 d_X1_clear_22 rfl rfl ?_
    refine jo_bipush 8 d_X1_clear_23 (by decide) ?_
    refine jo_icmp_ge 48 d_X1_clear_25 (by decide) ?_ ?_
    · skip
      exact jO.sub (t_X1_clear_L48 hs n th p1 hth hp1 M) (And.intro rfl (And.intro rfl True.intro))
    · skip
      refine jo_aload 0 d_X1_clear_28 rfl rfl ?_
      refine jo_getR (k := 5) cl_1 (Nat.le_of_ble_eq_true rfl) lk_X1_27 rfl hth (kr_Now_5 hth) d_X1_clear_29 ?_
      refine jo_iload 2 d_X1_clear_32 rfl rfl ?_
      refine jo_iconst 0 d_X1_clear_33 ?_
      refine jo_iast (N := 8) (ka_Now_5 hth) d_X1_clear_34 (fun M1 => ?_)
      refine jo_aload 0 d_X1_clear_35 rfl rfl ?_
      refine jo_getR (k := 6) cl_1 (Nat.le_of_ble_eq_true rfl) lk_X1_31 rfl hth (kr_Now_6 hth) d_X1_clear_36 ?_
      refine jo_iload 2 d_X1_clear_39 rfl rfl ?_
      refine jo_iconst 0 d_X1_clear_40 ?_
      refine jo_iast (N := 8) (ka_Now_6 hth) d_X1_clear_41 (fun M2 => ?_)
      refine jo_iinc 2 d_X1_clear_42 rfl (Nat.le_of_ble_eq_true rfl) (fun y3 => ?_)
      refine jo_goto 22 d_X1_clear_45 (by decide) ?_
      exact jO.sub (ih y3 M2) (And.intro rfl (And.intro rfl (And.intro rfl True.intro)))
def f_X1_clear (n : Nat) (th : Nat) (p1 : Nat) (M : JMem) : Option (Int × JMem) := letm (jup M th 0 0) fun M1 => letm (jup M1 th 2 0) fun M2 => letm (jup M2 th 3 0) fun M3 => letm (jup M3 th 4 0) fun M4 => letv 0 fun y5 => f_X1_clear_L22 n th p1 n y5 M4
set_option maxRecDepth 4000 in
theorem t_X1_clear {g : JG} {ad : Nat → Nat} (hs : jStr g ad) (n : Nat) (th : Nat) (p1 : Nat) (hth : jK jNN (0, 1) th) (hp1 : jK jNN (0, 4) p1) (M : JMem) : jB g D_X1_clear ad 0 [some (.ref th), some (.ref p1), none] [] M (f_X1_clear n th p1 M) := by
  unfold f_X1_clear
  refine jo_aload 0 d_X1_clear_0 rfl rfl ?_
  refine jo_iconst 0 d_X1_clear_1 ?_
  refine jo_putI (k := 0) cl_1 (Nat.le_of_ble_eq_true rfl) lk_X1_9 rfl rfl hth d_X1_clear_2 (fun M1 => ?_)
  refine jo_aload 0 d_X1_clear_5 rfl rfl ?_
  refine jo_iconst 0 d_X1_clear_6 ?_
  refine jo_putI (k := 2) cl_1 (Nat.le_of_ble_eq_true rfl) lk_X1_18 rfl rfl hth d_X1_clear_7 (fun M2 => ?_)
  refine jo_aload 0 d_X1_clear_10 rfl rfl ?_
  refine jo_iconst 0 d_X1_clear_11 ?_
  refine jo_putI (k := 3) cl_1 (Nat.le_of_ble_eq_true rfl) lk_X1_21 rfl rfl hth d_X1_clear_12 (fun M3 => ?_)
  refine jo_aload 0 d_X1_clear_15 rfl rfl ?_
  refine jo_iconst 0 d_X1_clear_16 ?_
  refine jo_putI (k := 4) cl_1 (Nat.le_of_ble_eq_true rfl) lk_X1_24 rfl rfl hth d_X1_clear_17 (fun M4 => ?_)
  refine jo_iconst 0 d_X1_clear_20 ?_
  refine jo_istore 2 d_X1_clear_21 rfl (Nat.le_of_ble_eq_true rfl) (fun y5 => ?_)
  exact jO.sub (t_X1_clear_L22 hs n th p1 hth hp1 n y5 M4) (And.intro rfl (And.intro rfl (And.intro rfl True.intro)))
theorem m_X1_clear {g : JG} {ad : Nat → Nat} (hs : jStr g ad) (n : Nat) (th : Nat) (p1 : Nat) (hth : jK jNN (0, 1) th) (hp1 : jK jNN (0, 4) p1) (M : JMem) : jMet g jNN ad jR D_X1_clear yX1_clear [.ref th, .ref p1] M (f_X1_clear n th p1 M) :=
  jMet.of (lo0 := [some (.ref th), some (.ref p1), none]) (by decide) rfl rfl (Nat.le_of_ble_eq_true rfl) (And.intro rfl (And.intro rfl True.intro)) (t_X1_clear hs n th p1 hth hp1 M)
/-! CageLeave$Now.copyFrom(LCageLeave$Now;)V -/
def D_X1_copyFrom : JD := (RX1, cX1_copyFrom, 2, none, "copyFrom", { frames := 1, cells := 0, slots := 0, locals := 60 })
theorem ok_X1_copyFrom : jOk D_X1_copyFrom yX1_copyFrom 1 := ⟨jTW_mem (k := 881) (by decide +kernel) rfl, jTW_mem (k := 144) (by decide +kernel) rfl, ⟨by decide +kernel, by decide +kernel⟩, by decide +kernel, rfl, rfl⟩
theorem in_X1_copyFrom : Cond.instanceMethod yX1_copyFrom ∈ jTW := jTW_mem (k := 879) (by decide +kernel) rfl
theorem se_X1_copyFrom : Cond.selects yX1_copyFrom.cls yX1_copyFrom yX1_copyFrom ∈ jTW := jTW_mem (k := 880) (by decide +kernel) rfl
theorem lm_X1_49 : Cond.methodLink RX1 49 arraycopyName ∈ jTW := jTW_mem (k := 882) (by decide +kernel) rfl
theorem d_X1_copyFrom_0 : decode (D_X1_copyFrom).2.1 0 = .ok (.aload_n 0, 1) := by decide +kernel
theorem d_X1_copyFrom_1 : decode (D_X1_copyFrom).2.1 1 = .ok (.aload_n 1, 1) := by decide +kernel
theorem d_X1_copyFrom_2 : decode (D_X1_copyFrom).2.1 2 = .ok (.getfield 9, 3) := by decide +kernel
theorem d_X1_copyFrom_5 : decode (D_X1_copyFrom).2.1 5 = .ok (.putfield 9, 3) := by decide +kernel
theorem d_X1_copyFrom_8 : decode (D_X1_copyFrom).2.1 8 = .ok (.aload_n 0, 1) := by decide +kernel
theorem d_X1_copyFrom_9 : decode (D_X1_copyFrom).2.1 9 = .ok (.aload_n 1, 1) := by decide +kernel
theorem d_X1_copyFrom_10 : decode (D_X1_copyFrom).2.1 10 = .ok (.getfield 15, 3) := by decide +kernel
theorem d_X1_copyFrom_13 : decode (D_X1_copyFrom).2.1 13 = .ok (.putfield 15, 3) := by decide +kernel
theorem d_X1_copyFrom_16 : decode (D_X1_copyFrom).2.1 16 = .ok (.aload_n 0, 1) := by decide +kernel
theorem d_X1_copyFrom_17 : decode (D_X1_copyFrom).2.1 17 = .ok (.aload_n 1, 1) := by decide +kernel
theorem d_X1_copyFrom_18 : decode (D_X1_copyFrom).2.1 18 = .ok (.getfield 18, 3) := by decide +kernel
theorem d_X1_copyFrom_21 : decode (D_X1_copyFrom).2.1 21 = .ok (.putfield 18, 3) := by decide +kernel
theorem d_X1_copyFrom_24 : decode (D_X1_copyFrom).2.1 24 = .ok (.aload_n 0, 1) := by decide +kernel
theorem d_X1_copyFrom_25 : decode (D_X1_copyFrom).2.1 25 = .ok (.aload_n 1, 1) := by decide +kernel
theorem d_X1_copyFrom_26 : decode (D_X1_copyFrom).2.1 26 = .ok (.getfield 21, 3) := by decide +kernel
theorem d_X1_copyFrom_29 : decode (D_X1_copyFrom).2.1 29 = .ok (.putfield 21, 3) := by decide +kernel
theorem d_X1_copyFrom_32 : decode (D_X1_copyFrom).2.1 32 = .ok (.aload_n 0, 1) := by decide +kernel
theorem d_X1_copyFrom_33 : decode (D_X1_copyFrom).2.1 33 = .ok (.aload_n 1, 1) := by decide +kernel
theorem d_X1_copyFrom_34 : decode (D_X1_copyFrom).2.1 34 = .ok (.getfield 24, 3) := by decide +kernel
theorem d_X1_copyFrom_37 : decode (D_X1_copyFrom).2.1 37 = .ok (.putfield 24, 3) := by decide +kernel
theorem d_X1_copyFrom_40 : decode (D_X1_copyFrom).2.1 40 = .ok (.aload_n 1, 1) := by decide +kernel
theorem d_X1_copyFrom_41 : decode (D_X1_copyFrom).2.1 41 = .ok (.getfield 27, 3) := by decide +kernel
theorem d_X1_copyFrom_44 : decode (D_X1_copyFrom).2.1 44 = .ok (.iconst 0, 1) := by decide +kernel
theorem d_X1_copyFrom_45 : decode (D_X1_copyFrom).2.1 45 = .ok (.aload_n 0, 1) := by decide +kernel
theorem d_X1_copyFrom_46 : decode (D_X1_copyFrom).2.1 46 = .ok (.getfield 27, 3) := by decide +kernel
theorem d_X1_copyFrom_49 : decode (D_X1_copyFrom).2.1 49 = .ok (.iconst 0, 1) := by decide +kernel
theorem d_X1_copyFrom_50 : decode (D_X1_copyFrom).2.1 50 = .ok (.bipush 8, 2) := by decide +kernel
theorem d_X1_copyFrom_52 : decode (D_X1_copyFrom).2.1 52 = .ok (.invokestatic 49, 3) := by decide +kernel
theorem d_X1_copyFrom_55 : decode (D_X1_copyFrom).2.1 55 = .ok (.aload_n 1, 1) := by decide +kernel
theorem d_X1_copyFrom_56 : decode (D_X1_copyFrom).2.1 56 = .ok (.getfield 31, 3) := by decide +kernel
theorem d_X1_copyFrom_59 : decode (D_X1_copyFrom).2.1 59 = .ok (.iconst 0, 1) := by decide +kernel
theorem d_X1_copyFrom_60 : decode (D_X1_copyFrom).2.1 60 = .ok (.aload_n 0, 1) := by decide +kernel
theorem d_X1_copyFrom_61 : decode (D_X1_copyFrom).2.1 61 = .ok (.getfield 31, 3) := by decide +kernel
theorem d_X1_copyFrom_64 : decode (D_X1_copyFrom).2.1 64 = .ok (.iconst 0, 1) := by decide +kernel
theorem d_X1_copyFrom_65 : decode (D_X1_copyFrom).2.1 65 = .ok (.bipush 8, 2) := by decide +kernel
theorem d_X1_copyFrom_67 : decode (D_X1_copyFrom).2.1 67 = .ok (.invokestatic 49, 3) := by decide +kernel
theorem d_X1_copyFrom_70 : decode (D_X1_copyFrom).2.1 70 = .ok (.aload_n 1, 1) := by decide +kernel
theorem d_X1_copyFrom_71 : decode (D_X1_copyFrom).2.1 71 = .ok (.getfield 34, 3) := by decide +kernel
theorem d_X1_copyFrom_74 : decode (D_X1_copyFrom).2.1 74 = .ok (.iconst 0, 1) := by decide +kernel
theorem d_X1_copyFrom_75 : decode (D_X1_copyFrom).2.1 75 = .ok (.aload_n 0, 1) := by decide +kernel
theorem d_X1_copyFrom_76 : decode (D_X1_copyFrom).2.1 76 = .ok (.getfield 34, 3) := by decide +kernel
theorem d_X1_copyFrom_79 : decode (D_X1_copyFrom).2.1 79 = .ok (.iconst 0, 1) := by decide +kernel
theorem d_X1_copyFrom_80 : decode (D_X1_copyFrom).2.1 80 = .ok (.bipush 6, 2) := by decide +kernel
theorem d_X1_copyFrom_82 : decode (D_X1_copyFrom).2.1 82 = .ok (.invokestatic 49, 3) := by decide +kernel
theorem d_X1_copyFrom_85 : decode (D_X1_copyFrom).2.1 85 = .ok (.aload_n 1, 1) := by decide +kernel
theorem d_X1_copyFrom_86 : decode (D_X1_copyFrom).2.1 86 = .ok (.getfield 37, 3) := by decide +kernel
theorem d_X1_copyFrom_89 : decode (D_X1_copyFrom).2.1 89 = .ok (.iconst 0, 1) := by decide +kernel
theorem d_X1_copyFrom_90 : decode (D_X1_copyFrom).2.1 90 = .ok (.aload_n 0, 1) := by decide +kernel
theorem d_X1_copyFrom_91 : decode (D_X1_copyFrom).2.1 91 = .ok (.getfield 37, 3) := by decide +kernel
theorem d_X1_copyFrom_94 : decode (D_X1_copyFrom).2.1 94 = .ok (.iconst 0, 1) := by decide +kernel
theorem d_X1_copyFrom_95 : decode (D_X1_copyFrom).2.1 95 = .ok (.bipush 8, 2) := by decide +kernel
theorem d_X1_copyFrom_97 : decode (D_X1_copyFrom).2.1 97 = .ok (.invokestatic 49, 3) := by decide +kernel
theorem d_X1_copyFrom_100 : decode (D_X1_copyFrom).2.1 100 = .ok (.aload_n 1, 1) := by decide +kernel
theorem d_X1_copyFrom_101 : decode (D_X1_copyFrom).2.1 101 = .ok (.getfield 40, 3) := by decide +kernel
theorem d_X1_copyFrom_104 : decode (D_X1_copyFrom).2.1 104 = .ok (.iconst 0, 1) := by decide +kernel
theorem d_X1_copyFrom_105 : decode (D_X1_copyFrom).2.1 105 = .ok (.aload_n 0, 1) := by decide +kernel
theorem d_X1_copyFrom_106 : decode (D_X1_copyFrom).2.1 106 = .ok (.getfield 40, 3) := by decide +kernel
theorem d_X1_copyFrom_109 : decode (D_X1_copyFrom).2.1 109 = .ok (.iconst 0, 1) := by decide +kernel
theorem d_X1_copyFrom_110 : decode (D_X1_copyFrom).2.1 110 = .ok (.bipush 8, 2) := by decide +kernel
theorem d_X1_copyFrom_112 : decode (D_X1_copyFrom).2.1 112 = .ok (.invokestatic 49, 3) := by decide +kernel
theorem d_X1_copyFrom_115 : decode (D_X1_copyFrom).2.1 115 = .ok (.aload_n 1, 1) := by decide +kernel
theorem d_X1_copyFrom_116 : decode (D_X1_copyFrom).2.1 116 = .ok (.getfield 43, 3) := by decide +kernel
theorem d_X1_copyFrom_119 : decode (D_X1_copyFrom).2.1 119 = .ok (.iconst 0, 1) := by decide +kernel
theorem d_X1_copyFrom_120 : decode (D_X1_copyFrom).2.1 120 = .ok (.aload_n 0, 1) := by decide +kernel
theorem d_X1_copyFrom_121 : decode (D_X1_copyFrom).2.1 121 = .ok (.getfield 43, 3) := by decide +kernel
theorem d_X1_copyFrom_124 : decode (D_X1_copyFrom).2.1 124 = .ok (.iconst 0, 1) := by decide +kernel
theorem d_X1_copyFrom_125 : decode (D_X1_copyFrom).2.1 125 = .ok (.bipush 8, 2) := by decide +kernel
theorem d_X1_copyFrom_127 : decode (D_X1_copyFrom).2.1 127 = .ok (.invokestatic 49, 3) := by decide +kernel
theorem d_X1_copyFrom_130 : decode (D_X1_copyFrom).2.1 130 = .ok (.aload_n 1, 1) := by decide +kernel
theorem d_X1_copyFrom_131 : decode (D_X1_copyFrom).2.1 131 = .ok (.getfield 46, 3) := by decide +kernel
theorem d_X1_copyFrom_134 : decode (D_X1_copyFrom).2.1 134 = .ok (.iconst 0, 1) := by decide +kernel
theorem d_X1_copyFrom_135 : decode (D_X1_copyFrom).2.1 135 = .ok (.aload_n 0, 1) := by decide +kernel
theorem d_X1_copyFrom_136 : decode (D_X1_copyFrom).2.1 136 = .ok (.getfield 46, 3) := by decide +kernel
theorem d_X1_copyFrom_139 : decode (D_X1_copyFrom).2.1 139 = .ok (.iconst 0, 1) := by decide +kernel
theorem d_X1_copyFrom_140 : decode (D_X1_copyFrom).2.1 140 = .ok (.bipush 8, 2) := by decide +kernel
theorem d_X1_copyFrom_142 : decode (D_X1_copyFrom).2.1 142 = .ok (.invokestatic 49, 3) := by decide +kernel
theorem d_X1_copyFrom_145 : decode (D_X1_copyFrom).2.1 145 = .ok (.return_, 1) := by decide +kernel
def f_X1_copyFrom (n : Nat) (th : Nat) (p1 : Nat) (M : JMem) : Option (Int × JMem) := letm (jup M th 0 (M p1 0)) fun M1 => letm (jup M1 th 1 (M1 p1 1)) fun M2 => letm (jup M2 th 2 (M2 p1 2)) fun M3 => letm (jup M3 th 3 (M3 p1 3)) fun M4 => letm (jup M4 th 4 (M4 p1 4)) fun M5 => chk (jcpok 0 0 8 8 8) <| letm (jcpy M5 (p1 + 1) 0 (th + 1) 0 8) fun M6 => chk (jcpok 0 0 8 8 8) <| letm (jcpy M6 (p1 + 2) 0 (th + 2) 0 8) fun M7 => chk (jcpok 0 0 6 6 6) <| letm (jcpy M7 (p1 + 3) 0 (th + 3) 0 6) fun M8 => chk (jcpok 0 0 8 8 8) <| letm (jcpy M8 (p1 + 4) 0 (th + 4) 0 8) fun M9 => chk (jcpok 0 0 8 8 8) <| letm (jcpy M9 (p1 + 5) 0 (th + 5) 0 8) fun M10 => chk (jcpok 0 0 8 8 8) <| letm (jcpy M10 (p1 + 6) 0 (th + 6) 0 8) fun M11 => chk (jcpok 0 0 8 8 8) <| letm (jcpy M11 (p1 + 7) 0 (th + 7) 0 8) fun M12 => some (0, M12)
set_option maxRecDepth 4000 in
theorem t_X1_copyFrom {g : JG} {ad : Nat → Nat} (hs : jStr g ad) (n : Nat) (th : Nat) (p1 : Nat) (hth : jK jNN (0, 1) th) (hp1 : jK jNN (0, 1) p1) (M : JMem) : jB g D_X1_copyFrom ad 0 [some (.ref th), some (.ref p1)] [] M (f_X1_copyFrom n th p1 M) := by
  unfold f_X1_copyFrom
  refine jo_aload 0 d_X1_copyFrom_0 rfl rfl ?_
  refine jo_aload 1 d_X1_copyFrom_1 rfl rfl ?_
  refine jo_getI (k := 0) cl_1 (Nat.le_of_ble_eq_true rfl) lk_X1_9 (Or.inl rfl) hp1 d_X1_copyFrom_2 ?_
  refine jo_putI (k := 0) cl_1 (Nat.le_of_ble_eq_true rfl) lk_X1_9 rfl rfl hth d_X1_copyFrom_5 (fun M1 => ?_)
  refine jo_aload 0 d_X1_copyFrom_8 rfl rfl ?_
  refine jo_aload 1 d_X1_copyFrom_9 rfl rfl ?_
  refine jo_getI (k := 1) cl_1 (Nat.le_of_ble_eq_true rfl) lk_X1_15 (Or.inl rfl) hp1 d_X1_copyFrom_10 ?_
  refine jo_putI (k := 1) cl_1 (Nat.le_of_ble_eq_true rfl) lk_X1_15 rfl rfl hth d_X1_copyFrom_13 (fun M2 => ?_)
  refine jo_aload 0 d_X1_copyFrom_16 rfl rfl ?_
  refine jo_aload 1 d_X1_copyFrom_17 rfl rfl ?_
  refine jo_getI (k := 2) cl_1 (Nat.le_of_ble_eq_true rfl) lk_X1_18 (Or.inl rfl) hp1 d_X1_copyFrom_18 ?_
  refine jo_putI (k := 2) cl_1 (Nat.le_of_ble_eq_true rfl) lk_X1_18 rfl rfl hth d_X1_copyFrom_21 (fun M3 => ?_)
  refine jo_aload 0 d_X1_copyFrom_24 rfl rfl ?_
  refine jo_aload 1 d_X1_copyFrom_25 rfl rfl ?_
  refine jo_getI (k := 3) cl_1 (Nat.le_of_ble_eq_true rfl) lk_X1_21 (Or.inl rfl) hp1 d_X1_copyFrom_26 ?_
  refine jo_putI (k := 3) cl_1 (Nat.le_of_ble_eq_true rfl) lk_X1_21 rfl rfl hth d_X1_copyFrom_29 (fun M4 => ?_)
  refine jo_aload 0 d_X1_copyFrom_32 rfl rfl ?_
  refine jo_aload 1 d_X1_copyFrom_33 rfl rfl ?_
  refine jo_getI (k := 4) cl_1 (Nat.le_of_ble_eq_true rfl) lk_X1_24 (Or.inl rfl) hp1 d_X1_copyFrom_34 ?_
  refine jo_putI (k := 4) cl_1 (Nat.le_of_ble_eq_true rfl) lk_X1_24 rfl rfl hth d_X1_copyFrom_37 (fun M5 => ?_)
  refine jo_aload 1 d_X1_copyFrom_40 rfl rfl ?_
  refine jo_getR (k := 5) cl_1 (Nat.le_of_ble_eq_true rfl) lk_X1_27 rfl hp1 (kr_Now_5 hp1) d_X1_copyFrom_41 ?_
  refine jo_iconst 0 d_X1_copyFrom_44 ?_
  refine jo_aload 0 d_X1_copyFrom_45 rfl rfl ?_
  refine jo_getR (k := 5) cl_1 (Nat.le_of_ble_eq_true rfl) lk_X1_27 rfl hth (kr_Now_5 hth) d_X1_copyFrom_46 ?_
  refine jo_iconst 0 d_X1_copyFrom_49 ?_
  refine jo_bipush 8 d_X1_copyFrom_50 (by decide) ?_
  refine jo_cpyI lm_X1_49 (ka_Now_5 hp1) (ka_Now_5 hth) (Nat.le_of_ble_eq_true rfl) (Nat.le_of_ble_eq_true rfl) d_X1_copyFrom_52 (fun M6 => ?_)
  refine jo_aload 1 d_X1_copyFrom_55 rfl rfl ?_
  refine jo_getR (k := 6) cl_1 (Nat.le_of_ble_eq_true rfl) lk_X1_31 rfl hp1 (kr_Now_6 hp1) d_X1_copyFrom_56 ?_
  refine jo_iconst 0 d_X1_copyFrom_59 ?_
  refine jo_aload 0 d_X1_copyFrom_60 rfl rfl ?_
  refine jo_getR (k := 6) cl_1 (Nat.le_of_ble_eq_true rfl) lk_X1_31 rfl hth (kr_Now_6 hth) d_X1_copyFrom_61 ?_
  refine jo_iconst 0 d_X1_copyFrom_64 ?_
  refine jo_bipush 8 d_X1_copyFrom_65 (by decide) ?_
  refine jo_cpyI lm_X1_49 (ka_Now_6 hp1) (ka_Now_6 hth) (Nat.le_of_ble_eq_true rfl) (Nat.le_of_ble_eq_true rfl) d_X1_copyFrom_67 (fun M7 => ?_)
  refine jo_aload 1 d_X1_copyFrom_70 rfl rfl ?_
  refine jo_getR (k := 7) cl_1 (Nat.le_of_ble_eq_true rfl) lk_X1_34 rfl hp1 (kr_Now_7 hp1) d_X1_copyFrom_71 ?_
  refine jo_iconst 0 d_X1_copyFrom_74 ?_
  refine jo_aload 0 d_X1_copyFrom_75 rfl rfl ?_
  refine jo_getR (k := 7) cl_1 (Nat.le_of_ble_eq_true rfl) lk_X1_34 rfl hth (kr_Now_7 hth) d_X1_copyFrom_76 ?_
  refine jo_iconst 0 d_X1_copyFrom_79 ?_
  refine jo_bipush 6 d_X1_copyFrom_80 (by decide) ?_
  refine jo_cpyI lm_X1_49 (ka_Now_7 hp1) (ka_Now_7 hth) (Nat.le_of_ble_eq_true rfl) (Nat.le_of_ble_eq_true rfl) d_X1_copyFrom_82 (fun M8 => ?_)
  refine jo_aload 1 d_X1_copyFrom_85 rfl rfl ?_
  refine jo_getR (k := 8) cl_1 (Nat.le_of_ble_eq_true rfl) lk_X1_37 rfl hp1 (kr_Now_8 hp1) d_X1_copyFrom_86 ?_
  refine jo_iconst 0 d_X1_copyFrom_89 ?_
  refine jo_aload 0 d_X1_copyFrom_90 rfl rfl ?_
  refine jo_getR (k := 8) cl_1 (Nat.le_of_ble_eq_true rfl) lk_X1_37 rfl hth (kr_Now_8 hth) d_X1_copyFrom_91 ?_
  refine jo_iconst 0 d_X1_copyFrom_94 ?_
  refine jo_bipush 8 d_X1_copyFrom_95 (by decide) ?_
  refine jo_cpyI lm_X1_49 (ka_Now_8 hp1) (ka_Now_8 hth) (Nat.le_of_ble_eq_true rfl) (Nat.le_of_ble_eq_true rfl) d_X1_copyFrom_97 (fun M9 => ?_)
  refine jo_aload 1 d_X1_copyFrom_100 rfl rfl ?_
  refine jo_getR (k := 9) cl_1 (Nat.le_of_ble_eq_true rfl) lk_X1_40 rfl hp1 (kr_Now_9 hp1) d_X1_copyFrom_101 ?_
  refine jo_iconst 0 d_X1_copyFrom_104 ?_
  refine jo_aload 0 d_X1_copyFrom_105 rfl rfl ?_
  refine jo_getR (k := 9) cl_1 (Nat.le_of_ble_eq_true rfl) lk_X1_40 rfl hth (kr_Now_9 hth) d_X1_copyFrom_106 ?_
  refine jo_iconst 0 d_X1_copyFrom_109 ?_
  refine jo_bipush 8 d_X1_copyFrom_110 (by decide) ?_
  refine jo_cpyI lm_X1_49 (ka_Now_9 hp1) (ka_Now_9 hth) (Nat.le_of_ble_eq_true rfl) (Nat.le_of_ble_eq_true rfl) d_X1_copyFrom_112 (fun M10 => ?_)
  refine jo_aload 1 d_X1_copyFrom_115 rfl rfl ?_
  refine jo_getR (k := 10) cl_1 (Nat.le_of_ble_eq_true rfl) lk_X1_43 rfl hp1 (kr_Now_10 hp1) d_X1_copyFrom_116 ?_
  refine jo_iconst 0 d_X1_copyFrom_119 ?_
  refine jo_aload 0 d_X1_copyFrom_120 rfl rfl ?_
  refine jo_getR (k := 10) cl_1 (Nat.le_of_ble_eq_true rfl) lk_X1_43 rfl hth (kr_Now_10 hth) d_X1_copyFrom_121 ?_
  refine jo_iconst 0 d_X1_copyFrom_124 ?_
  refine jo_bipush 8 d_X1_copyFrom_125 (by decide) ?_
  refine jo_cpyI lm_X1_49 (ka_Now_10 hp1) (ka_Now_10 hth) (Nat.le_of_ble_eq_true rfl) (Nat.le_of_ble_eq_true rfl) d_X1_copyFrom_127 (fun M11 => ?_)
  refine jo_aload 1 d_X1_copyFrom_130 rfl rfl ?_
  refine jo_getR (k := 11) cl_1 (Nat.le_of_ble_eq_true rfl) lk_X1_46 rfl hp1 (kr_Now_11 hp1) d_X1_copyFrom_131 ?_
  refine jo_iconst 0 d_X1_copyFrom_134 ?_
  refine jo_aload 0 d_X1_copyFrom_135 rfl rfl ?_
  refine jo_getR (k := 11) cl_1 (Nat.le_of_ble_eq_true rfl) lk_X1_46 rfl hth (kr_Now_11 hth) d_X1_copyFrom_136 ?_
  refine jo_iconst 0 d_X1_copyFrom_139 ?_
  refine jo_bipush 8 d_X1_copyFrom_140 (by decide) ?_
  refine jo_cpyI lm_X1_49 (ka_Now_11 hp1) (ka_Now_11 hth) (Nat.le_of_ble_eq_true rfl) (Nat.le_of_ble_eq_true rfl) d_X1_copyFrom_142 (fun M12 => ?_)
  exact jo_vret rfl d_X1_copyFrom_145
theorem m_X1_copyFrom {g : JG} {ad : Nat → Nat} (hs : jStr g ad) (n : Nat) (th : Nat) (p1 : Nat) (hth : jK jNN (0, 1) th) (hp1 : jK jNN (0, 1) p1) (M : JMem) : jMet g jNN ad jR D_X1_copyFrom yX1_copyFrom [.ref th, .ref p1] M (f_X1_copyFrom n th p1 M) :=
  jMet.of (lo0 := [some (.ref th), some (.ref p1)]) (by decide) rfl rfl (Nat.le_of_ble_eq_true rfl) (And.intro rfl (And.intro rfl True.intro)) (t_X1_copyFrom hs n th p1 hth hp1 M)
/-! CageLeave$Now.spotOf(LCageLeave$Plan;I)I -/
def D_X1_spotOf : JD := (RX1, cX1_spotOf, 4, some .int, "spotOf", { frames := 1, cells := 0, slots := 0, locals := 21 })
theorem ok_X1_spotOf : jOk D_X1_spotOf yX1_spotOf 2 := ⟨jTW_mem (k := 985) (by decide +kernel) rfl, jTW_mem (k := 144) (by decide +kernel) rfl, ⟨by decide +kernel, by decide +kernel⟩, by decide +kernel, rfl, rfl⟩
theorem in_X1_spotOf : Cond.instanceMethod yX1_spotOf ∈ jTW := jTW_mem (k := 983) (by decide +kernel) rfl
theorem se_X1_spotOf : Cond.selects yX1_spotOf.cls yX1_spotOf yX1_spotOf ∈ jTW := jTW_mem (k := 984) (by decide +kernel) rfl
theorem d_X1_spotOf_0 : decode (D_X1_spotOf).2.1 0 = .ok (.iconst 0, 1) := by decide +kernel
theorem d_X1_spotOf_1 : decode (D_X1_spotOf).2.1 1 = .ok (.istore_n 3, 1) := by decide +kernel
theorem d_X1_spotOf_2 : decode (D_X1_spotOf).2.1 2 = .ok (.iload_n 3, 1) := by decide +kernel
theorem d_X1_spotOf_3 : decode (D_X1_spotOf).2.1 3 = .ok (.aload_n 1, 1) := by decide +kernel
theorem d_X1_spotOf_4 : decode (D_X1_spotOf).2.1 4 = .ok (.getfield 72, 3) := by decide +kernel
theorem d_X1_spotOf_7 : decode (D_X1_spotOf).2.1 7 = .ok (.if_icmp .ge 24, 3) := by decide +kernel
theorem d_X1_spotOf_10 : decode (D_X1_spotOf).2.1 10 = .ok (.aload_n 0, 1) := by decide +kernel
theorem d_X1_spotOf_11 : decode (D_X1_spotOf).2.1 11 = .ok (.getfield 34, 3) := by decide +kernel
theorem d_X1_spotOf_14 : decode (D_X1_spotOf).2.1 14 = .ok (.iload_n 3, 1) := by decide +kernel
theorem d_X1_spotOf_15 : decode (D_X1_spotOf).2.1 15 = .ok (.iaload, 1) := by decide +kernel
theorem d_X1_spotOf_16 : decode (D_X1_spotOf).2.1 16 = .ok (.iload_n 2, 1) := by decide +kernel
theorem d_X1_spotOf_17 : decode (D_X1_spotOf).2.1 17 = .ok (.invokestatic 68, 3) := by decide +kernel
theorem d_X1_spotOf_20 : decode (D_X1_spotOf).2.1 20 = .ok (.ifCond .eq 5, 3) := by decide +kernel
theorem d_X1_spotOf_23 : decode (D_X1_spotOf).2.1 23 = .ok (.iload_n 3, 1) := by decide +kernel
theorem d_X1_spotOf_24 : decode (D_X1_spotOf).2.1 24 = .ok (.ireturn, 1) := by decide +kernel
theorem d_X1_spotOf_25 : decode (D_X1_spotOf).2.1 25 = .ok (.iinc 3 1, 3) := by decide +kernel
theorem d_X1_spotOf_28 : decode (D_X1_spotOf).2.1 28 = .ok (.goto (-26), 3) := by decide +kernel
theorem d_X1_spotOf_31 : decode (D_X1_spotOf).2.1 31 = .ok (.iconst 0, 1) := by decide +kernel
theorem d_X1_spotOf_32 : decode (D_X1_spotOf).2.1 32 = .ok (.istore_n 3, 1) := by decide +kernel
theorem d_X1_spotOf_33 : decode (D_X1_spotOf).2.1 33 = .ok (.iload_n 3, 1) := by decide +kernel
theorem d_X1_spotOf_34 : decode (D_X1_spotOf).2.1 34 = .ok (.aload_n 1, 1) := by decide +kernel
theorem d_X1_spotOf_35 : decode (D_X1_spotOf).2.1 35 = .ok (.getfield 75, 3) := by decide +kernel
theorem d_X1_spotOf_38 : decode (D_X1_spotOf).2.1 38 = .ok (.if_icmp .ge 27, 3) := by decide +kernel
theorem d_X1_spotOf_41 : decode (D_X1_spotOf).2.1 41 = .ok (.aload_n 0, 1) := by decide +kernel
theorem d_X1_spotOf_42 : decode (D_X1_spotOf).2.1 42 = .ok (.getfield 37, 3) := by decide +kernel
theorem d_X1_spotOf_45 : decode (D_X1_spotOf).2.1 45 = .ok (.iload_n 3, 1) := by decide +kernel
theorem d_X1_spotOf_46 : decode (D_X1_spotOf).2.1 46 = .ok (.iaload, 1) := by decide +kernel
theorem d_X1_spotOf_47 : decode (D_X1_spotOf).2.1 47 = .ok (.iload_n 2, 1) := by decide +kernel
theorem d_X1_spotOf_48 : decode (D_X1_spotOf).2.1 48 = .ok (.invokestatic 68, 3) := by decide +kernel
theorem d_X1_spotOf_51 : decode (D_X1_spotOf).2.1 51 = .ok (.ifCond .eq 8, 3) := by decide +kernel
theorem d_X1_spotOf_54 : decode (D_X1_spotOf).2.1 54 = .ok (.bipush 10, 2) := by decide +kernel
theorem d_X1_spotOf_56 : decode (D_X1_spotOf).2.1 56 = .ok (.iload_n 3, 1) := by decide +kernel
theorem d_X1_spotOf_57 : decode (D_X1_spotOf).2.1 57 = .ok (.iadd, 1) := by decide +kernel
theorem d_X1_spotOf_58 : decode (D_X1_spotOf).2.1 58 = .ok (.ireturn, 1) := by decide +kernel
theorem d_X1_spotOf_59 : decode (D_X1_spotOf).2.1 59 = .ok (.iinc 3 1, 3) := by decide +kernel
theorem d_X1_spotOf_62 : decode (D_X1_spotOf).2.1 62 = .ok (.goto (-29), 3) := by decide +kernel
theorem d_X1_spotOf_65 : decode (D_X1_spotOf).2.1 65 = .ok (.iconst (-1), 1) := by decide +kernel
theorem d_X1_spotOf_66 : decode (D_X1_spotOf).2.1 66 = .ok (.ireturn, 1) := by decide +kernel
def f_X1_spotOf_L54 (n : Nat) (th : Nat) (p1 : Nat) (v3 : Int) (M : JMem) : Option (Int × JMem) := some ((10 + v3), M)
set_option maxRecDepth 4000 in
theorem t_X1_spotOf_L54 {g : JG} {ad : Nat → Nat} (hs : jStr g ad) (n : Nat) (th : Nat) (p1 : Nat) (hth : jK jNN (0, 1) th) (hp1 : jK jNN (0, 4) p1) (v3 : Int) (M : JMem) : jB g D_X1_spotOf ad 54 [none, none, none, some (ji v3)] [] M (f_X1_spotOf_L54 n th p1 v3 M) := by
  unfold f_X1_spotOf_L54
  refine jo_bipush 10 d_X1_spotOf_54 (by decide) ?_
  refine jo_iload 3 d_X1_spotOf_56 rfl rfl ?_
  refine jo_iadd d_X1_spotOf_57 ?_
  exact jo_iret rfl d_X1_spotOf_58
def f_X1_spotOf_L33 (n : Nat) (th : Nat) (p1 : Nat) : Nat → Int → Int → JMem → Option (Int × JMem)
  | 0, _, _, _ => none
  | k + 1, v2, v3, M => if jw (M p1 1) ≤ jw v3 then (some ((-1), M)) else (chk (jin v3 8) <| bnd (f_X11_isIn n (M (th + 4) (jw v3).toNat) v2 M) fun r1 M2 => if jw r1 = 0 then (letv (v3 + 1) fun y3 => (f_X1_spotOf_L33 n th p1 k) v2 y3 M2) else (f_X1_spotOf_L54 n th p1 v3 M2))
set_option maxRecDepth 4000 in
theorem t_X1_spotOf_L33 {g : JG} {ad : Nat → Nat} (hs : jStr g ad) (n : Nat) (th : Nat) (p1 : Nat) (hth : jK jNN (0, 1) th) (hp1 : jK jNN (0, 4) p1) : ∀ (k : Nat) (v2 v3 : Int) (M : JMem), jB g D_X1_spotOf ad 33 [some (.ref th), some (.ref p1), some (ji v2), some (ji v3)] [] M (f_X1_spotOf_L33 n th p1 k v2 v3 M) := by
  intro k
  induction k with
  | zero => intro v2 v3 M; exact jO.none
  | succ k ih =>
    intro v2 v3 M
    rw [f_X1_spotOf_L33]
    refine jo_iload 3 d_X1_spotOf_33 rfl rfl ?_
    refine jo_aload 1 d_X1_spotOf_34 rfl rfl ?_
    refine jo_getI (k := 1) cl_4 (Nat.le_of_ble_eq_true rfl) lk_X1_75 (Or.inl rfl) hp1 d_X1_spotOf_35 ?_
    refine jo_icmp_ge 65 d_X1_spotOf_38 (by decide) ?_ ?_
    · skip
      refine jo_iconst (-1) d_X1_spotOf_65 ?_
      exact jo_iret rfl d_X1_spotOf_66
    · skip
      refine jo_aload 0 d_X1_spotOf_41 rfl rfl ?_
      refine jo_getR (k := 8) cl_1 (Nat.le_of_ble_eq_true rfl) lk_X1_37 rfl hth (kr_Now_8 hth) d_X1_spotOf_42 ?_
      refine jo_iload 3 d_X1_spotOf_45 rfl rfl ?_
      refine jo_iald (N := 8) (ka_Now_8 hth) d_X1_spotOf_46 ?_
      refine jo_iload 2 d_X1_spotOf_47 rfl rfl ?_
      refine jo_callSN (st := []) (m_X11_isIn hs n (M (th + 4) (jw v3).toNat) v2 M) ok_X11_isIn (And.intro (Nat.le_of_ble_eq_true rfl) (Nat.le_of_ble_eq_true rfl)) lm_X1_68 st_X11_isIn rfl (And.intro (Nat.zero_le _) (Nat.zero_le _)) rfl (Nat.le_of_ble_eq_true rfl) d_X1_spotOf_48 (fun r1 M2 => ?_)
      refine jo_if_eq 59 d_X1_spotOf_51 (by decide) ?_ ?_
      · skip
        refine jo_iinc 3 d_X1_spotOf_59 rfl (Nat.le_of_ble_eq_true rfl) (fun y3 => ?_)
        refine jo_goto 33 d_X1_spotOf_62 (by decide) ?_
        exact jO.sub (ih v2 y3 M2) (And.intro rfl (And.intro rfl (And.intro rfl (And.intro rfl True.intro))))
      · skip
        exact jO.sub (t_X1_spotOf_L54 hs n th p1 hth hp1 v3 M2) (And.intro rfl True.intro)
def f_X1_spotOf_L31 (n : Nat) (th : Nat) (p1 : Nat) (v2 : Int) (M : JMem) : Option (Int × JMem) := letv 0 fun y1 => f_X1_spotOf_L33 n th p1 n v2 y1 M
set_option maxRecDepth 4000 in
theorem t_X1_spotOf_L31 {g : JG} {ad : Nat → Nat} (hs : jStr g ad) (n : Nat) (th : Nat) (p1 : Nat) (hth : jK jNN (0, 1) th) (hp1 : jK jNN (0, 4) p1) (v2 : Int) (M : JMem) : jB g D_X1_spotOf ad 31 [some (.ref th), some (.ref p1), some (ji v2), none] [] M (f_X1_spotOf_L31 n th p1 v2 M) := by
  unfold f_X1_spotOf_L31
  refine jo_iconst 0 d_X1_spotOf_31 ?_
  refine jo_istore 3 d_X1_spotOf_32 rfl (Nat.le_of_ble_eq_true rfl) (fun y1 => ?_)
  exact jO.sub (t_X1_spotOf_L33 hs n th p1 hth hp1 n v2 y1 M) (And.intro rfl (And.intro rfl (And.intro rfl (And.intro rfl True.intro))))
def f_X1_spotOf_L2 (n : Nat) (th : Nat) (p1 : Nat) : Nat → Int → Int → JMem → Option (Int × JMem)
  | 0, _, _, _ => none
  | k + 1, v2, v3, M => if jw (M p1 0) ≤ jw v3 then (f_X1_spotOf_L31 n th p1 v2 M) else (chk (jin v3 6) <| bnd (f_X11_isIn n (M (th + 3) (jw v3).toNat) v2 M) fun r1 M2 => if jw r1 = 0 then (letv (v3 + 1) fun y3 => (f_X1_spotOf_L2 n th p1 k) v2 y3 M2) else (some (v3, M2)))
set_option maxRecDepth 4000 in
theorem t_X1_spotOf_L2 {g : JG} {ad : Nat → Nat} (hs : jStr g ad) (n : Nat) (th : Nat) (p1 : Nat) (hth : jK jNN (0, 1) th) (hp1 : jK jNN (0, 4) p1) : ∀ (k : Nat) (v2 v3 : Int) (M : JMem), jB g D_X1_spotOf ad 2 [some (.ref th), some (.ref p1), some (ji v2), some (ji v3)] [] M (f_X1_spotOf_L2 n th p1 k v2 v3 M) := by
  intro k
  induction k with
  | zero => intro v2 v3 M; exact jO.none
  | succ k ih =>
    intro v2 v3 M
    rw [f_X1_spotOf_L2]
    refine jo_iload 3 d_X1_spotOf_2 rfl rfl ?_
    refine jo_aload 1 d_X1_spotOf_3 rfl rfl ?_
    refine jo_getI (k := 0) cl_4 (Nat.le_of_ble_eq_true rfl) lk_X1_72 (Or.inl rfl) hp1 d_X1_spotOf_4 ?_
    refine jo_icmp_ge 31 d_X1_spotOf_7 (by decide) ?_ ?_
    · skip
      exact jO.sub (t_X1_spotOf_L31 hs n th p1 hth hp1 v2 M) (And.intro rfl (And.intro rfl (And.intro rfl True.intro)))
    · skip
      refine jo_aload 0 d_X1_spotOf_10 rfl rfl ?_
      refine jo_getR (k := 7) cl_1 (Nat.le_of_ble_eq_true rfl) lk_X1_34 rfl hth (kr_Now_7 hth) d_X1_spotOf_11 ?_
      refine jo_iload 3 d_X1_spotOf_14 rfl rfl ?_
      refine jo_iald (N := 6) (ka_Now_7 hth) d_X1_spotOf_15 ?_
      refine jo_iload 2 d_X1_spotOf_16 rfl rfl ?_
      refine jo_callSN (st := []) (m_X11_isIn hs n (M (th + 3) (jw v3).toNat) v2 M) ok_X11_isIn (And.intro (Nat.le_of_ble_eq_true rfl) (Nat.le_of_ble_eq_true rfl)) lm_X1_68 st_X11_isIn rfl (And.intro (Nat.zero_le _) (Nat.zero_le _)) rfl (Nat.le_of_ble_eq_true rfl) d_X1_spotOf_17 (fun r1 M2 => ?_)
      refine jo_if_eq 25 d_X1_spotOf_20 (by decide) ?_ ?_
      · skip
        refine jo_iinc 3 d_X1_spotOf_25 rfl (Nat.le_of_ble_eq_true rfl) (fun y3 => ?_)
        refine jo_goto 2 d_X1_spotOf_28 (by decide) ?_
        exact jO.sub (ih v2 y3 M2) (And.intro rfl (And.intro rfl (And.intro rfl (And.intro rfl True.intro))))
      · skip
        refine jo_iload 3 d_X1_spotOf_23 rfl rfl ?_
        exact jo_iret rfl d_X1_spotOf_24
def f_X1_spotOf (n : Nat) (th : Nat) (p1 : Nat) (x2 : Int) (M : JMem) : Option (Int × JMem) := letv 0 fun y1 => f_X1_spotOf_L2 n th p1 n x2 y1 M
set_option maxRecDepth 4000 in
theorem t_X1_spotOf {g : JG} {ad : Nat → Nat} (hs : jStr g ad) (n : Nat) (th : Nat) (p1 : Nat) (x2 : Int) (hth : jK jNN (0, 1) th) (hp1 : jK jNN (0, 4) p1) (M : JMem) : jB g D_X1_spotOf ad 0 [some (.ref th), some (.ref p1), some (ji x2), none] [] M (f_X1_spotOf n th p1 x2 M) := by
  unfold f_X1_spotOf
  refine jo_iconst 0 d_X1_spotOf_0 ?_
  refine jo_istore 3 d_X1_spotOf_1 rfl (Nat.le_of_ble_eq_true rfl) (fun y1 => ?_)
  exact jO.sub (t_X1_spotOf_L2 hs n th p1 hth hp1 n x2 y1 M) (And.intro rfl (And.intro rfl (And.intro rfl (And.intro rfl True.intro))))
theorem m_X1_spotOf {g : JG} {ad : Nat → Nat} (hs : jStr g ad) (n : Nat) (th : Nat) (p1 : Nat) (x2 : Int) (hth : jK jNN (0, 1) th) (hp1 : jK jNN (0, 4) p1) (M : JMem) : jMet g jNN ad jR D_X1_spotOf yX1_spotOf [.ref th, .ref p1, ji x2] M (f_X1_spotOf n th p1 x2 M) :=
  jMet.of (lo0 := [some (.ref th), some (.ref p1), some (ji x2), none]) (by decide) rfl rfl (Nat.le_of_ble_eq_true rfl) (And.intro rfl (And.intro rfl (And.intro rfl True.intro))) (t_X1_spotOf hs n th p1 x2 hth hp1 M)
/-! CageLeave$Now.hasTogether(LCageLeave$Plan;II)Z -/
def D_X1_hasTogether : JD := (RX1, cX1_hasTogether, 5, some .boolean, "hasTogether", { frames := 2, cells := 0, slots := 0, locals := 44 })
theorem ok_X1_hasTogether : jOk D_X1_hasTogether yX1_hasTogether 3 := ⟨jTW_mem (k := 1005) (by decide +kernel) rfl, jTW_mem (k := 144) (by decide +kernel) rfl, ⟨by decide +kernel, by decide +kernel⟩, by decide +kernel, rfl, rfl⟩
theorem in_X1_hasTogether : Cond.instanceMethod yX1_hasTogether ∈ jTW := jTW_mem (k := 1003) (by decide +kernel) rfl
theorem se_X1_hasTogether : Cond.selects yX1_hasTogether.cls yX1_hasTogether yX1_hasTogether ∈ jTW := jTW_mem (k := 1004) (by decide +kernel) rfl
theorem lm_X1_78 : Cond.methodLink RX1 78 yX1_spotOf ∈ jTW := jTW_mem (k := 1006) (by decide +kernel) rfl
theorem d_X1_hasTogether_0 : decode (D_X1_hasTogether).2.1 0 = .ok (.aload_n 0, 1) := by decide +kernel
theorem d_X1_hasTogether_1 : decode (D_X1_hasTogether).2.1 1 = .ok (.aload_n 1, 1) := by decide +kernel
theorem d_X1_hasTogether_2 : decode (D_X1_hasTogether).2.1 2 = .ok (.iload_n 2, 1) := by decide +kernel
theorem d_X1_hasTogether_3 : decode (D_X1_hasTogether).2.1 3 = .ok (.invokevirtual 78, 3) := by decide +kernel
theorem d_X1_hasTogether_6 : decode (D_X1_hasTogether).2.1 6 = .ok (.istore 4, 2) := by decide +kernel
theorem d_X1_hasTogether_8 : decode (D_X1_hasTogether).2.1 8 = .ok (.iload 4, 2) := by decide +kernel
theorem d_X1_hasTogether_10 : decode (D_X1_hasTogether).2.1 10 = .ok (.ifCond .le 18, 3) := by decide +kernel
theorem d_X1_hasTogether_13 : decode (D_X1_hasTogether).2.1 13 = .ok (.iload 4, 2) := by decide +kernel
theorem d_X1_hasTogether_15 : decode (D_X1_hasTogether).2.1 15 = .ok (.aload_n 0, 1) := by decide +kernel
theorem d_X1_hasTogether_16 : decode (D_X1_hasTogether).2.1 16 = .ok (.aload_n 1, 1) := by decide +kernel
theorem d_X1_hasTogether_17 : decode (D_X1_hasTogether).2.1 17 = .ok (.iload_n 3, 1) := by decide +kernel
theorem d_X1_hasTogether_18 : decode (D_X1_hasTogether).2.1 18 = .ok (.invokevirtual 78, 3) := by decide +kernel
theorem d_X1_hasTogether_21 : decode (D_X1_hasTogether).2.1 21 = .ok (.if_icmp .ne 7, 3) := by decide +kernel
theorem d_X1_hasTogether_24 : decode (D_X1_hasTogether).2.1 24 = .ok (.iconst 1, 1) := by decide +kernel
theorem d_X1_hasTogether_25 : decode (D_X1_hasTogether).2.1 25 = .ok (.goto 4, 3) := by decide +kernel
theorem d_X1_hasTogether_28 : decode (D_X1_hasTogether).2.1 28 = .ok (.iconst 0, 1) := by decide +kernel
theorem d_X1_hasTogether_29 : decode (D_X1_hasTogether).2.1 29 = .ok (.ireturn, 1) := by decide +kernel
def f_X1_hasTogether (n : Nat) (th : Nat) (p1 : Nat) (x2 : Int) (x3 : Int) (M : JMem) : Option (Int × JMem) := bnd (f_X1_spotOf n th p1 x2 M) fun r1 M2 => letv r1 fun y3 => if jw y3 ≤ 0 then (some (0, M2)) else (bnd (f_X1_spotOf n th p1 x3 M2) fun r4 M5 => if jw y3 = jw r4 then (some (1, M5)) else (some (0, M5)))
set_option maxRecDepth 4000 in
theorem t_X1_hasTogether {g : JG} {ad : Nat → Nat} (hs : jStr g ad) (n : Nat) (th : Nat) (p1 : Nat) (x2 : Int) (x3 : Int) (hth : jK jNN (0, 1) th) (hp1 : jK jNN (0, 4) p1) (M : JMem) : jB g D_X1_hasTogether ad 0 [some (.ref th), some (.ref p1), some (ji x2), some (ji x3), none] [] M (f_X1_hasTogether n th p1 x2 x3 M) := by
  unfold f_X1_hasTogether
  refine jo_aload 0 d_X1_hasTogether_0 rfl rfl ?_
  refine jo_aload 1 d_X1_hasTogether_1 rfl rfl ?_
  refine jo_iload 2 d_X1_hasTogether_2 rfl rfl ?_
  refine jo_callV (st := []) (m_X1_spotOf hs n th p1 x2 hth hp1 M) ok_X1_spotOf (And.intro (Nat.le_of_ble_eq_true rfl) (Nat.le_of_ble_eq_true rfl)) lm_X1_78 in_X1_spotOf se_X1_spotOf rfl hth rfl rfl (And.intro (Nat.zero_le _) (Nat.zero_le _)) rfl (Nat.le_of_ble_eq_true rfl) d_X1_hasTogether_3 (fun r1 M2 => ?_)
  refine jo_istoreW 4 d_X1_hasTogether_6 (Nat.le_of_ble_eq_true rfl) (fun y3 => ?_)
  refine jo_iloadW 4 d_X1_hasTogether_8 rfl ?_
  refine jo_if_le 28 d_X1_hasTogether_10 (by decide) ?_ ?_
  · skip
    refine jo_iconst 0 d_X1_hasTogether_28 ?_
    exact jo_zret rfl (by decide) d_X1_hasTogether_29
  · skip
    refine jo_iloadW 4 d_X1_hasTogether_13 rfl ?_
    refine jo_aload 0 d_X1_hasTogether_15 rfl rfl ?_
    refine jo_aload 1 d_X1_hasTogether_16 rfl rfl ?_
    refine jo_iload 3 d_X1_hasTogether_17 rfl rfl ?_
    refine jo_callV (st := [ji y3]) (m_X1_spotOf hs n th p1 x3 hth hp1 M2) ok_X1_spotOf (And.intro (Nat.le_of_ble_eq_true rfl) (Nat.le_of_ble_eq_true rfl)) lm_X1_78 in_X1_spotOf se_X1_spotOf rfl hth rfl rfl (And.intro (Nat.zero_le _) (Nat.zero_le _)) rfl (Nat.le_of_ble_eq_true rfl) d_X1_hasTogether_18 (fun r4 M5 => ?_)
    refine jo_icmp_ne 28 d_X1_hasTogether_21 (by decide) ?_ ?_
    · skip
      refine jo_iconst 0 d_X1_hasTogether_28 ?_
      exact jo_zret rfl (by decide) d_X1_hasTogether_29
    · skip
      refine jo_iconst 1 d_X1_hasTogether_24 ?_
      refine jo_goto 29 d_X1_hasTogether_25 (by decide) ?_
      exact jo_zret rfl (by decide) d_X1_hasTogether_29
theorem m_X1_hasTogether {g : JG} {ad : Nat → Nat} (hs : jStr g ad) (n : Nat) (th : Nat) (p1 : Nat) (x2 : Int) (x3 : Int) (hth : jK jNN (0, 1) th) (hp1 : jK jNN (0, 4) p1) (M : JMem) : jMet g jNN ad jR D_X1_hasTogether yX1_hasTogether [.ref th, .ref p1, ji x2, ji x3] M (f_X1_hasTogether n th p1 x2 x3 M) :=
  jMet.of (lo0 := [some (.ref th), some (.ref p1), some (ji x2), some (ji x3), none]) (by decide) rfl rfl (Nat.le_of_ble_eq_true rfl) (And.intro rfl (And.intro rfl (And.intro rfl (And.intro rfl True.intro)))) (t_X1_hasTogether hs n th p1 x2 x3 hth hp1 M)
/-! CageLeave$Now.lateInAll()I -/
def D_X1_lateInAll : JD := (RX1, cX1_lateInAll, 3, some .int, "lateInAll", { frames := 0, cells := 0, slots := 0, locals := 0 })
theorem ok_X1_lateInAll : jOk D_X1_lateInAll yX1_lateInAll 0 := ⟨jTW_mem (k := 956) (by decide +kernel) rfl, jTW_mem (k := 144) (by decide +kernel) rfl, ⟨by decide +kernel, by decide +kernel⟩, by decide +kernel, rfl, rfl⟩
theorem in_X1_lateInAll : Cond.instanceMethod yX1_lateInAll ∈ jTW := jTW_mem (k := 954) (by decide +kernel) rfl
theorem se_X1_lateInAll : Cond.selects yX1_lateInAll.cls yX1_lateInAll yX1_lateInAll ∈ jTW := jTW_mem (k := 955) (by decide +kernel) rfl
theorem d_X1_lateInAll_0 : decode (D_X1_lateInAll).2.1 0 = .ok (.iconst 0, 1) := by decide +kernel
theorem d_X1_lateInAll_1 : decode (D_X1_lateInAll).2.1 1 = .ok (.istore_n 1, 1) := by decide +kernel
theorem d_X1_lateInAll_2 : decode (D_X1_lateInAll).2.1 2 = .ok (.iconst 0, 1) := by decide +kernel
theorem d_X1_lateInAll_3 : decode (D_X1_lateInAll).2.1 3 = .ok (.istore_n 2, 1) := by decide +kernel
theorem d_X1_lateInAll_4 : decode (D_X1_lateInAll).2.1 4 = .ok (.iload_n 2, 1) := by decide +kernel
theorem d_X1_lateInAll_5 : decode (D_X1_lateInAll).2.1 5 = .ok (.bipush 8, 2) := by decide +kernel
theorem d_X1_lateInAll_7 : decode (D_X1_lateInAll).2.1 7 = .ok (.if_icmp .ge 18, 3) := by decide +kernel
theorem d_X1_lateInAll_10 : decode (D_X1_lateInAll).2.1 10 = .ok (.iload_n 1, 1) := by decide +kernel
theorem d_X1_lateInAll_11 : decode (D_X1_lateInAll).2.1 11 = .ok (.aload_n 0, 1) := by decide +kernel
theorem d_X1_lateInAll_12 : decode (D_X1_lateInAll).2.1 12 = .ok (.getfield 31, 3) := by decide +kernel
theorem d_X1_lateInAll_15 : decode (D_X1_lateInAll).2.1 15 = .ok (.iload_n 2, 1) := by decide +kernel
theorem d_X1_lateInAll_16 : decode (D_X1_lateInAll).2.1 16 = .ok (.iaload, 1) := by decide +kernel
theorem d_X1_lateInAll_17 : decode (D_X1_lateInAll).2.1 17 = .ok (.iadd, 1) := by decide +kernel
theorem d_X1_lateInAll_18 : decode (D_X1_lateInAll).2.1 18 = .ok (.istore_n 1, 1) := by decide +kernel
theorem d_X1_lateInAll_19 : decode (D_X1_lateInAll).2.1 19 = .ok (.iinc 2 1, 3) := by decide +kernel
theorem d_X1_lateInAll_22 : decode (D_X1_lateInAll).2.1 22 = .ok (.goto (-18), 3) := by decide +kernel
theorem d_X1_lateInAll_25 : decode (D_X1_lateInAll).2.1 25 = .ok (.iload_n 1, 1) := by decide +kernel
theorem d_X1_lateInAll_26 : decode (D_X1_lateInAll).2.1 26 = .ok (.ireturn, 1) := by decide +kernel
def f_X1_lateInAll_L4 (n : Nat) (th : Nat) : Nat → Int → Int → JMem → Option (Int × JMem)
  | 0, _, _, _ => none
  | k + 1, v1, v2, M => if jw 8 ≤ jw v2 then (some (v1, M)) else (chk (jin v2 8) <| letv (v1 + (M (th + 2) (jw v2).toNat)) fun y1 => letv (v2 + 1) fun y2 => (f_X1_lateInAll_L4 n th k) y1 y2 M)
set_option maxRecDepth 4000 in
theorem t_X1_lateInAll_L4 {g : JG} {ad : Nat → Nat} (hs : jStr g ad) (n : Nat) (th : Nat) (hth : jK jNN (0, 1) th) : ∀ (k : Nat) (v1 v2 : Int) (M : JMem), jB g D_X1_lateInAll ad 4 [some (.ref th), some (ji v1), some (ji v2)] [] M (f_X1_lateInAll_L4 n th k v1 v2 M) := by
  intro k
  induction k with
  | zero => intro v1 v2 M; exact jO.none
  | succ k ih =>
    intro v1 v2 M
    rw [f_X1_lateInAll_L4]
    refine jo_iload 2 d_X1_lateInAll_4 rfl rfl ?_
    refine jo_bipush 8 d_X1_lateInAll_5 (by decide) ?_
    refine jo_icmp_ge 25 d_X1_lateInAll_7 (by decide) ?_ ?_
    · skip
      refine jo_iload 1 d_X1_lateInAll_25 rfl rfl ?_
      exact jo_iret rfl d_X1_lateInAll_26
    · skip
      refine jo_iload 1 d_X1_lateInAll_10 rfl rfl ?_
      refine jo_aload 0 d_X1_lateInAll_11 rfl rfl ?_
      refine jo_getR (k := 6) cl_1 (Nat.le_of_ble_eq_true rfl) lk_X1_31 rfl hth (kr_Now_6 hth) d_X1_lateInAll_12 ?_
      refine jo_iload 2 d_X1_lateInAll_15 rfl rfl ?_
      refine jo_iald (N := 8) (ka_Now_6 hth) d_X1_lateInAll_16 ?_
      refine jo_iadd d_X1_lateInAll_17 ?_
      refine jo_istore 1 d_X1_lateInAll_18 rfl (Nat.le_of_ble_eq_true rfl) (fun y1 => ?_)
      refine jo_iinc 2 d_X1_lateInAll_19 rfl (Nat.le_of_ble_eq_true rfl) (fun y2 => ?_)
      refine jo_goto 4 d_X1_lateInAll_22 (by decide) ?_
      exact jO.sub (ih y1 y2 M) (And.intro rfl (And.intro rfl (And.intro rfl True.intro)))
def f_X1_lateInAll (n : Nat) (th : Nat) (M : JMem) : Option (Int × JMem) := letv 0 fun y1 => letv 0 fun y2 => f_X1_lateInAll_L4 n th n y1 y2 M
set_option maxRecDepth 4000 in
theorem t_X1_lateInAll {g : JG} {ad : Nat → Nat} (hs : jStr g ad) (n : Nat) (th : Nat) (hth : jK jNN (0, 1) th) (M : JMem) : jB g D_X1_lateInAll ad 0 [some (.ref th), none, none] [] M (f_X1_lateInAll n th M) := by
  unfold f_X1_lateInAll
  refine jo_iconst 0 d_X1_lateInAll_0 ?_
  refine jo_istore 1 d_X1_lateInAll_1 rfl (Nat.le_of_ble_eq_true rfl) (fun y1 => ?_)
  refine jo_iconst 0 d_X1_lateInAll_2 ?_
  refine jo_istore 2 d_X1_lateInAll_3 rfl (Nat.le_of_ble_eq_true rfl) (fun y2 => ?_)
  exact jO.sub (t_X1_lateInAll_L4 hs n th hth n y1 y2 M) (And.intro rfl (And.intro rfl (And.intro rfl True.intro)))
theorem m_X1_lateInAll {g : JG} {ad : Nat → Nat} (hs : jStr g ad) (n : Nat) (th : Nat) (hth : jK jNN (0, 1) th) (M : JMem) : jMet g jNN ad jR D_X1_lateInAll yX1_lateInAll [.ref th] M (f_X1_lateInAll n th M) :=
  jMet.of (lo0 := [some (.ref th), none, none]) (by decide) rfl rfl (Nat.le_of_ble_eq_true rfl) (And.intro rfl True.intro) (t_X1_lateInAll hs n th hth M)
/-! CageLeave$Now.letOut(LCageLeave$Plan;LCageLeave$Now;I)V -/
def D_X1_letOut : JD := (RX1, cX1_letOut, 4, none, "letOut", { frames := 2, cells := 0, slots := 0, locals := 81 })
theorem ok_X1_letOut : jOk D_X1_letOut yX1_letOut 3 := ⟨jTW_mem (k := 1140) (by decide +kernel) rfl, jTW_mem (k := 144) (by decide +kernel) rfl, ⟨by decide +kernel, by decide +kernel⟩, by decide +kernel, rfl, rfl⟩
theorem in_X1_letOut : Cond.instanceMethod yX1_letOut ∈ jTW := jTW_mem (k := 1138) (by decide +kernel) rfl
theorem se_X1_letOut : Cond.selects yX1_letOut.cls yX1_letOut yX1_letOut ∈ jTW := jTW_mem (k := 1139) (by decide +kernel) rfl
theorem lm_X1_64 : Cond.methodLink RX1 64 yX1_copyFrom ∈ jTW := jTW_mem (k := 1141) (by decide +kernel) rfl
theorem d_X1_letOut_0 : decode (D_X1_letOut).2.1 0 = .ok (.aload_n 0, 1) := by decide +kernel
theorem d_X1_letOut_1 : decode (D_X1_letOut).2.1 1 = .ok (.aload_n 2, 1) := by decide +kernel
theorem d_X1_letOut_2 : decode (D_X1_letOut).2.1 2 = .ok (.invokevirtual 64, 3) := by decide +kernel
theorem d_X1_letOut_5 : decode (D_X1_letOut).2.1 5 = .ok (.aload_n 0, 1) := by decide +kernel
theorem d_X1_letOut_6 : decode (D_X1_letOut).2.1 6 = .ok (.aload_n 1, 1) := by decide +kernel
theorem d_X1_letOut_7 : decode (D_X1_letOut).2.1 7 = .ok (.invokevirtual 55, 3) := by decide +kernel
theorem d_X1_letOut_10 : decode (D_X1_letOut).2.1 10 = .ok (.aload_n 0, 1) := by decide +kernel
theorem d_X1_letOut_11 : decode (D_X1_letOut).2.1 11 = .ok (.iload_n 3, 1) := by decide +kernel
theorem d_X1_letOut_12 : decode (D_X1_letOut).2.1 12 = .ok (.putfield 18, 3) := by decide +kernel
theorem d_X1_letOut_15 : decode (D_X1_letOut).2.1 15 = .ok (.return_, 1) := by decide +kernel
def f_X1_letOut (n : Nat) (th : Nat) (p1 : Nat) (p2 : Nat) (x3 : Int) (M : JMem) : Option (Int × JMem) := bnd (f_X1_copyFrom n th p2 M) fun _ M2 => bnd (f_X1_cageAll n th p1 M2) fun _ M4 => letm (jup M4 th 2 x3) fun M5 => some (0, M5)
set_option maxRecDepth 4000 in
theorem t_X1_letOut {g : JG} {ad : Nat → Nat} (hs : jStr g ad) (n : Nat) (th : Nat) (p1 : Nat) (p2 : Nat) (x3 : Int) (hth : jK jNN (0, 1) th) (hp1 : jK jNN (0, 4) p1) (hp2 : jK jNN (0, 1) p2) (M : JMem) : jB g D_X1_letOut ad 0 [some (.ref th), some (.ref p1), some (.ref p2), some (ji x3)] [] M (f_X1_letOut n th p1 p2 x3 M) := by
  unfold f_X1_letOut
  refine jo_aload 0 d_X1_letOut_0 rfl rfl ?_
  refine jo_aload 2 d_X1_letOut_1 rfl rfl ?_
  refine jo_callV (st := []) (m_X1_copyFrom hs n th p2 hth hp2 M) ok_X1_copyFrom (And.intro (Nat.le_of_ble_eq_true rfl) (Nat.le_of_ble_eq_true rfl)) lm_X1_64 in_X1_copyFrom se_X1_copyFrom rfl hth rfl rfl (And.intro (Nat.zero_le _) (Nat.zero_le _)) rfl (Nat.le_of_ble_eq_true rfl) d_X1_letOut_2 (fun _ M2 => ?_)
  refine jo_aload 0 d_X1_letOut_5 rfl rfl ?_
  refine jo_aload 1 d_X1_letOut_6 rfl rfl ?_
  refine jo_callV (st := []) (m_X1_cageAll hs n th p1 hth hp1 M2) ok_X1_cageAll (And.intro (Nat.le_of_ble_eq_true rfl) (Nat.le_of_ble_eq_true rfl)) lm_X1_55 in_X1_cageAll se_X1_cageAll rfl hth rfl rfl (And.intro (Nat.zero_le _) (Nat.zero_le _)) rfl (Nat.le_of_ble_eq_true rfl) d_X1_letOut_7 (fun _ M4 => ?_)
  refine jo_aload 0 d_X1_letOut_10 rfl rfl ?_
  refine jo_iload 3 d_X1_letOut_11 rfl rfl ?_
  refine jo_putI (k := 2) cl_1 (Nat.le_of_ble_eq_true rfl) lk_X1_18 rfl rfl hth d_X1_letOut_12 (fun M5 => ?_)
  exact jo_vret rfl d_X1_letOut_15
theorem m_X1_letOut {g : JG} {ad : Nat → Nat} (hs : jStr g ad) (n : Nat) (th : Nat) (p1 : Nat) (p2 : Nat) (x3 : Int) (hth : jK jNN (0, 1) th) (hp1 : jK jNN (0, 4) p1) (hp2 : jK jNN (0, 1) p2) (M : JMem) : jMet g jNN ad jR D_X1_letOut yX1_letOut [.ref th, .ref p1, .ref p2, ji x3] M (f_X1_letOut n th p1 p2 x3 M) :=
  jMet.of (lo0 := [some (.ref th), some (.ref p1), some (.ref p2), some (ji x3)]) (by decide) rfl rfl (Nat.le_of_ble_eq_true rfl) (And.intro rfl (And.intro rfl (And.intro rfl (And.intro rfl True.intro)))) (t_X1_letOut hs n th p1 p2 x3 hth hp1 hp2 M)
/-! CageLeave$Now.riders()I -/
def D_X1_riders : JD := (RX1, cX1_riders, 3, some .int, "riders", { frames := 0, cells := 0, slots := 0, locals := 0 })
theorem ok_X1_riders : jOk D_X1_riders yX1_riders 0 := ⟨jTW_mem (k := 952) (by decide +kernel) rfl, jTW_mem (k := 144) (by decide +kernel) rfl, ⟨by decide +kernel, by decide +kernel⟩, by decide +kernel, rfl, rfl⟩
theorem in_X1_riders : Cond.instanceMethod yX1_riders ∈ jTW := jTW_mem (k := 950) (by decide +kernel) rfl
theorem se_X1_riders : Cond.selects yX1_riders.cls yX1_riders yX1_riders ∈ jTW := jTW_mem (k := 951) (by decide +kernel) rfl
theorem d_X1_riders_0 : decode (D_X1_riders).2.1 0 = .ok (.iconst 0, 1) := by decide +kernel
theorem d_X1_riders_1 : decode (D_X1_riders).2.1 1 = .ok (.istore_n 1, 1) := by decide +kernel
theorem d_X1_riders_2 : decode (D_X1_riders).2.1 2 = .ok (.iconst 0, 1) := by decide +kernel
theorem d_X1_riders_3 : decode (D_X1_riders).2.1 3 = .ok (.istore_n 2, 1) := by decide +kernel
theorem d_X1_riders_4 : decode (D_X1_riders).2.1 4 = .ok (.iload_n 2, 1) := by decide +kernel
theorem d_X1_riders_5 : decode (D_X1_riders).2.1 5 = .ok (.bipush 8, 2) := by decide +kernel
theorem d_X1_riders_7 : decode (D_X1_riders).2.1 7 = .ok (.if_icmp .ge 18, 3) := by decide +kernel
theorem d_X1_riders_10 : decode (D_X1_riders).2.1 10 = .ok (.iload_n 1, 1) := by decide +kernel
theorem d_X1_riders_11 : decode (D_X1_riders).2.1 11 = .ok (.aload_n 0, 1) := by decide +kernel
theorem d_X1_riders_12 : decode (D_X1_riders).2.1 12 = .ok (.getfield 37, 3) := by decide +kernel
theorem d_X1_riders_15 : decode (D_X1_riders).2.1 15 = .ok (.iload_n 2, 1) := by decide +kernel
theorem d_X1_riders_16 : decode (D_X1_riders).2.1 16 = .ok (.iaload, 1) := by decide +kernel
theorem d_X1_riders_17 : decode (D_X1_riders).2.1 17 = .ok (.ior, 1) := by decide +kernel
theorem d_X1_riders_18 : decode (D_X1_riders).2.1 18 = .ok (.istore_n 1, 1) := by decide +kernel
theorem d_X1_riders_19 : decode (D_X1_riders).2.1 19 = .ok (.iinc 2 1, 3) := by decide +kernel
theorem d_X1_riders_22 : decode (D_X1_riders).2.1 22 = .ok (.goto (-18), 3) := by decide +kernel
theorem d_X1_riders_25 : decode (D_X1_riders).2.1 25 = .ok (.iload_n 1, 1) := by decide +kernel
theorem d_X1_riders_26 : decode (D_X1_riders).2.1 26 = .ok (.ireturn, 1) := by decide +kernel
def f_X1_riders_L4 (n : Nat) (th : Nat) : Nat → Int → Int → JMem → Option (Int × JMem)
  | 0, _, _, _ => none
  | k + 1, v1, v2, M => if jw 8 ≤ jw v2 then (some (v1, M)) else (chk (jin v2 8) <| letv (jor v1 (M (th + 4) (jw v2).toNat)) fun y1 => letv (v2 + 1) fun y2 => (f_X1_riders_L4 n th k) y1 y2 M)
set_option maxRecDepth 4000 in
theorem t_X1_riders_L4 {g : JG} {ad : Nat → Nat} (hs : jStr g ad) (n : Nat) (th : Nat) (hth : jK jNN (0, 1) th) : ∀ (k : Nat) (v1 v2 : Int) (M : JMem), jB g D_X1_riders ad 4 [some (.ref th), some (ji v1), some (ji v2)] [] M (f_X1_riders_L4 n th k v1 v2 M) := by
  intro k
  induction k with
  | zero => intro v1 v2 M; exact jO.none
  | succ k ih =>
    intro v1 v2 M
    rw [f_X1_riders_L4]
    refine jo_iload 2 d_X1_riders_4 rfl rfl ?_
    refine jo_bipush 8 d_X1_riders_5 (by decide) ?_
    refine jo_icmp_ge 25 d_X1_riders_7 (by decide) ?_ ?_
    · skip
      refine jo_iload 1 d_X1_riders_25 rfl rfl ?_
      exact jo_iret rfl d_X1_riders_26
    · skip
      refine jo_iload 1 d_X1_riders_10 rfl rfl ?_
      refine jo_aload 0 d_X1_riders_11 rfl rfl ?_
      refine jo_getR (k := 8) cl_1 (Nat.le_of_ble_eq_true rfl) lk_X1_37 rfl hth (kr_Now_8 hth) d_X1_riders_12 ?_
      refine jo_iload 2 d_X1_riders_15 rfl rfl ?_
      refine jo_iald (N := 8) (ka_Now_8 hth) d_X1_riders_16 ?_
      refine jo_ior d_X1_riders_17 ?_
      refine jo_istore 1 d_X1_riders_18 rfl (Nat.le_of_ble_eq_true rfl) (fun y1 => ?_)
      refine jo_iinc 2 d_X1_riders_19 rfl (Nat.le_of_ble_eq_true rfl) (fun y2 => ?_)
      refine jo_goto 4 d_X1_riders_22 (by decide) ?_
      exact jO.sub (ih y1 y2 M) (And.intro rfl (And.intro rfl (And.intro rfl True.intro)))
def f_X1_riders (n : Nat) (th : Nat) (M : JMem) : Option (Int × JMem) := letv 0 fun y1 => letv 0 fun y2 => f_X1_riders_L4 n th n y1 y2 M
set_option maxRecDepth 4000 in
theorem t_X1_riders {g : JG} {ad : Nat → Nat} (hs : jStr g ad) (n : Nat) (th : Nat) (hth : jK jNN (0, 1) th) (M : JMem) : jB g D_X1_riders ad 0 [some (.ref th), none, none] [] M (f_X1_riders n th M) := by
  unfold f_X1_riders
  refine jo_iconst 0 d_X1_riders_0 ?_
  refine jo_istore 1 d_X1_riders_1 rfl (Nat.le_of_ble_eq_true rfl) (fun y1 => ?_)
  refine jo_iconst 0 d_X1_riders_2 ?_
  refine jo_istore 2 d_X1_riders_3 rfl (Nat.le_of_ble_eq_true rfl) (fun y2 => ?_)
  exact jO.sub (t_X1_riders_L4 hs n th hth n y1 y2 M) (And.intro rfl (And.intro rfl (And.intro rfl True.intro)))
theorem m_X1_riders {g : JG} {ad : Nat → Nat} (hs : jStr g ad) (n : Nat) (th : Nat) (hth : jK jNN (0, 1) th) (M : JMem) : jMet g jNN ad jR D_X1_riders yX1_riders [.ref th] M (f_X1_riders n th M) :=
  jMet.of (lo0 := [some (.ref th), none, none]) (by decide) rfl rfl (Nat.le_of_ble_eq_true rfl) (And.intro rfl True.intro) (t_X1_riders hs n th hth M)
/-! CageLeave$Text.isAt(I)Z -/
def D_X6_isAt : JD := (RX6, cX6_isAt, 2, some .boolean, "isAt", { frames := 0, cells := 0, slots := 0, locals := 0 })
theorem ok_X6_isAt : jOk D_X6_isAt yX6_isAt 1 := ⟨jTW_mem (k := 838) (by decide +kernel) rfl, jTW_mem (k := 137) (by decide +kernel) rfl, ⟨by decide +kernel, by decide +kernel⟩, by decide +kernel, rfl, rfl⟩
theorem in_X6_isAt : Cond.instanceMethod yX6_isAt ∈ jTW := jTW_mem (k := 836) (by decide +kernel) rfl
theorem se_X6_isAt : Cond.selects yX6_isAt.cls yX6_isAt yX6_isAt ∈ jTW := jTW_mem (k := 837) (by decide +kernel) rfl
theorem lk_X6_25 : Cond.fieldLink RX6 25 (TX6 4).1 (TX6 4).2.1 (TX6 4).2.2.1 ∈ jTW := jTW_mem (k := 252) (by decide +kernel) rfl
theorem lk_X6_31 : Cond.fieldLink RX6 31 (TX6 6).1 (TX6 6).2.1 (TX6 6).2.2.1 ∈ jTW := jTW_mem (k := 257) (by decide +kernel) rfl
theorem d_X6_isAt_0 : decode (D_X6_isAt).2.1 0 = .ok (.aload_n 0, 1) := by decide +kernel
theorem d_X6_isAt_1 : decode (D_X6_isAt).2.1 1 = .ok (.getfield 25, 3) := by decide +kernel
theorem d_X6_isAt_4 : decode (D_X6_isAt).2.1 4 = .ok (.iconst 1, 1) := by decide +kernel
theorem d_X6_isAt_5 : decode (D_X6_isAt).2.1 5 = .ok (.if_icmp .ne 15, 3) := by decide +kernel
theorem d_X6_isAt_8 : decode (D_X6_isAt).2.1 8 = .ok (.aload_n 0, 1) := by decide +kernel
theorem d_X6_isAt_9 : decode (D_X6_isAt).2.1 9 = .ok (.getfield 31, 3) := by decide +kernel
theorem d_X6_isAt_12 : decode (D_X6_isAt).2.1 12 = .ok (.iload_n 1, 1) := by decide +kernel
theorem d_X6_isAt_13 : decode (D_X6_isAt).2.1 13 = .ok (.if_icmp .ne 7, 3) := by decide +kernel
theorem d_X6_isAt_16 : decode (D_X6_isAt).2.1 16 = .ok (.iconst 1, 1) := by decide +kernel
theorem d_X6_isAt_17 : decode (D_X6_isAt).2.1 17 = .ok (.goto 4, 3) := by decide +kernel
theorem d_X6_isAt_20 : decode (D_X6_isAt).2.1 20 = .ok (.iconst 0, 1) := by decide +kernel
theorem d_X6_isAt_21 : decode (D_X6_isAt).2.1 21 = .ok (.ireturn, 1) := by decide +kernel
def f_X6_isAt (n : Nat) (x1 : Int) (M : JMem) : Option (Int × JMem) := if jw (M 9 4) = jw 1 then (if jw (M 9 6) = jw x1 then (some (1, M)) else (some (0, M))) else (some (0, M))
set_option maxRecDepth 4000 in
theorem t_X6_isAt {g : JG} {ad : Nat → Nat} (hs : jStr g ad) (n : Nat) (x1 : Int) (M : JMem) : jB g D_X6_isAt ad 0 [some (.ref 9), some (ji x1)] [] M (f_X6_isAt n x1 M) := by
  unfold f_X6_isAt
  refine jo_aload 0 d_X6_isAt_0 rfl rfl ?_
  refine jo_getI (k := 4) cl_6 (Nat.le_of_ble_eq_true rfl) lk_X6_25 (Or.inl rfl) kc_9 d_X6_isAt_1 ?_
  refine jo_iconst 1 d_X6_isAt_4 ?_
  refine jo_icmp_ne 20 d_X6_isAt_5 (by decide) ?_ ?_
  · skip
    refine jo_iconst 0 d_X6_isAt_20 ?_
    exact jo_zret rfl (by decide) d_X6_isAt_21
  · skip
    refine jo_aload 0 d_X6_isAt_8 rfl rfl ?_
    refine jo_getI (k := 6) cl_6 (Nat.le_of_ble_eq_true rfl) lk_X6_31 (Or.inl rfl) kc_9 d_X6_isAt_9 ?_
    refine jo_iload 1 d_X6_isAt_12 rfl rfl ?_
    refine jo_icmp_ne 20 d_X6_isAt_13 (by decide) ?_ ?_
    · skip
      refine jo_iconst 0 d_X6_isAt_20 ?_
      exact jo_zret rfl (by decide) d_X6_isAt_21
    · skip
      refine jo_iconst 1 d_X6_isAt_16 ?_
      refine jo_goto 21 d_X6_isAt_17 (by decide) ?_
      exact jo_zret rfl (by decide) d_X6_isAt_21
theorem m_X6_isAt {g : JG} {ad : Nat → Nat} (hs : jStr g ad) (n : Nat) (x1 : Int) (M : JMem) : jMet g jNN ad jR D_X6_isAt yX6_isAt [.ref 9, ji x1] M (f_X6_isAt n x1 M) :=
  jMet.of (lo0 := [some (.ref 9), some (ji x1)]) (by decide) rfl rfl (Nat.le_of_ble_eq_true rfl) (And.intro rfl (And.intro rfl True.intro)) (t_X6_isAt hs n x1 M)
/-! CageLeave$Text.isBlank(I)Z -/
def D_X6_isBlank : JD := (RX6, cX6_isBlank, 1, some .boolean, "isBlank", { frames := 0, cells := 0, slots := 0, locals := 0 })
theorem ok_X6_isBlank : jOk D_X6_isBlank yX6_isBlank 1 := ⟨jTW_mem (k := 766) (by decide +kernel) rfl, jTW_mem (k := 137) (by decide +kernel) rfl, ⟨by decide +kernel, by decide +kernel⟩, by decide +kernel, rfl, rfl⟩
theorem st_X6_isBlank : Cond.static yX6_isBlank ∈ jTW := jTW_mem (k := 765) (by decide +kernel) rfl
theorem d_X6_isBlank_0 : decode (D_X6_isBlank).2.1 0 = .ok (.iload_n 0, 1) := by decide +kernel
theorem d_X6_isBlank_1 : decode (D_X6_isBlank).2.1 1 = .ok (.bipush 10, 2) := by decide +kernel
theorem d_X6_isBlank_3 : decode (D_X6_isBlank).2.1 3 = .ok (.if_icmp .eq 9, 3) := by decide +kernel
theorem d_X6_isBlank_6 : decode (D_X6_isBlank).2.1 6 = .ok (.iload_n 0, 1) := by decide +kernel
theorem d_X6_isBlank_7 : decode (D_X6_isBlank).2.1 7 = .ok (.bipush 32, 2) := by decide +kernel
theorem d_X6_isBlank_9 : decode (D_X6_isBlank).2.1 9 = .ok (.if_icmp .ne 7, 3) := by decide +kernel
theorem d_X6_isBlank_12 : decode (D_X6_isBlank).2.1 12 = .ok (.iconst 1, 1) := by decide +kernel
theorem d_X6_isBlank_13 : decode (D_X6_isBlank).2.1 13 = .ok (.goto 4, 3) := by decide +kernel
theorem d_X6_isBlank_16 : decode (D_X6_isBlank).2.1 16 = .ok (.iconst 0, 1) := by decide +kernel
theorem d_X6_isBlank_17 : decode (D_X6_isBlank).2.1 17 = .ok (.ireturn, 1) := by decide +kernel
def f_X6_isBlank (n : Nat) (x0 : Int) (M : JMem) : Option (Int × JMem) := if jw x0 = jw 10 then (some (1, M)) else (if jw x0 = jw 32 then (some (1, M)) else (some (0, M)))
set_option maxRecDepth 4000 in
theorem t_X6_isBlank {g : JG} {ad : Nat → Nat} (hs : jStr g ad) (n : Nat) (x0 : Int) (M : JMem) : jB g D_X6_isBlank ad 0 [some (ji x0)] [] M (f_X6_isBlank n x0 M) := by
  unfold f_X6_isBlank
  refine jo_iload 0 d_X6_isBlank_0 rfl rfl ?_
  refine jo_bipush 10 d_X6_isBlank_1 (by decide) ?_
  refine jo_icmp_eq 12 d_X6_isBlank_3 (by decide) ?_ ?_
  · skip
    refine jo_iconst 1 d_X6_isBlank_12 ?_
    refine jo_goto 17 d_X6_isBlank_13 (by decide) ?_
    exact jo_zret rfl (by decide) d_X6_isBlank_17
  · skip
    refine jo_iload 0 d_X6_isBlank_6 rfl rfl ?_
    refine jo_bipush 32 d_X6_isBlank_7 (by decide) ?_
    refine jo_icmp_ne 16 d_X6_isBlank_9 (by decide) ?_ ?_
    · skip
      refine jo_iconst 0 d_X6_isBlank_16 ?_
      exact jo_zret rfl (by decide) d_X6_isBlank_17
    · skip
      refine jo_iconst 1 d_X6_isBlank_12 ?_
      refine jo_goto 17 d_X6_isBlank_13 (by decide) ?_
      exact jo_zret rfl (by decide) d_X6_isBlank_17
theorem m_X6_isBlank {g : JG} {ad : Nat → Nat} (hs : jStr g ad) (n : Nat) (x0 : Int) (M : JMem) : jMet g jNN ad jR D_X6_isBlank yX6_isBlank [ji x0] M (f_X6_isBlank n x0 M) :=
  jMet.of (lo0 := [some (ji x0)]) (by decide) rfl rfl (Nat.le_of_ble_eq_true rfl) (And.intro rfl True.intro) (t_X6_isBlank hs n x0 M)
/-! CageLeave$Text.isLetter(I)Z -/
def D_X6_isLetter : JD := (RX6, cX6_isLetter, 1, some .boolean, "isLetter", { frames := 0, cells := 0, slots := 0, locals := 0 })
theorem ok_X6_isLetter : jOk D_X6_isLetter yX6_isLetter 1 := ⟨jTW_mem (k := 769) (by decide +kernel) rfl, jTW_mem (k := 137) (by decide +kernel) rfl, ⟨by decide +kernel, by decide +kernel⟩, by decide +kernel, rfl, rfl⟩
theorem st_X6_isLetter : Cond.static yX6_isLetter ∈ jTW := jTW_mem (k := 768) (by decide +kernel) rfl
theorem d_X6_isLetter_0 : decode (D_X6_isLetter).2.1 0 = .ok (.iload_n 0, 1) := by decide +kernel
theorem d_X6_isLetter_1 : decode (D_X6_isLetter).2.1 1 = .ok (.bipush 97, 2) := by decide +kernel
theorem d_X6_isLetter_3 : decode (D_X6_isLetter).2.1 3 = .ok (.if_icmp .lt 13, 3) := by decide +kernel
theorem d_X6_isLetter_6 : decode (D_X6_isLetter).2.1 6 = .ok (.iload_n 0, 1) := by decide +kernel
theorem d_X6_isLetter_7 : decode (D_X6_isLetter).2.1 7 = .ok (.bipush 122, 2) := by decide +kernel
theorem d_X6_isLetter_9 : decode (D_X6_isLetter).2.1 9 = .ok (.if_icmp .gt 7, 3) := by decide +kernel
theorem d_X6_isLetter_12 : decode (D_X6_isLetter).2.1 12 = .ok (.iconst 1, 1) := by decide +kernel
theorem d_X6_isLetter_13 : decode (D_X6_isLetter).2.1 13 = .ok (.goto 4, 3) := by decide +kernel
theorem d_X6_isLetter_16 : decode (D_X6_isLetter).2.1 16 = .ok (.iconst 0, 1) := by decide +kernel
theorem d_X6_isLetter_17 : decode (D_X6_isLetter).2.1 17 = .ok (.ireturn, 1) := by decide +kernel
def f_X6_isLetter (n : Nat) (x0 : Int) (M : JMem) : Option (Int × JMem) := if jw x0 < jw 97 then (some (0, M)) else (if jw 122 < jw x0 then (some (0, M)) else (some (1, M)))
set_option maxRecDepth 4000 in
theorem t_X6_isLetter {g : JG} {ad : Nat → Nat} (hs : jStr g ad) (n : Nat) (x0 : Int) (M : JMem) : jB g D_X6_isLetter ad 0 [some (ji x0)] [] M (f_X6_isLetter n x0 M) := by
  unfold f_X6_isLetter
  refine jo_iload 0 d_X6_isLetter_0 rfl rfl ?_
  refine jo_bipush 97 d_X6_isLetter_1 (by decide) ?_
  refine jo_icmp_lt 16 d_X6_isLetter_3 (by decide) ?_ ?_
  · skip
    refine jo_iconst 0 d_X6_isLetter_16 ?_
    exact jo_zret rfl (by decide) d_X6_isLetter_17
  · skip
    refine jo_iload 0 d_X6_isLetter_6 rfl rfl ?_
    refine jo_bipush 122 d_X6_isLetter_7 (by decide) ?_
    refine jo_icmp_gt 16 d_X6_isLetter_9 (by decide) ?_ ?_
    · skip
      refine jo_iconst 0 d_X6_isLetter_16 ?_
      exact jo_zret rfl (by decide) d_X6_isLetter_17
    · skip
      refine jo_iconst 1 d_X6_isLetter_12 ?_
      refine jo_goto 17 d_X6_isLetter_13 (by decide) ?_
      exact jo_zret rfl (by decide) d_X6_isLetter_17
theorem m_X6_isLetter {g : JG} {ad : Nat → Nat} (hs : jStr g ad) (n : Nat) (x0 : Int) (M : JMem) : jMet g jNN ad jR D_X6_isLetter yX6_isLetter [ji x0] M (f_X6_isLetter n x0 M) :=
  jMet.of (lo0 := [some (ji x0)]) (by decide) rfl rfl (Nat.le_of_ble_eq_true rfl) (And.intro rfl True.intro) (t_X6_isLetter hs n x0 M)
/-! CageLeave$Text.withLetter(JI)J -/
def D_X6_withLetter : JD := (RX6, cX6_withLetter, 3, some .long, "withLetter", { frames := 0, cells := 0, slots := 0, locals := 0 })
theorem ok_X6_withLetter : jOk D_X6_withLetter yX6_withLetter 2 := ⟨jTW_mem (k := 242) (by decide +kernel) rfl, jTW_mem (k := 137) (by decide +kernel) rfl, ⟨by decide +kernel, by decide +kernel⟩, by decide +kernel, rfl, rfl⟩
theorem st_X6_withLetter : Cond.static yX6_withLetter ∈ jTW := jTW_mem (k := 241) (by decide +kernel) rfl
theorem d_X6_withLetter_0 : decode (D_X6_withLetter).2.1 0 = .ok (.lload_n 0, 1) := by decide +kernel
theorem d_X6_withLetter_1 : decode (D_X6_withLetter).2.1 1 = .ok (.iconst 5, 1) := by decide +kernel
theorem d_X6_withLetter_2 : decode (D_X6_withLetter).2.1 2 = .ok (.lshl, 1) := by decide +kernel
theorem d_X6_withLetter_3 : decode (D_X6_withLetter).2.1 3 = .ok (.iload_n 2, 1) := by decide +kernel
theorem d_X6_withLetter_4 : decode (D_X6_withLetter).2.1 4 = .ok (.bipush 97, 2) := by decide +kernel
theorem d_X6_withLetter_6 : decode (D_X6_withLetter).2.1 6 = .ok (.isub, 1) := by decide +kernel
theorem d_X6_withLetter_7 : decode (D_X6_withLetter).2.1 7 = .ok (.iconst 1, 1) := by decide +kernel
theorem d_X6_withLetter_8 : decode (D_X6_withLetter).2.1 8 = .ok (.iadd, 1) := by decide +kernel
theorem d_X6_withLetter_9 : decode (D_X6_withLetter).2.1 9 = .ok (.i2l, 1) := by decide +kernel
theorem d_X6_withLetter_10 : decode (D_X6_withLetter).2.1 10 = .ok (.lor, 1) := by decide +kernel
theorem d_X6_withLetter_11 : decode (D_X6_withLetter).2.1 11 = .ok (.lreturn, 1) := by decide +kernel
def f_X6_withLetter (n : Nat) (x0 : Int) (x2 : Int) (M : JMem) : Option (Int × JMem) := some ((jlor (jlshl x0 5) (jw ((x2 - 97) + 1))), M)
set_option maxRecDepth 4000 in
theorem t_X6_withLetter {g : JG} {ad : Nat → Nat} (hs : jStr g ad) (n : Nat) (x0 : Int) (x2 : Int) (M : JMem) : jB g D_X6_withLetter ad 0 [some (jl x0), none, some (ji x2)] [] M (f_X6_withLetter n x0 x2 M) := by
  unfold f_X6_withLetter
  refine jo_lload 0 d_X6_withLetter_0 rfl rfl ?_
  refine jo_iconst 5 d_X6_withLetter_1 ?_
  refine jo_lshl d_X6_withLetter_2 ?_
  refine jo_iload 2 d_X6_withLetter_3 rfl rfl ?_
  refine jo_bipush 97 d_X6_withLetter_4 (by decide) ?_
  refine jo_isub d_X6_withLetter_6 ?_
  refine jo_iconst 1 d_X6_withLetter_7 ?_
  refine jo_iadd d_X6_withLetter_8 ?_
  refine jo_i2l d_X6_withLetter_9 ?_
  refine jo_lor d_X6_withLetter_10 ?_
  exact jo_lret rfl d_X6_withLetter_11
theorem m_X6_withLetter {g : JG} {ad : Nat → Nat} (hs : jStr g ad) (n : Nat) (x0 : Int) (x2 : Int) (M : JMem) : jMet g jNN ad jR D_X6_withLetter yX6_withLetter [jl x0, ji x2] M (f_X6_withLetter n x0 x2 M) :=
  jMet.of (lo0 := [some (jl x0), none, some (ji x2)]) (by decide) rfl rfl (Nat.le_of_ble_eq_true rfl) (And.intro rfl (And.intro rfl True.intro)) (t_X6_withLetter hs n x0 x2 M)
/-! CageLeave$Text.lookAtWord()V -/
def D_X6_lookAtWord : JD := (RX6, cX6_lookAtWord, 4, none, "lookAtWord", { frames := 1, cells := 0, slots := 0, locals := 22 })
theorem ok_X6_lookAtWord : jOk D_X6_lookAtWord yX6_lookAtWord 0 := ⟨jTW_mem (k := 773) (by decide +kernel) rfl, jTW_mem (k := 137) (by decide +kernel) rfl, ⟨by decide +kernel, by decide +kernel⟩, by decide +kernel, rfl, rfl⟩
theorem in_X6_lookAtWord : Cond.instanceMethod yX6_lookAtWord ∈ jTW := jTW_mem (k := 772) (by decide +kernel) rfl
theorem se_X6_lookAtWord : Cond.selects yX6_lookAtWord.cls yX6_lookAtWord yX6_lookAtWord ∈ jTW := jTW_mem (k := 3) (by decide +kernel) rfl
theorem lk_X6_41 : Cond.fieldLink RX6 41 (TX6 9).1 (TX6 9).2.1 (TX6 9).2.2.1 ∈ jTW := jTW_mem (k := 263) (by decide +kernel) rfl
theorem lk_X6_38 : Cond.fieldLink RX6 38 (TX6 8).1 (TX6 8).2.1 (TX6 8).2.2.1 ∈ jTW := jTW_mem (k := 262) (by decide +kernel) rfl
theorem lk_X6_11 : Cond.fieldLink RX6 11 (TX6 0).1 (TX6 0).2.1 (TX6 0).2.2.1 ∈ jTW := jTW_mem (k := 243) (by decide +kernel) rfl
theorem lm_X6_77 : Cond.methodLink RX6 77 yX6_isLetter ∈ jTW := jTW_mem (k := 767) (by decide +kernel) rfl
theorem lk_X6_28 : Cond.fieldLink RX6 28 (TX6 5).1 (TX6 5).2.1 (TX6 5).2.2.1 ∈ jTW := jTW_mem (k := 256) (by decide +kernel) rfl
theorem lm_X6_59 : Cond.methodLink RX6 59 yX6_withLetter ∈ jTW := jTW_mem (k := 240) (by decide +kernel) rfl
theorem lk_X6_34 : Cond.fieldLink RX6 34 (TX6 7).1 (TX6 7).2.1 (TX6 7).2.2.1 ∈ jTW := jTW_mem (k := 259) (by decide +kernel) rfl
theorem lk_X6_44 : Cond.fieldLink RX6 44 (TX6 10).1 (TX6 10).2.1 (TX6 10).2.2.1 ∈ jTW := jTW_mem (k := 264) (by decide +kernel) rfl
theorem d_X6_lookAtWord_0 : decode (D_X6_lookAtWord).2.1 0 = .ok (.lconst 0, 1) := by decide +kernel
theorem d_X6_lookAtWord_1 : decode (D_X6_lookAtWord).2.1 1 = .ok (.lstore_n 1, 1) := by decide +kernel
theorem d_X6_lookAtWord_2 : decode (D_X6_lookAtWord).2.1 2 = .ok (.aload_n 0, 1) := by decide +kernel
theorem d_X6_lookAtWord_3 : decode (D_X6_lookAtWord).2.1 3 = .ok (.getfield 41, 3) := by decide +kernel
theorem d_X6_lookAtWord_6 : decode (D_X6_lookAtWord).2.1 6 = .ok (.aload_n 0, 1) := by decide +kernel
theorem d_X6_lookAtWord_7 : decode (D_X6_lookAtWord).2.1 7 = .ok (.getfield 38, 3) := by decide +kernel
theorem d_X6_lookAtWord_10 : decode (D_X6_lookAtWord).2.1 10 = .ok (.if_icmp .ge 59, 3) := by decide +kernel
theorem d_X6_lookAtWord_13 : decode (D_X6_lookAtWord).2.1 13 = .ok (.aload_n 0, 1) := by decide +kernel
theorem d_X6_lookAtWord_14 : decode (D_X6_lookAtWord).2.1 14 = .ok (.getfield 11, 3) := by decide +kernel
theorem d_X6_lookAtWord_17 : decode (D_X6_lookAtWord).2.1 17 = .ok (.aload_n 0, 1) := by decide +kernel
theorem d_X6_lookAtWord_18 : decode (D_X6_lookAtWord).2.1 18 = .ok (.getfield 41, 3) := by decide +kernel
theorem d_X6_lookAtWord_21 : decode (D_X6_lookAtWord).2.1 21 = .ok (.baload, 1) := by decide +kernel
theorem d_X6_lookAtWord_22 : decode (D_X6_lookAtWord).2.1 22 = .ok (.invokestatic 77, 3) := by decide +kernel
theorem d_X6_lookAtWord_25 : decode (D_X6_lookAtWord).2.1 25 = .ok (.ifCond .eq 44, 3) := by decide +kernel
theorem d_X6_lookAtWord_28 : decode (D_X6_lookAtWord).2.1 28 = .ok (.aload_n 0, 1) := by decide +kernel
theorem d_X6_lookAtWord_29 : decode (D_X6_lookAtWord).2.1 29 = .ok (.getfield 41, 3) := by decide +kernel
theorem d_X6_lookAtWord_32 : decode (D_X6_lookAtWord).2.1 32 = .ok (.aload_n 0, 1) := by decide +kernel
theorem d_X6_lookAtWord_33 : decode (D_X6_lookAtWord).2.1 33 = .ok (.getfield 28, 3) := by decide +kernel
theorem d_X6_lookAtWord_36 : decode (D_X6_lookAtWord).2.1 36 = .ok (.isub, 1) := by decide +kernel
theorem d_X6_lookAtWord_37 : decode (D_X6_lookAtWord).2.1 37 = .ok (.bipush 8, 2) := by decide +kernel
theorem d_X6_lookAtWord_39 : decode (D_X6_lookAtWord).2.1 39 = .ok (.if_icmp .ge 17, 3) := by decide +kernel
theorem d_X6_lookAtWord_42 : decode (D_X6_lookAtWord).2.1 42 = .ok (.lload_n 1, 1) := by decide +kernel
theorem d_X6_lookAtWord_43 : decode (D_X6_lookAtWord).2.1 43 = .ok (.aload_n 0, 1) := by decide +kernel
theorem d_X6_lookAtWord_44 : decode (D_X6_lookAtWord).2.1 44 = .ok (.getfield 11, 3) := by decide +kernel
theorem d_X6_lookAtWord_47 : decode (D_X6_lookAtWord).2.1 47 = .ok (.aload_n 0, 1) := by decide +kernel
theorem d_X6_lookAtWord_48 : decode (D_X6_lookAtWord).2.1 48 = .ok (.getfield 41, 3) := by decide +kernel
theorem d_X6_lookAtWord_51 : decode (D_X6_lookAtWord).2.1 51 = .ok (.baload, 1) := by decide +kernel
theorem d_X6_lookAtWord_52 : decode (D_X6_lookAtWord).2.1 52 = .ok (.invokestatic 59, 3) := by decide +kernel
theorem d_X6_lookAtWord_55 : decode (D_X6_lookAtWord).2.1 55 = .ok (.lstore_n 1, 1) := by decide +kernel
theorem d_X6_lookAtWord_56 : decode (D_X6_lookAtWord).2.1 56 = .ok (.aload_n 0, 1) := by decide +kernel
theorem d_X6_lookAtWord_57 : decode (D_X6_lookAtWord).2.1 57 = .ok (.dup, 1) := by decide +kernel
theorem d_X6_lookAtWord_58 : decode (D_X6_lookAtWord).2.1 58 = .ok (.getfield 41, 3) := by decide +kernel
theorem d_X6_lookAtWord_61 : decode (D_X6_lookAtWord).2.1 61 = .ok (.iconst 1, 1) := by decide +kernel
theorem d_X6_lookAtWord_62 : decode (D_X6_lookAtWord).2.1 62 = .ok (.iadd, 1) := by decide +kernel
theorem d_X6_lookAtWord_63 : decode (D_X6_lookAtWord).2.1 63 = .ok (.putfield 41, 3) := by decide +kernel
theorem d_X6_lookAtWord_66 : decode (D_X6_lookAtWord).2.1 66 = .ok (.goto (-64), 3) := by decide +kernel
theorem d_X6_lookAtWord_69 : decode (D_X6_lookAtWord).2.1 69 = .ok (.aload_n 0, 1) := by decide +kernel
theorem d_X6_lookAtWord_70 : decode (D_X6_lookAtWord).2.1 70 = .ok (.getfield 41, 3) := by decide +kernel
theorem d_X6_lookAtWord_73 : decode (D_X6_lookAtWord).2.1 73 = .ok (.aload_n 0, 1) := by decide +kernel
theorem d_X6_lookAtWord_74 : decode (D_X6_lookAtWord).2.1 74 = .ok (.getfield 28, 3) := by decide +kernel
theorem d_X6_lookAtWord_77 : decode (D_X6_lookAtWord).2.1 77 = .ok (.isub, 1) := by decide +kernel
theorem d_X6_lookAtWord_78 : decode (D_X6_lookAtWord).2.1 78 = .ok (.bipush 8, 2) := by decide +kernel
theorem d_X6_lookAtWord_80 : decode (D_X6_lookAtWord).2.1 80 = .ok (.if_icmp .le 9, 3) := by decide +kernel
theorem d_X6_lookAtWord_83 : decode (D_X6_lookAtWord).2.1 83 = .ok (.aload_n 0, 1) := by decide +kernel
theorem d_X6_lookAtWord_84 : decode (D_X6_lookAtWord).2.1 84 = .ok (.iconst 3, 1) := by decide +kernel
theorem d_X6_lookAtWord_85 : decode (D_X6_lookAtWord).2.1 85 = .ok (.putfield 25, 3) := by decide +kernel
theorem d_X6_lookAtWord_88 : decode (D_X6_lookAtWord).2.1 88 = .ok (.return_, 1) := by decide +kernel
theorem d_X6_lookAtWord_89 : decode (D_X6_lookAtWord).2.1 89 = .ok (.aload_n 0, 1) := by decide +kernel
theorem d_X6_lookAtWord_90 : decode (D_X6_lookAtWord).2.1 90 = .ok (.iconst 2, 1) := by decide +kernel
theorem d_X6_lookAtWord_91 : decode (D_X6_lookAtWord).2.1 91 = .ok (.putfield 25, 3) := by decide +kernel
theorem d_X6_lookAtWord_94 : decode (D_X6_lookAtWord).2.1 94 = .ok (.aload_n 0, 1) := by decide +kernel
theorem d_X6_lookAtWord_95 : decode (D_X6_lookAtWord).2.1 95 = .ok (.lload_n 1, 1) := by decide +kernel
theorem d_X6_lookAtWord_96 : decode (D_X6_lookAtWord).2.1 96 = .ok (.putfield 34, 3) := by decide +kernel
theorem d_X6_lookAtWord_99 : decode (D_X6_lookAtWord).2.1 99 = .ok (.iconst 0, 1) := by decide +kernel
theorem d_X6_lookAtWord_100 : decode (D_X6_lookAtWord).2.1 100 = .ok (.istore_n 3, 1) := by decide +kernel
theorem d_X6_lookAtWord_101 : decode (D_X6_lookAtWord).2.1 101 = .ok (.iload_n 3, 1) := by decide +kernel
theorem d_X6_lookAtWord_102 : decode (D_X6_lookAtWord).2.1 102 = .ok (.bipush 27, 2) := by decide +kernel
theorem d_X6_lookAtWord_104 : decode (D_X6_lookAtWord).2.1 104 = .ok (.if_icmp .ge 30, 3) := by decide +kernel
theorem d_X6_lookAtWord_107 : decode (D_X6_lookAtWord).2.1 107 = .ok (.aload_n 0, 1) := by decide +kernel
theorem d_X6_lookAtWord_108 : decode (D_X6_lookAtWord).2.1 108 = .ok (.getfield 44, 3) := by decide +kernel
theorem d_X6_lookAtWord_111 : decode (D_X6_lookAtWord).2.1 111 = .ok (.iload_n 3, 1) := by decide +kernel
theorem d_X6_lookAtWord_112 : decode (D_X6_lookAtWord).2.1 112 = .ok (.laload, 1) := by decide +kernel
theorem d_X6_lookAtWord_113 : decode (D_X6_lookAtWord).2.1 113 = .ok (.lload_n 1, 1) := by decide +kernel
theorem d_X6_lookAtWord_114 : decode (D_X6_lookAtWord).2.1 114 = .ok (.lcmp, 1) := by decide +kernel
theorem d_X6_lookAtWord_115 : decode (D_X6_lookAtWord).2.1 115 = .ok (.ifCond .ne 13, 3) := by decide +kernel
theorem d_X6_lookAtWord_118 : decode (D_X6_lookAtWord).2.1 118 = .ok (.aload_n 0, 1) := by decide +kernel
theorem d_X6_lookAtWord_119 : decode (D_X6_lookAtWord).2.1 119 = .ok (.iconst 1, 1) := by decide +kernel
theorem d_X6_lookAtWord_120 : decode (D_X6_lookAtWord).2.1 120 = .ok (.putfield 25, 3) := by decide +kernel
theorem d_X6_lookAtWord_123 : decode (D_X6_lookAtWord).2.1 123 = .ok (.aload_n 0, 1) := by decide +kernel
theorem d_X6_lookAtWord_124 : decode (D_X6_lookAtWord).2.1 124 = .ok (.iload_n 3, 1) := by decide +kernel
theorem d_X6_lookAtWord_125 : decode (D_X6_lookAtWord).2.1 125 = .ok (.putfield 31, 3) := by decide +kernel
theorem d_X6_lookAtWord_128 : decode (D_X6_lookAtWord).2.1 128 = .ok (.iinc 3 1, 3) := by decide +kernel
theorem d_X6_lookAtWord_131 : decode (D_X6_lookAtWord).2.1 131 = .ok (.goto (-30), 3) := by decide +kernel
theorem d_X6_lookAtWord_134 : decode (D_X6_lookAtWord).2.1 134 = .ok (.return_, 1) := by decide +kernel
def f_X6_lookAtWord_L56 (n : Nat) (r2 : Int → JMem → Option (Int × JMem)) (v1 : Int) (M : JMem) : Option (Int × JMem) := letm (jup M 9 9 ((M 9 9) + 1)) fun M1 => r2 v1 M1
set_option maxRecDepth 4000 in
theorem t_X6_lookAtWord_L56 {g : JG} {ad : Nat → Nat} (hs : jStr g ad) (n : Nat) (r2 : Int → JMem → Option (Int × JMem)) (hr2 : ∀ (v1 : Int) (M : JMem), jB g D_X6_lookAtWord ad 2 [some (.ref 9), some (jl v1), none, none] [] M (r2 v1 M)) (v1 : Int) (M : JMem) : jB g D_X6_lookAtWord ad 56 [some (.ref 9), some (jl v1), none, none] [] M (f_X6_lookAtWord_L56 n r2 v1 M) := by
  unfold f_X6_lookAtWord_L56
  refine jo_aload 0 d_X6_lookAtWord_56 rfl rfl ?_
  refine jo_dup d_X6_lookAtWord_57 rfl ?_
  refine jo_getI (k := 9) cl_6 (Nat.le_of_ble_eq_true rfl) lk_X6_41 (Or.inl rfl) kc_9 d_X6_lookAtWord_58 ?_
  refine jo_iconst 1 d_X6_lookAtWord_61 ?_
  refine jo_iadd d_X6_lookAtWord_62 ?_
  refine jo_putI (k := 9) cl_6 (Nat.le_of_ble_eq_true rfl) lk_X6_41 rfl rfl kc_9 d_X6_lookAtWord_63 (fun M1 => ?_)
  refine jo_goto 2 d_X6_lookAtWord_66 (by decide) ?_
  exact jO.sub (hr2 v1 M1) (And.intro rfl (And.intro rfl True.intro))
def f_X6_lookAtWord_L128 (n : Nat) (r101 : Int → Int → JMem → Option (Int × JMem)) (v1 v3 : Int) (M : JMem) : Option (Int × JMem) := letv (v3 + 1) fun y1 => r101 v1 y1 M
set_option maxRecDepth 4000 in
theorem t_X6_lookAtWord_L128 {g : JG} {ad : Nat → Nat} (hs : jStr g ad) (n : Nat) (r101 : Int → Int → JMem → Option (Int × JMem)) (hr101 : ∀ (v1 v3 : Int) (M : JMem), jB g D_X6_lookAtWord ad 101 [some (.ref 9), some (jl v1), none, some (ji v3)] [] M (r101 v1 v3 M)) (v1 v3 : Int) (M : JMem) : jB g D_X6_lookAtWord ad 128 [some (.ref 9), some (jl v1), none, some (ji v3)] [] M (f_X6_lookAtWord_L128 n r101 v1 v3 M) := by
  unfold f_X6_lookAtWord_L128
  refine jo_iinc 3 d_X6_lookAtWord_128 rfl (Nat.le_of_ble_eq_true rfl) (fun y1 => ?_)
  refine jo_goto 101 d_X6_lookAtWord_131 (by decide) ?_
  exact jO.sub (hr101 v1 y1 M) (And.intro rfl (And.intro rfl (And.intro rfl True.intro)))
def f_X6_lookAtWord_L101 (n : Nat) : Nat → Int → Int → JMem → Option (Int × JMem)
  | 0, _, _, _ => none
  | k + 1, v1, v3, M => if jw 27 ≤ jw v3 then (some (0, M)) else (chk (jin v3 27) <| if jw (jcmp (M 11 (jw v3).toNat) v1) = 0 then (letm (jup M 9 4 1) fun M1 => letm (jup M1 9 6 v3) fun M2 => f_X6_lookAtWord_L128 n (f_X6_lookAtWord_L101 n k) v1 v3 M2) else (f_X6_lookAtWord_L128 n (f_X6_lookAtWord_L101 n k) v1 v3 M))
set_option maxRecDepth 4000 in
theorem t_X6_lookAtWord_L101 {g : JG} {ad : Nat → Nat} (hs : jStr g ad) (n : Nat) : ∀ (k : Nat) (v1 v3 : Int) (M : JMem), jB g D_X6_lookAtWord ad 101 [some (.ref 9), some (jl v1), none, some (ji v3)] [] M (f_X6_lookAtWord_L101 n k v1 v3 M) := by
  intro k
  induction k with
  | zero => intro v1 v3 M; exact jO.none
  | succ k ih =>
    intro v1 v3 M
    rw [f_X6_lookAtWord_L101]
    refine jo_iload 3 d_X6_lookAtWord_101 rfl rfl ?_
    refine jo_bipush 27 d_X6_lookAtWord_102 (by decide) ?_
    refine jo_icmp_ge 134 d_X6_lookAtWord_104 (by decide) ?_ ?_
    · skip
      exact jo_vret rfl d_X6_lookAtWord_134
    · skip
      refine jo_aload 0 d_X6_lookAtWord_107 rfl rfl ?_
      refine jo_getR (k := 10) cl_6 (Nat.le_of_ble_eq_true rfl) lk_X6_44 rfl kc_9 kr_9_10 d_X6_lookAtWord_108 ?_
      refine jo_iload 3 d_X6_lookAtWord_111 rfl rfl ?_
      refine jo_lald (N := 27) kc_11 d_X6_lookAtWord_112 ?_
      refine jo_lload 1 d_X6_lookAtWord_113 rfl rfl ?_
      refine jo_lcmp d_X6_lookAtWord_114 ?_
      refine jo_if_ne 128 d_X6_lookAtWord_115 (by decide) ?_ ?_
      · skip
        exact jO.sub (t_X6_lookAtWord_L128 hs n (f_X6_lookAtWord_L101 n k) ih v1 v3 M) (And.intro rfl (And.intro rfl (And.intro rfl True.intro)))
      · skip
        refine jo_aload 0 d_X6_lookAtWord_118 rfl rfl ?_
        refine jo_iconst 1 d_X6_lookAtWord_119 ?_
        refine jo_putI (k := 4) cl_6 (Nat.le_of_ble_eq_true rfl) lk_X6_25 rfl rfl kc_9 d_X6_lookAtWord_120 (fun M1 => ?_)
        refine jo_aload 0 d_X6_lookAtWord_123 rfl rfl ?_
        refine jo_iload 3 d_X6_lookAtWord_124 rfl rfl ?_
        refine jo_putI (k := 6) cl_6 (Nat.le_of_ble_eq_true rfl) lk_X6_31 rfl rfl kc_9 d_X6_lookAtWord_125 (fun M2 => ?_)
        exact jO.sub (t_X6_lookAtWord_L128 hs n (f_X6_lookAtWord_L101 n k) ih v1 v3 M2) (And.intro rfl (And.intro rfl (And.intro rfl True.intro)))
def f_X6_lookAtWord_L69 (n : Nat) (v1 : Int) (M : JMem) : Option (Int × JMem) := if jw ((M 9 9) - (M 9 5)) ≤ jw 8 then (letm (jup M 9 4 2) fun M1 => letm (jup M1 9 7 v1) fun M2 => letv 0 fun y3 => f_X6_lookAtWord_L101 n n v1 y3 M2) else (letm (jup M 9 4 3) fun M4 => some (0, M4))
set_option maxRecDepth 4000 in
theorem t_X6_lookAtWord_L69 {g : JG} {ad : Nat → Nat} (hs : jStr g ad) (n : Nat) (v1 : Int) (M : JMem) : jB g D_X6_lookAtWord ad 69 [some (.ref 9), some (jl v1), none, none] [] M (f_X6_lookAtWord_L69 n v1 M) := by
  unfold f_X6_lookAtWord_L69
  refine jo_aload 0 d_X6_lookAtWord_69 rfl rfl ?_
  refine jo_getI (k := 9) cl_6 (Nat.le_of_ble_eq_true rfl) lk_X6_41 (Or.inl rfl) kc_9 d_X6_lookAtWord_70 ?_
  refine jo_aload 0 d_X6_lookAtWord_73 rfl rfl ?_
  refine jo_getI (k := 5) cl_6 (Nat.le_of_ble_eq_true rfl) lk_X6_28 (Or.inl rfl) kc_9 d_X6_lookAtWord_74 ?_
  refine jo_isub d_X6_lookAtWord_77 ?_
  refine jo_bipush 8 d_X6_lookAtWord_78 (by decide) ?_
  refine jo_icmp_le 89 d_X6_lookAtWord_80 (by decide) ?_ ?_
  · skip
    refine jo_aload 0 d_X6_lookAtWord_89 rfl rfl ?_
    refine jo_iconst 2 d_X6_lookAtWord_90 ?_
    refine jo_putI (k := 4) cl_6 (Nat.le_of_ble_eq_true rfl) lk_X6_25 rfl rfl kc_9 d_X6_lookAtWord_91 (fun M1 => ?_)
    refine jo_aload 0 d_X6_lookAtWord_94 rfl rfl ?_
    refine jo_lload 1 d_X6_lookAtWord_95 rfl rfl ?_
    refine jo_putL (k := 7) cl_6 (Nat.le_of_ble_eq_true rfl) lk_X6_34 rfl rfl kc_9 d_X6_lookAtWord_96 (fun M2 => ?_)
    refine jo_iconst 0 d_X6_lookAtWord_99 ?_
    refine jo_istore 3 d_X6_lookAtWord_100 rfl (Nat.le_of_ble_eq_true rfl) (fun y3 => ?_)
    exact jO.sub (t_X6_lookAtWord_L101 hs n n v1 y3 M2) (And.intro rfl (And.intro rfl (And.intro rfl True.intro)))
  · skip
    refine jo_aload 0 d_X6_lookAtWord_83 rfl rfl ?_
    refine jo_iconst 3 d_X6_lookAtWord_84 ?_
    refine jo_putI (k := 4) cl_6 (Nat.le_of_ble_eq_true rfl) lk_X6_25 rfl rfl kc_9 d_X6_lookAtWord_85 (fun M4 => ?_)
    exact jo_vret rfl d_X6_lookAtWord_88
def f_X6_lookAtWord_L2 (n : Nat) : Nat → Int → JMem → Option (Int × JMem)
  | 0, _, _ => none
  | k + 1, v1, M => if jw (M 9 8) ≤ jw (M 9 9) then (f_X6_lookAtWord_L69 n v1 M) else (chk (jin (M 9 9) 900) <| bnd (f_X6_isLetter n (M 10 (jw (M 9 9)).toNat) M) fun r1 M2 => if jw r1 = 0 then (f_X6_lookAtWord_L69 n v1 M2) else (if jw 8 ≤ jw ((M2 9 9) - (M2 9 5)) then (f_X6_lookAtWord_L56 n (f_X6_lookAtWord_L2 n k) v1 M2) else (chk (jin (M2 9 9) 900) <| bnd (f_X6_withLetter n v1 (M2 10 (jw (M2 9 9)).toNat) M2) fun r3 M4 => letv r3 fun y5 => f_X6_lookAtWord_L56 n (f_X6_lookAtWord_L2 n k) y5 M4)))
set_option maxRecDepth 4000 in
theorem t_X6_lookAtWord_L2 {g : JG} {ad : Nat → Nat} (hs : jStr g ad) (n : Nat) : ∀ (k : Nat) (v1 : Int) (M : JMem), jB g D_X6_lookAtWord ad 2 [some (.ref 9), some (jl v1), none, none] [] M (f_X6_lookAtWord_L2 n k v1 M) := by
  intro k
  induction k with
  | zero => intro v1 M; exact jO.none
  | succ k ih =>
    intro v1 M
    rw [f_X6_lookAtWord_L2]
    refine jo_aload 0 d_X6_lookAtWord_2 rfl rfl ?_
    refine jo_getI (k := 9) cl_6 (Nat.le_of_ble_eq_true rfl) lk_X6_41 (Or.inl rfl) kc_9 d_X6_lookAtWord_3 ?_
    refine jo_aload 0 d_X6_lookAtWord_6 rfl rfl ?_
    refine jo_getI (k := 8) cl_6 (Nat.le_of_ble_eq_true rfl) lk_X6_38 (Or.inl rfl) kc_9 d_X6_lookAtWord_7 ?_
    refine jo_icmp_ge 69 d_X6_lookAtWord_10 (by decide) ?_ ?_
    · skip
      exact jO.sub (t_X6_lookAtWord_L69 hs n v1 M) (And.intro rfl (And.intro rfl True.intro))
    · skip
      refine jo_aload 0 d_X6_lookAtWord_13 rfl rfl ?_
      refine jo_getR (k := 0) cl_6 (Nat.le_of_ble_eq_true rfl) lk_X6_11 rfl kc_9 kr_9_0 d_X6_lookAtWord_14 ?_
      refine jo_aload 0 d_X6_lookAtWord_17 rfl rfl ?_
      refine jo_getI (k := 9) cl_6 (Nat.le_of_ble_eq_true rfl) lk_X6_41 (Or.inl rfl) kc_9 d_X6_lookAtWord_18 ?_
      refine jo_bald (N := 900) kc_10 d_X6_lookAtWord_21 ?_
      refine jo_callS (st := []) (m_X6_isLetter hs n (M 10 (jw (M 9 9)).toNat) M) ok_X6_isLetter (And.intro (Nat.le_of_ble_eq_true rfl) (Nat.le_of_ble_eq_true rfl)) lm_X6_77 st_X6_isLetter rfl (And.intro (Nat.zero_le _) (Nat.zero_le _)) rfl (Nat.le_of_ble_eq_true rfl) d_X6_lookAtWord_22 (fun r1 M2 => ?_)
      refine jo_if_eq 69 d_X6_lookAtWord_25 (by decide) ?_ ?_
      · skip
        exact jO.sub (t_X6_lookAtWord_L69 hs n v1 M2) (And.intro rfl (And.intro rfl True.intro))
      · skip
        refine jo_aload 0 d_X6_lookAtWord_28 rfl rfl ?_
        refine jo_getI (k := 9) cl_6 (Nat.le_of_ble_eq_true rfl) lk_X6_41 (Or.inl rfl) kc_9 d_X6_lookAtWord_29 ?_
        refine jo_aload 0 d_X6_lookAtWord_32 rfl rfl ?_
        refine jo_getI (k := 5) cl_6 (Nat.le_of_ble_eq_true rfl) lk_X6_28 (Or.inl rfl) kc_9 d_X6_lookAtWord_33 ?_
        refine jo_isub d_X6_lookAtWord_36 ?_
        refine jo_bipush 8 d_X6_lookAtWord_37 (by decide) ?_
        refine jo_icmp_ge 56 d_X6_lookAtWord_39 (by decide) ?_ ?_
        · skip
          exact jO.sub (t_X6_lookAtWord_L56 hs n (f_X6_lookAtWord_L2 n k) ih v1 M2) (And.intro rfl (And.intro rfl True.intro))
        · skip
          refine jo_lload 1 d_X6_lookAtWord_42 rfl rfl ?_
          refine jo_aload 0 d_X6_lookAtWord_43 rfl rfl ?_
          refine jo_getR (k := 0) cl_6 (Nat.le_of_ble_eq_true rfl) lk_X6_11 rfl kc_9 kr_9_0 d_X6_lookAtWord_44 ?_
          refine jo_aload 0 d_X6_lookAtWord_47 rfl rfl ?_
          refine jo_getI (k := 9) cl_6 (Nat.le_of_ble_eq_true rfl) lk_X6_41 (Or.inl rfl) kc_9 d_X6_lookAtWord_48 ?_
          refine jo_bald (N := 900) kc_10 d_X6_lookAtWord_51 ?_
          refine jo_callS (st := []) (m_X6_withLetter hs n v1 (M2 10 (jw (M2 9 9)).toNat) M2) ok_X6_withLetter (And.intro (Nat.le_of_ble_eq_true rfl) (Nat.le_of_ble_eq_true rfl)) lm_X6_59 st_X6_withLetter rfl (And.intro (Nat.zero_le _) (Nat.zero_le _)) rfl (Nat.le_of_ble_eq_true rfl) d_X6_lookAtWord_52 (fun r3 M4 => ?_)
          refine jo_lstore 1 d_X6_lookAtWord_55 rfl (Nat.le_of_ble_eq_true rfl) (fun y5 => ?_)
          exact jO.sub (t_X6_lookAtWord_L56 hs n (f_X6_lookAtWord_L2 n k) ih y5 M4) (And.intro rfl (And.intro rfl True.intro))
def f_X6_lookAtWord (n : Nat) (M : JMem) : Option (Int × JMem) := letv 0 fun y1 => f_X6_lookAtWord_L2 n n y1 M
set_option maxRecDepth 4000 in
theorem t_X6_lookAtWord {g : JG} {ad : Nat → Nat} (hs : jStr g ad) (n : Nat) (M : JMem) : jB g D_X6_lookAtWord ad 0 [some (.ref 9), none, none, none] [] M (f_X6_lookAtWord n M) := by
  unfold f_X6_lookAtWord
  refine jo_lconst0 d_X6_lookAtWord_0 ?_
  refine jo_lstore 1 d_X6_lookAtWord_1 rfl (Nat.le_of_ble_eq_true rfl) (fun y1 => ?_)
  exact jO.sub (t_X6_lookAtWord_L2 hs n n y1 M) (And.intro rfl (And.intro rfl True.intro))
theorem m_X6_lookAtWord {g : JG} {ad : Nat → Nat} (hs : jStr g ad) (n : Nat) (M : JMem) : jMet g jNN ad jR D_X6_lookAtWord yX6_lookAtWord [.ref 9] M (f_X6_lookAtWord n M) :=
  jMet.of (lo0 := [some (.ref 9), none, none, none]) (by decide) rfl rfl (Nat.le_of_ble_eq_true rfl) (And.intro rfl True.intro) (t_X6_lookAtWord hs n M)
/-! CageLeave$Text.isDigit(I)Z -/
def D_X6_isDigit : JD := (RX6, cX6_isDigit, 1, some .boolean, "isDigit", { frames := 0, cells := 0, slots := 0, locals := 0 })
theorem ok_X6_isDigit : jOk D_X6_isDigit yX6_isDigit 1 := ⟨jTW_mem (k := 776) (by decide +kernel) rfl, jTW_mem (k := 137) (by decide +kernel) rfl, ⟨by decide +kernel, by decide +kernel⟩, by decide +kernel, rfl, rfl⟩
theorem st_X6_isDigit : Cond.static yX6_isDigit ∈ jTW := jTW_mem (k := 775) (by decide +kernel) rfl
theorem d_X6_isDigit_0 : decode (D_X6_isDigit).2.1 0 = .ok (.iload_n 0, 1) := by decide +kernel
theorem d_X6_isDigit_1 : decode (D_X6_isDigit).2.1 1 = .ok (.bipush 48, 2) := by decide +kernel
theorem d_X6_isDigit_3 : decode (D_X6_isDigit).2.1 3 = .ok (.if_icmp .lt 13, 3) := by decide +kernel
theorem d_X6_isDigit_6 : decode (D_X6_isDigit).2.1 6 = .ok (.iload_n 0, 1) := by decide +kernel
theorem d_X6_isDigit_7 : decode (D_X6_isDigit).2.1 7 = .ok (.bipush 57, 2) := by decide +kernel
theorem d_X6_isDigit_9 : decode (D_X6_isDigit).2.1 9 = .ok (.if_icmp .gt 7, 3) := by decide +kernel
theorem d_X6_isDigit_12 : decode (D_X6_isDigit).2.1 12 = .ok (.iconst 1, 1) := by decide +kernel
theorem d_X6_isDigit_13 : decode (D_X6_isDigit).2.1 13 = .ok (.goto 4, 3) := by decide +kernel
theorem d_X6_isDigit_16 : decode (D_X6_isDigit).2.1 16 = .ok (.iconst 0, 1) := by decide +kernel
theorem d_X6_isDigit_17 : decode (D_X6_isDigit).2.1 17 = .ok (.ireturn, 1) := by decide +kernel
def f_X6_isDigit (n : Nat) (x0 : Int) (M : JMem) : Option (Int × JMem) := if jw x0 < jw 48 then (some (0, M)) else (if jw 57 < jw x0 then (some (0, M)) else (some (1, M)))
set_option maxRecDepth 4000 in
theorem t_X6_isDigit {g : JG} {ad : Nat → Nat} (hs : jStr g ad) (n : Nat) (x0 : Int) (M : JMem) : jB g D_X6_isDigit ad 0 [some (ji x0)] [] M (f_X6_isDigit n x0 M) := by
  unfold f_X6_isDigit
  refine jo_iload 0 d_X6_isDigit_0 rfl rfl ?_
  refine jo_bipush 48 d_X6_isDigit_1 (by decide) ?_
  refine jo_icmp_lt 16 d_X6_isDigit_3 (by decide) ?_ ?_
  · skip
    refine jo_iconst 0 d_X6_isDigit_16 ?_
    exact jo_zret rfl (by decide) d_X6_isDigit_17
  · skip
    refine jo_iload 0 d_X6_isDigit_6 rfl rfl ?_
    refine jo_bipush 57 d_X6_isDigit_7 (by decide) ?_
    refine jo_icmp_gt 16 d_X6_isDigit_9 (by decide) ?_ ?_
    · skip
      refine jo_iconst 0 d_X6_isDigit_16 ?_
      exact jo_zret rfl (by decide) d_X6_isDigit_17
    · skip
      refine jo_iconst 1 d_X6_isDigit_12 ?_
      refine jo_goto 17 d_X6_isDigit_13 (by decide) ?_
      exact jo_zret rfl (by decide) d_X6_isDigit_17
theorem m_X6_isDigit {g : JG} {ad : Nat → Nat} (hs : jStr g ad) (n : Nat) (x0 : Int) (M : JMem) : jMet g jNN ad jR D_X6_isDigit yX6_isDigit [ji x0] M (f_X6_isDigit n x0 M) :=
  jMet.of (lo0 := [some (ji x0)]) (by decide) rfl rfl (Nat.le_of_ble_eq_true rfl) (And.intro rfl True.intro) (t_X6_isDigit hs n x0 M)
/-! CageLeave$Text.fail(I)V -/
def D_X6_fail : JD := (RX6, cX6_fail, 2, none, "fail", { frames := 0, cells := 0, slots := 0, locals := 0 })
theorem ok_X6_fail : jOk D_X6_fail yX6_fail 1 := ⟨jTW_mem (k := 784) (by decide +kernel) rfl, jTW_mem (k := 137) (by decide +kernel) rfl, ⟨by decide +kernel, by decide +kernel⟩, by decide +kernel, rfl, rfl⟩
theorem in_X6_fail : Cond.instanceMethod yX6_fail ∈ jTW := jTW_mem (k := 782) (by decide +kernel) rfl
theorem se_X6_fail : Cond.selects yX6_fail.cls yX6_fail yX6_fail ∈ jTW := jTW_mem (k := 783) (by decide +kernel) rfl
theorem lk_X6_19 : Cond.fieldLink RX6 19 (TX6 2).1 (TX6 2).2.1 (TX6 2).2.2.1 ∈ jTW := jTW_mem (k := 246) (by decide +kernel) rfl
theorem lk_X6_22 : Cond.fieldLink RX6 22 (TX6 3).1 (TX6 3).2.1 (TX6 3).2.2.1 ∈ jTW := jTW_mem (k := 250) (by decide +kernel) rfl
theorem d_X6_fail_0 : decode (D_X6_fail).2.1 0 = .ok (.aload_n 0, 1) := by decide +kernel
theorem d_X6_fail_1 : decode (D_X6_fail).2.1 1 = .ok (.getfield 19, 3) := by decide +kernel
theorem d_X6_fail_4 : decode (D_X6_fail).2.1 4 = .ok (.ifCond .ne 16, 3) := by decide +kernel
theorem d_X6_fail_7 : decode (D_X6_fail).2.1 7 = .ok (.aload_n 0, 1) := by decide +kernel
theorem d_X6_fail_8 : decode (D_X6_fail).2.1 8 = .ok (.iload_n 1, 1) := by decide +kernel
theorem d_X6_fail_9 : decode (D_X6_fail).2.1 9 = .ok (.putfield 19, 3) := by decide +kernel
theorem d_X6_fail_12 : decode (D_X6_fail).2.1 12 = .ok (.aload_n 0, 1) := by decide +kernel
theorem d_X6_fail_13 : decode (D_X6_fail).2.1 13 = .ok (.aload_n 0, 1) := by decide +kernel
theorem d_X6_fail_14 : decode (D_X6_fail).2.1 14 = .ok (.getfield 28, 3) := by decide +kernel
theorem d_X6_fail_17 : decode (D_X6_fail).2.1 17 = .ok (.putfield 22, 3) := by decide +kernel
theorem d_X6_fail_20 : decode (D_X6_fail).2.1 20 = .ok (.aload_n 0, 1) := by decide +kernel
theorem d_X6_fail_21 : decode (D_X6_fail).2.1 21 = .ok (.bipush 6, 2) := by decide +kernel
theorem d_X6_fail_23 : decode (D_X6_fail).2.1 23 = .ok (.putfield 25, 3) := by decide +kernel
theorem d_X6_fail_26 : decode (D_X6_fail).2.1 26 = .ok (.return_, 1) := by decide +kernel
def f_X6_fail_L20 (n : Nat) (M : JMem) : Option (Int × JMem) := letm (jup M 9 4 6) fun M1 => some (0, M1)
set_option maxRecDepth 4000 in
theorem t_X6_fail_L20 {g : JG} {ad : Nat → Nat} (hs : jStr g ad) (n : Nat) (M : JMem) : jB g D_X6_fail ad 20 [some (.ref 9), none] [] M (f_X6_fail_L20 n M) := by
  unfold f_X6_fail_L20
  refine jo_aload 0 d_X6_fail_20 rfl rfl ?_
  refine jo_bipush 6 d_X6_fail_21 (by decide) ?_
  refine jo_putI (k := 4) cl_6 (Nat.le_of_ble_eq_true rfl) lk_X6_25 rfl rfl kc_9 d_X6_fail_23 (fun M1 => ?_)
  exact jo_vret rfl d_X6_fail_26
def f_X6_fail (n : Nat) (x1 : Int) (M : JMem) : Option (Int × JMem) := if jw (M 9 2) = 0 then (letm (jup M 9 2 x1) fun M1 => letm (jup M1 9 3 (M1 9 5)) fun M2 => f_X6_fail_L20 n M2) else (f_X6_fail_L20 n M)
set_option maxRecDepth 4000 in
theorem t_X6_fail {g : JG} {ad : Nat → Nat} (hs : jStr g ad) (n : Nat) (x1 : Int) (M : JMem) : jB g D_X6_fail ad 0 [some (.ref 9), some (ji x1)] [] M (f_X6_fail n x1 M) := by
  unfold f_X6_fail
  refine jo_aload 0 d_X6_fail_0 rfl rfl ?_
  refine jo_getI (k := 2) cl_6 (Nat.le_of_ble_eq_true rfl) lk_X6_19 (Or.inl rfl) kc_9 d_X6_fail_1 ?_
  refine jo_if_ne 20 d_X6_fail_4 (by decide) ?_ ?_
  · skip
    exact jO.sub (t_X6_fail_L20 hs n M) (And.intro rfl True.intro)
  · skip
    refine jo_aload 0 d_X6_fail_7 rfl rfl ?_
    refine jo_iload 1 d_X6_fail_8 rfl rfl ?_
    refine jo_putI (k := 2) cl_6 (Nat.le_of_ble_eq_true rfl) lk_X6_19 rfl rfl kc_9 d_X6_fail_9 (fun M1 => ?_)
    refine jo_aload 0 d_X6_fail_12 rfl rfl ?_
    refine jo_aload 0 d_X6_fail_13 rfl rfl ?_
    refine jo_getI (k := 5) cl_6 (Nat.le_of_ble_eq_true rfl) lk_X6_28 (Or.inl rfl) kc_9 d_X6_fail_14 ?_
    refine jo_putI (k := 3) cl_6 (Nat.le_of_ble_eq_true rfl) lk_X6_22 rfl rfl kc_9 d_X6_fail_17 (fun M2 => ?_)
    exact jO.sub (t_X6_fail_L20 hs n M2) (And.intro rfl True.intro)
theorem m_X6_fail {g : JG} {ad : Nat → Nat} (hs : jStr g ad) (n : Nat) (x1 : Int) (M : JMem) : jMet g jNN ad jR D_X6_fail yX6_fail [.ref 9, ji x1] M (f_X6_fail n x1 M) :=
  jMet.of (lo0 := [some (.ref 9), some (ji x1)]) (by decide) rfl rfl (Nat.le_of_ble_eq_true rfl) (And.intro rfl (And.intro rfl True.intro)) (t_X6_fail hs n x1 M)
/-! CageLeave$Text.lookAtNumber()V -/
def D_X6_lookAtNumber : JD := (RX6, cX6_lookAtNumber, 2, none, "lookAtNumber", { frames := 1, cells := 0, slots := 0, locals := 21 })
theorem ok_X6_lookAtNumber : jOk D_X6_lookAtNumber yX6_lookAtNumber 0 := ⟨jTW_mem (k := 780) (by decide +kernel) rfl, jTW_mem (k := 137) (by decide +kernel) rfl, ⟨by decide +kernel, by decide +kernel⟩, by decide +kernel, rfl, rfl⟩
theorem in_X6_lookAtNumber : Cond.instanceMethod yX6_lookAtNumber ∈ jTW := jTW_mem (k := 779) (by decide +kernel) rfl
theorem se_X6_lookAtNumber : Cond.selects yX6_lookAtNumber.cls yX6_lookAtNumber yX6_lookAtNumber ∈ jTW := jTW_mem (k := 4) (by decide +kernel) rfl
theorem lm_X6_70 : Cond.methodLink RX6 70 yX6_fail ∈ jTW := jTW_mem (k := 781) (by decide +kernel) rfl
theorem lm_X6_83 : Cond.methodLink RX6 83 yX6_isDigit ∈ jTW := jTW_mem (k := 774) (by decide +kernel) rfl
theorem d_X6_lookAtNumber_0 : decode (D_X6_lookAtNumber).2.1 0 = .ok (.iconst 0, 1) := by decide +kernel
theorem d_X6_lookAtNumber_1 : decode (D_X6_lookAtNumber).2.1 1 = .ok (.istore_n 1, 1) := by decide +kernel
theorem d_X6_lookAtNumber_2 : decode (D_X6_lookAtNumber).2.1 2 = .ok (.aload_n 0, 1) := by decide +kernel
theorem d_X6_lookAtNumber_3 : decode (D_X6_lookAtNumber).2.1 3 = .ok (.getfield 41, 3) := by decide +kernel
theorem d_X6_lookAtNumber_6 : decode (D_X6_lookAtNumber).2.1 6 = .ok (.aload_n 0, 1) := by decide +kernel
theorem d_X6_lookAtNumber_7 : decode (D_X6_lookAtNumber).2.1 7 = .ok (.getfield 38, 3) := by decide +kernel
theorem d_X6_lookAtNumber_10 : decode (D_X6_lookAtNumber).2.1 10 = .ok (.if_icmp .ge 62, 3) := by decide +kernel
theorem d_X6_lookAtNumber_13 : decode (D_X6_lookAtNumber).2.1 13 = .ok (.aload_n 0, 1) := by decide +kernel
theorem d_X6_lookAtNumber_14 : decode (D_X6_lookAtNumber).2.1 14 = .ok (.getfield 11, 3) := by decide +kernel
theorem d_X6_lookAtNumber_17 : decode (D_X6_lookAtNumber).2.1 17 = .ok (.aload_n 0, 1) := by decide +kernel
theorem d_X6_lookAtNumber_18 : decode (D_X6_lookAtNumber).2.1 18 = .ok (.getfield 41, 3) := by decide +kernel
theorem d_X6_lookAtNumber_21 : decode (D_X6_lookAtNumber).2.1 21 = .ok (.baload, 1) := by decide +kernel
theorem d_X6_lookAtNumber_22 : decode (D_X6_lookAtNumber).2.1 22 = .ok (.invokestatic 83, 3) := by decide +kernel
theorem d_X6_lookAtNumber_25 : decode (D_X6_lookAtNumber).2.1 25 = .ok (.ifCond .eq 47, 3) := by decide +kernel
theorem d_X6_lookAtNumber_28 : decode (D_X6_lookAtNumber).2.1 28 = .ok (.aload_n 0, 1) := by decide +kernel
theorem d_X6_lookAtNumber_29 : decode (D_X6_lookAtNumber).2.1 29 = .ok (.getfield 41, 3) := by decide +kernel
theorem d_X6_lookAtNumber_32 : decode (D_X6_lookAtNumber).2.1 32 = .ok (.aload_n 0, 1) := by decide +kernel
theorem d_X6_lookAtNumber_33 : decode (D_X6_lookAtNumber).2.1 33 = .ok (.getfield 28, 3) := by decide +kernel
theorem d_X6_lookAtNumber_36 : decode (D_X6_lookAtNumber).2.1 36 = .ok (.isub, 1) := by decide +kernel
theorem d_X6_lookAtNumber_37 : decode (D_X6_lookAtNumber).2.1 37 = .ok (.iconst 4, 1) := by decide +kernel
theorem d_X6_lookAtNumber_38 : decode (D_X6_lookAtNumber).2.1 38 = .ok (.if_icmp .ge 21, 3) := by decide +kernel
theorem d_X6_lookAtNumber_41 : decode (D_X6_lookAtNumber).2.1 41 = .ok (.iload_n 1, 1) := by decide +kernel
theorem d_X6_lookAtNumber_42 : decode (D_X6_lookAtNumber).2.1 42 = .ok (.bipush 10, 2) := by decide +kernel
theorem d_X6_lookAtNumber_44 : decode (D_X6_lookAtNumber).2.1 44 = .ok (.imul, 1) := by decide +kernel
theorem d_X6_lookAtNumber_45 : decode (D_X6_lookAtNumber).2.1 45 = .ok (.aload_n 0, 1) := by decide +kernel
theorem d_X6_lookAtNumber_46 : decode (D_X6_lookAtNumber).2.1 46 = .ok (.getfield 11, 3) := by decide +kernel
theorem d_X6_lookAtNumber_49 : decode (D_X6_lookAtNumber).2.1 49 = .ok (.aload_n 0, 1) := by decide +kernel
theorem d_X6_lookAtNumber_50 : decode (D_X6_lookAtNumber).2.1 50 = .ok (.getfield 41, 3) := by decide +kernel
theorem d_X6_lookAtNumber_53 : decode (D_X6_lookAtNumber).2.1 53 = .ok (.baload, 1) := by decide +kernel
theorem d_X6_lookAtNumber_54 : decode (D_X6_lookAtNumber).2.1 54 = .ok (.bipush 48, 2) := by decide +kernel
theorem d_X6_lookAtNumber_56 : decode (D_X6_lookAtNumber).2.1 56 = .ok (.isub, 1) := by decide +kernel
theorem d_X6_lookAtNumber_57 : decode (D_X6_lookAtNumber).2.1 57 = .ok (.iadd, 1) := by decide +kernel
theorem d_X6_lookAtNumber_58 : decode (D_X6_lookAtNumber).2.1 58 = .ok (.istore_n 1, 1) := by decide +kernel
theorem d_X6_lookAtNumber_59 : decode (D_X6_lookAtNumber).2.1 59 = .ok (.aload_n 0, 1) := by decide +kernel
theorem d_X6_lookAtNumber_60 : decode (D_X6_lookAtNumber).2.1 60 = .ok (.dup, 1) := by decide +kernel
theorem d_X6_lookAtNumber_61 : decode (D_X6_lookAtNumber).2.1 61 = .ok (.getfield 41, 3) := by decide +kernel
theorem d_X6_lookAtNumber_64 : decode (D_X6_lookAtNumber).2.1 64 = .ok (.iconst 1, 1) := by decide +kernel
theorem d_X6_lookAtNumber_65 : decode (D_X6_lookAtNumber).2.1 65 = .ok (.iadd, 1) := by decide +kernel
theorem d_X6_lookAtNumber_66 : decode (D_X6_lookAtNumber).2.1 66 = .ok (.putfield 41, 3) := by decide +kernel
theorem d_X6_lookAtNumber_69 : decode (D_X6_lookAtNumber).2.1 69 = .ok (.goto (-67), 3) := by decide +kernel
theorem d_X6_lookAtNumber_72 : decode (D_X6_lookAtNumber).2.1 72 = .ok (.aload_n 0, 1) := by decide +kernel
theorem d_X6_lookAtNumber_73 : decode (D_X6_lookAtNumber).2.1 73 = .ok (.getfield 41, 3) := by decide +kernel
theorem d_X6_lookAtNumber_76 : decode (D_X6_lookAtNumber).2.1 76 = .ok (.aload_n 0, 1) := by decide +kernel
theorem d_X6_lookAtNumber_77 : decode (D_X6_lookAtNumber).2.1 77 = .ok (.getfield 28, 3) := by decide +kernel
theorem d_X6_lookAtNumber_80 : decode (D_X6_lookAtNumber).2.1 80 = .ok (.isub, 1) := by decide +kernel
theorem d_X6_lookAtNumber_81 : decode (D_X6_lookAtNumber).2.1 81 = .ok (.iconst 4, 1) := by decide +kernel
theorem d_X6_lookAtNumber_82 : decode (D_X6_lookAtNumber).2.1 82 = .ok (.if_icmp .le 9, 3) := by decide +kernel
theorem d_X6_lookAtNumber_85 : decode (D_X6_lookAtNumber).2.1 85 = .ok (.aload_n 0, 1) := by decide +kernel
theorem d_X6_lookAtNumber_86 : decode (D_X6_lookAtNumber).2.1 86 = .ok (.iconst 1, 1) := by decide +kernel
theorem d_X6_lookAtNumber_87 : decode (D_X6_lookAtNumber).2.1 87 = .ok (.invokevirtual 70, 3) := by decide +kernel
theorem d_X6_lookAtNumber_90 : decode (D_X6_lookAtNumber).2.1 90 = .ok (.return_, 1) := by decide +kernel
theorem d_X6_lookAtNumber_91 : decode (D_X6_lookAtNumber).2.1 91 = .ok (.aload_n 0, 1) := by decide +kernel
theorem d_X6_lookAtNumber_92 : decode (D_X6_lookAtNumber).2.1 92 = .ok (.iconst 4, 1) := by decide +kernel
theorem d_X6_lookAtNumber_93 : decode (D_X6_lookAtNumber).2.1 93 = .ok (.putfield 25, 3) := by decide +kernel
theorem d_X6_lookAtNumber_96 : decode (D_X6_lookAtNumber).2.1 96 = .ok (.aload_n 0, 1) := by decide +kernel
theorem d_X6_lookAtNumber_97 : decode (D_X6_lookAtNumber).2.1 97 = .ok (.iload_n 1, 1) := by decide +kernel
theorem d_X6_lookAtNumber_98 : decode (D_X6_lookAtNumber).2.1 98 = .ok (.putfield 31, 3) := by decide +kernel
theorem d_X6_lookAtNumber_101 : decode (D_X6_lookAtNumber).2.1 101 = .ok (.return_, 1) := by decide +kernel
def f_X6_lookAtNumber_L59 (n : Nat) (r2 : Int → JMem → Option (Int × JMem)) (v1 : Int) (M : JMem) : Option (Int × JMem) := letm (jup M 9 9 ((M 9 9) + 1)) fun M1 => r2 v1 M1
set_option maxRecDepth 4000 in
theorem t_X6_lookAtNumber_L59 {g : JG} {ad : Nat → Nat} (hs : jStr g ad) (n : Nat) (r2 : Int → JMem → Option (Int × JMem)) (hr2 : ∀ (v1 : Int) (M : JMem), jB g D_X6_lookAtNumber ad 2 [some (.ref 9), some (ji v1)] [] M (r2 v1 M)) (v1 : Int) (M : JMem) : jB g D_X6_lookAtNumber ad 59 [some (.ref 9), some (ji v1)] [] M (f_X6_lookAtNumber_L59 n r2 v1 M) := by
  unfold f_X6_lookAtNumber_L59
  refine jo_aload 0 d_X6_lookAtNumber_59 rfl rfl ?_
  refine jo_dup d_X6_lookAtNumber_60 rfl ?_
  refine jo_getI (k := 9) cl_6 (Nat.le_of_ble_eq_true rfl) lk_X6_41 (Or.inl rfl) kc_9 d_X6_lookAtNumber_61 ?_
  refine jo_iconst 1 d_X6_lookAtNumber_64 ?_
  refine jo_iadd d_X6_lookAtNumber_65 ?_
  refine jo_putI (k := 9) cl_6 (Nat.le_of_ble_eq_true rfl) lk_X6_41 rfl rfl kc_9 d_X6_lookAtNumber_66 (fun M1 => ?_)
  refine jo_goto 2 d_X6_lookAtNumber_69 (by decide) ?_
  exact jO.sub (hr2 v1 M1) (And.intro rfl (And.intro rfl True.intro))
def f_X6_lookAtNumber_L72 (n : Nat) (v1 : Int) (M : JMem) : Option (Int × JMem) := if jw ((M 9 9) - (M 9 5)) ≤ jw 4 then (letm (jup M 9 4 4) fun M1 => letm (jup M1 9 6 v1) fun M2 => some (0, M2)) else (bnd (f_X6_fail n 1 M) fun _ M4 => some (0, M4))
set_option maxRecDepth 4000 in
theorem t_X6_lookAtNumber_L72 {g : JG} {ad : Nat → Nat} (hs : jStr g ad) (n : Nat) (v1 : Int) (M : JMem) : jB g D_X6_lookAtNumber ad 72 [some (.ref 9), some (ji v1)] [] M (f_X6_lookAtNumber_L72 n v1 M) := by
  unfold f_X6_lookAtNumber_L72
  refine jo_aload 0 d_X6_lookAtNumber_72 rfl rfl ?_
  refine jo_getI (k := 9) cl_6 (Nat.le_of_ble_eq_true rfl) lk_X6_41 (Or.inl rfl) kc_9 d_X6_lookAtNumber_73 ?_
  refine jo_aload 0 d_X6_lookAtNumber_76 rfl rfl ?_
  refine jo_getI (k := 5) cl_6 (Nat.le_of_ble_eq_true rfl) lk_X6_28 (Or.inl rfl) kc_9 d_X6_lookAtNumber_77 ?_
  refine jo_isub d_X6_lookAtNumber_80 ?_
  refine jo_iconst 4 d_X6_lookAtNumber_81 ?_
  refine jo_icmp_le 91 d_X6_lookAtNumber_82 (by decide) ?_ ?_
  · skip
    refine jo_aload 0 d_X6_lookAtNumber_91 rfl rfl ?_
    refine jo_iconst 4 d_X6_lookAtNumber_92 ?_
    refine jo_putI (k := 4) cl_6 (Nat.le_of_ble_eq_true rfl) lk_X6_25 rfl rfl kc_9 d_X6_lookAtNumber_93 (fun M1 => ?_)
    refine jo_aload 0 d_X6_lookAtNumber_96 rfl rfl ?_
    refine jo_iload 1 d_X6_lookAtNumber_97 rfl rfl ?_
    refine jo_putI (k := 6) cl_6 (Nat.le_of_ble_eq_true rfl) lk_X6_31 rfl rfl kc_9 d_X6_lookAtNumber_98 (fun M2 => ?_)
    exact jo_vret rfl d_X6_lookAtNumber_101
  · skip
    refine jo_aload 0 d_X6_lookAtNumber_85 rfl rfl ?_
    refine jo_iconst 1 d_X6_lookAtNumber_86 ?_
    refine jo_callV (st := []) (m_X6_fail hs n 1 M) ok_X6_fail (And.intro (Nat.le_of_ble_eq_true rfl) (Nat.le_of_ble_eq_true rfl)) lm_X6_70 in_X6_fail se_X6_fail rfl kc_9 rfl rfl (And.intro (Nat.zero_le _) (Nat.zero_le _)) rfl (Nat.le_of_ble_eq_true rfl) d_X6_lookAtNumber_87 (fun _ M4 => ?_)
    exact jo_vret rfl d_X6_lookAtNumber_90
def f_X6_lookAtNumber_L2 (n : Nat) : Nat → Int → JMem → Option (Int × JMem)
  | 0, _, _ => none
  | k + 1, v1, M => if jw (M 9 8) ≤ jw (M 9 9) then (f_X6_lookAtNumber_L72 n v1 M) else (chk (jin (M 9 9) 900) <| bnd (f_X6_isDigit n (M 10 (jw (M 9 9)).toNat) M) fun r1 M2 => if jw r1 = 0 then (f_X6_lookAtNumber_L72 n v1 M2) else (if jw 4 ≤ jw ((M2 9 9) - (M2 9 5)) then (f_X6_lookAtNumber_L59 n (f_X6_lookAtNumber_L2 n k) v1 M2) else (chk (jin (M2 9 9) 900) <| letv ((v1 * 10) + ((M2 10 (jw (M2 9 9)).toNat) - 48)) fun y3 => f_X6_lookAtNumber_L59 n (f_X6_lookAtNumber_L2 n k) y3 M2)))
set_option maxRecDepth 4000 in
theorem t_X6_lookAtNumber_L2 {g : JG} {ad : Nat → Nat} (hs : jStr g ad) (n : Nat) : ∀ (k : Nat) (v1 : Int) (M : JMem), jB g D_X6_lookAtNumber ad 2 [some (.ref 9), some (ji v1)] [] M (f_X6_lookAtNumber_L2 n k v1 M) := by
  intro k
  induction k with
  | zero => intro v1 M; exact jO.none
  | succ k ih =>
    intro v1 M
    rw [f_X6_lookAtNumber_L2]
    refine jo_aload 0 d_X6_lookAtNumber_2 rfl rfl ?_
    refine jo_getI (k := 9) cl_6 (Nat.le_of_ble_eq_true rfl) lk_X6_41 (Or.inl rfl) kc_9 d_X6_lookAtNumber_3 ?_
    refine jo_aload 0 d_X6_lookAtNumber_6 rfl rfl ?_
    refine jo_getI (k := 8) cl_6 (Nat.le_of_ble_eq_true rfl) lk_X6_38 (Or.inl rfl) kc_9 d_X6_lookAtNumber_7 ?_
    refine jo_icmp_ge 72 d_X6_lookAtNumber_10 (by decide) ?_ ?_
    · skip
      exact jO.sub (t_X6_lookAtNumber_L72 hs n v1 M) (And.intro rfl (And.intro rfl True.intro))
    · skip
      refine jo_aload 0 d_X6_lookAtNumber_13 rfl rfl ?_
      refine jo_getR (k := 0) cl_6 (Nat.le_of_ble_eq_true rfl) lk_X6_11 rfl kc_9 kr_9_0 d_X6_lookAtNumber_14 ?_
      refine jo_aload 0 d_X6_lookAtNumber_17 rfl rfl ?_
      refine jo_getI (k := 9) cl_6 (Nat.le_of_ble_eq_true rfl) lk_X6_41 (Or.inl rfl) kc_9 d_X6_lookAtNumber_18 ?_
      refine jo_bald (N := 900) kc_10 d_X6_lookAtNumber_21 ?_
      refine jo_callS (st := []) (m_X6_isDigit hs n (M 10 (jw (M 9 9)).toNat) M) ok_X6_isDigit (And.intro (Nat.le_of_ble_eq_true rfl) (Nat.le_of_ble_eq_true rfl)) lm_X6_83 st_X6_isDigit rfl (And.intro (Nat.zero_le _) (Nat.zero_le _)) rfl (Nat.le_of_ble_eq_true rfl) d_X6_lookAtNumber_22 (fun r1 M2 => ?_)
      refine jo_if_eq 72 d_X6_lookAtNumber_25 (by decide) ?_ ?_
      · skip
        exact jO.sub (t_X6_lookAtNumber_L72 hs n v1 M2) (And.intro rfl (And.intro rfl True.intro))
      · skip
        refine jo_aload 0 d_X6_lookAtNumber_28 rfl rfl ?_
        refine jo_getI (k := 9) cl_6 (Nat.le_of_ble_eq_true rfl) lk_X6_41 (Or.inl rfl) kc_9 d_X6_lookAtNumber_29 ?_
        refine jo_aload 0 d_X6_lookAtNumber_32 rfl rfl ?_
        refine jo_getI (k := 5) cl_6 (Nat.le_of_ble_eq_true rfl) lk_X6_28 (Or.inl rfl) kc_9 d_X6_lookAtNumber_33 ?_
        refine jo_isub d_X6_lookAtNumber_36 ?_
        refine jo_iconst 4 d_X6_lookAtNumber_37 ?_
        refine jo_icmp_ge 59 d_X6_lookAtNumber_38 (by decide) ?_ ?_
        · skip
          exact jO.sub (t_X6_lookAtNumber_L59 hs n (f_X6_lookAtNumber_L2 n k) ih v1 M2) (And.intro rfl (And.intro rfl True.intro))
        · skip
          refine jo_iload 1 d_X6_lookAtNumber_41 rfl rfl ?_
          refine jo_bipush 10 d_X6_lookAtNumber_42 (by decide) ?_
          refine jo_imul d_X6_lookAtNumber_44 ?_
          refine jo_aload 0 d_X6_lookAtNumber_45 rfl rfl ?_
          refine jo_getR (k := 0) cl_6 (Nat.le_of_ble_eq_true rfl) lk_X6_11 rfl kc_9 kr_9_0 d_X6_lookAtNumber_46 ?_
          refine jo_aload 0 d_X6_lookAtNumber_49 rfl rfl ?_
          refine jo_getI (k := 9) cl_6 (Nat.le_of_ble_eq_true rfl) lk_X6_41 (Or.inl rfl) kc_9 d_X6_lookAtNumber_50 ?_
          refine jo_bald (N := 900) kc_10 d_X6_lookAtNumber_53 ?_
          refine jo_bipush 48 d_X6_lookAtNumber_54 (by decide) ?_
          refine jo_isub d_X6_lookAtNumber_56 ?_
          refine jo_iadd d_X6_lookAtNumber_57 ?_
          refine jo_istore 1 d_X6_lookAtNumber_58 rfl (Nat.le_of_ble_eq_true rfl) (fun y3 => ?_)
          exact jO.sub (t_X6_lookAtNumber_L59 hs n (f_X6_lookAtNumber_L2 n k) ih y3 M2) (And.intro rfl (And.intro rfl True.intro))
def f_X6_lookAtNumber (n : Nat) (M : JMem) : Option (Int × JMem) := letv 0 fun y1 => f_X6_lookAtNumber_L2 n n y1 M
set_option maxRecDepth 4000 in
theorem t_X6_lookAtNumber {g : JG} {ad : Nat → Nat} (hs : jStr g ad) (n : Nat) (M : JMem) : jB g D_X6_lookAtNumber ad 0 [some (.ref 9), none] [] M (f_X6_lookAtNumber n M) := by
  unfold f_X6_lookAtNumber
  refine jo_iconst 0 d_X6_lookAtNumber_0 ?_
  refine jo_istore 1 d_X6_lookAtNumber_1 rfl (Nat.le_of_ble_eq_true rfl) (fun y1 => ?_)
  exact jO.sub (t_X6_lookAtNumber_L2 hs n n y1 M) (And.intro rfl (And.intro rfl True.intro))
theorem m_X6_lookAtNumber {g : JG} {ad : Nat → Nat} (hs : jStr g ad) (n : Nat) (M : JMem) : jMet g jNN ad jR D_X6_lookAtNumber yX6_lookAtNumber [.ref 9] M (f_X6_lookAtNumber n M) :=
  jMet.of (lo0 := [some (.ref 9), none]) (by decide) rfl rfl (Nat.le_of_ble_eq_true rfl) (And.intro rfl True.intro) (t_X6_lookAtNumber hs n M)
/-! CageLeave$Text.advance()V -/
def D_X6_advance : JD := (RX6, cX6_advance, 2, none, "advance", { frames := 2, cells := 0, slots := 0, locals := 45 })
theorem ok_X6_advance : jOk D_X6_advance yX6_advance 0 := ⟨jTW_mem (k := 763) (by decide +kernel) rfl, jTW_mem (k := 137) (by decide +kernel) rfl, ⟨by decide +kernel, by decide +kernel⟩, by decide +kernel, rfl, rfl⟩
theorem in_X6_advance : Cond.instanceMethod yX6_advance ∈ jTW := jTW_mem (k := 761) (by decide +kernel) rfl
theorem se_X6_advance : Cond.selects yX6_advance.cls yX6_advance yX6_advance ∈ jTW := jTW_mem (k := 762) (by decide +kernel) rfl
theorem lm_X6_74 : Cond.methodLink RX6 74 yX6_isBlank ∈ jTW := jTW_mem (k := 764) (by decide +kernel) rfl
theorem lm_X6_86 : Cond.methodLink RX6 86 yX6_lookAtNumber ∈ jTW := jTW_mem (k := 777) (by decide +kernel) rfl
theorem lm_X6_80 : Cond.methodLink RX6 80 yX6_lookAtWord ∈ jTW := jTW_mem (k := 770) (by decide +kernel) rfl
theorem d_X6_advance_0 : decode (D_X6_advance).2.1 0 = .ok (.aload_n 0, 1) := by decide +kernel
theorem d_X6_advance_1 : decode (D_X6_advance).2.1 1 = .ok (.getfield 19, 3) := by decide +kernel
theorem d_X6_advance_4 : decode (D_X6_advance).2.1 4 = .ok (.ifCond .eq 4, 3) := by decide +kernel
theorem d_X6_advance_7 : decode (D_X6_advance).2.1 7 = .ok (.return_, 1) := by decide +kernel
theorem d_X6_advance_8 : decode (D_X6_advance).2.1 8 = .ok (.aload_n 0, 1) := by decide +kernel
theorem d_X6_advance_9 : decode (D_X6_advance).2.1 9 = .ok (.getfield 41, 3) := by decide +kernel
theorem d_X6_advance_12 : decode (D_X6_advance).2.1 12 = .ok (.aload_n 0, 1) := by decide +kernel
theorem d_X6_advance_13 : decode (D_X6_advance).2.1 13 = .ok (.getfield 38, 3) := by decide +kernel
theorem d_X6_advance_16 : decode (D_X6_advance).2.1 16 = .ok (.if_icmp .ge 31, 3) := by decide +kernel
theorem d_X6_advance_19 : decode (D_X6_advance).2.1 19 = .ok (.aload_n 0, 1) := by decide +kernel
theorem d_X6_advance_20 : decode (D_X6_advance).2.1 20 = .ok (.getfield 11, 3) := by decide +kernel
theorem d_X6_advance_23 : decode (D_X6_advance).2.1 23 = .ok (.aload_n 0, 1) := by decide +kernel
theorem d_X6_advance_24 : decode (D_X6_advance).2.1 24 = .ok (.getfield 41, 3) := by decide +kernel
theorem d_X6_advance_27 : decode (D_X6_advance).2.1 27 = .ok (.baload, 1) := by decide +kernel
theorem d_X6_advance_28 : decode (D_X6_advance).2.1 28 = .ok (.invokestatic 74, 3) := by decide +kernel
theorem d_X6_advance_31 : decode (D_X6_advance).2.1 31 = .ok (.ifCond .eq 16, 3) := by decide +kernel
theorem d_X6_advance_34 : decode (D_X6_advance).2.1 34 = .ok (.aload_n 0, 1) := by decide +kernel
theorem d_X6_advance_35 : decode (D_X6_advance).2.1 35 = .ok (.dup, 1) := by decide +kernel
theorem d_X6_advance_36 : decode (D_X6_advance).2.1 36 = .ok (.getfield 41, 3) := by decide +kernel
theorem d_X6_advance_39 : decode (D_X6_advance).2.1 39 = .ok (.iconst 1, 1) := by decide +kernel
theorem d_X6_advance_40 : decode (D_X6_advance).2.1 40 = .ok (.iadd, 1) := by decide +kernel
theorem d_X6_advance_41 : decode (D_X6_advance).2.1 41 = .ok (.putfield 41, 3) := by decide +kernel
theorem d_X6_advance_44 : decode (D_X6_advance).2.1 44 = .ok (.goto (-36), 3) := by decide +kernel
theorem d_X6_advance_47 : decode (D_X6_advance).2.1 47 = .ok (.aload_n 0, 1) := by decide +kernel
theorem d_X6_advance_48 : decode (D_X6_advance).2.1 48 = .ok (.aload_n 0, 1) := by decide +kernel
theorem d_X6_advance_49 : decode (D_X6_advance).2.1 49 = .ok (.getfield 41, 3) := by decide +kernel
theorem d_X6_advance_52 : decode (D_X6_advance).2.1 52 = .ok (.putfield 28, 3) := by decide +kernel
theorem d_X6_advance_55 : decode (D_X6_advance).2.1 55 = .ok (.aload_n 0, 1) := by decide +kernel
theorem d_X6_advance_56 : decode (D_X6_advance).2.1 56 = .ok (.getfield 41, 3) := by decide +kernel
theorem d_X6_advance_59 : decode (D_X6_advance).2.1 59 = .ok (.aload_n 0, 1) := by decide +kernel
theorem d_X6_advance_60 : decode (D_X6_advance).2.1 60 = .ok (.getfield 38, 3) := by decide +kernel
theorem d_X6_advance_63 : decode (D_X6_advance).2.1 63 = .ok (.if_icmp .lt 9, 3) := by decide +kernel
theorem d_X6_advance_66 : decode (D_X6_advance).2.1 66 = .ok (.aload_n 0, 1) := by decide +kernel
theorem d_X6_advance_67 : decode (D_X6_advance).2.1 67 = .ok (.iconst 0, 1) := by decide +kernel
theorem d_X6_advance_68 : decode (D_X6_advance).2.1 68 = .ok (.putfield 25, 3) := by decide +kernel
theorem d_X6_advance_71 : decode (D_X6_advance).2.1 71 = .ok (.return_, 1) := by decide +kernel
theorem d_X6_advance_72 : decode (D_X6_advance).2.1 72 = .ok (.aload_n 0, 1) := by decide +kernel
theorem d_X6_advance_73 : decode (D_X6_advance).2.1 73 = .ok (.getfield 11, 3) := by decide +kernel
theorem d_X6_advance_76 : decode (D_X6_advance).2.1 76 = .ok (.aload_n 0, 1) := by decide +kernel
theorem d_X6_advance_77 : decode (D_X6_advance).2.1 77 = .ok (.getfield 41, 3) := by decide +kernel
theorem d_X6_advance_80 : decode (D_X6_advance).2.1 80 = .ok (.baload, 1) := by decide +kernel
theorem d_X6_advance_81 : decode (D_X6_advance).2.1 81 = .ok (.istore_n 1, 1) := by decide +kernel
theorem d_X6_advance_82 : decode (D_X6_advance).2.1 82 = .ok (.iload_n 1, 1) := by decide +kernel
theorem d_X6_advance_83 : decode (D_X6_advance).2.1 83 = .ok (.invokestatic 77, 3) := by decide +kernel
theorem d_X6_advance_86 : decode (D_X6_advance).2.1 86 = .ok (.ifCond .eq 10, 3) := by decide +kernel
theorem d_X6_advance_89 : decode (D_X6_advance).2.1 89 = .ok (.aload_n 0, 1) := by decide +kernel
theorem d_X6_advance_90 : decode (D_X6_advance).2.1 90 = .ok (.invokevirtual 80, 3) := by decide +kernel
theorem d_X6_advance_93 : decode (D_X6_advance).2.1 93 = .ok (.goto 69, 3) := by decide +kernel
theorem d_X6_advance_96 : decode (D_X6_advance).2.1 96 = .ok (.iload_n 1, 1) := by decide +kernel
theorem d_X6_advance_97 : decode (D_X6_advance).2.1 97 = .ok (.invokestatic 83, 3) := by decide +kernel
theorem d_X6_advance_100 : decode (D_X6_advance).2.1 100 = .ok (.ifCond .eq 10, 3) := by decide +kernel
theorem d_X6_advance_103 : decode (D_X6_advance).2.1 103 = .ok (.aload_n 0, 1) := by decide +kernel
theorem d_X6_advance_104 : decode (D_X6_advance).2.1 104 = .ok (.invokevirtual 86, 3) := by decide +kernel
theorem d_X6_advance_107 : decode (D_X6_advance).2.1 107 = .ok (.goto 55, 3) := by decide +kernel
theorem d_X6_advance_110 : decode (D_X6_advance).2.1 110 = .ok (.iload_n 1, 1) := by decide +kernel
theorem d_X6_advance_111 : decode (D_X6_advance).2.1 111 = .ok (.bipush 59, 2) := by decide +kernel
theorem d_X6_advance_113 : decode (D_X6_advance).2.1 113 = .ok (.if_icmp .eq 21, 3) := by decide +kernel
theorem d_X6_advance_116 : decode (D_X6_advance).2.1 116 = .ok (.iload_n 1, 1) := by decide +kernel
theorem d_X6_advance_117 : decode (D_X6_advance).2.1 117 = .ok (.bipush 60, 2) := by decide +kernel
theorem d_X6_advance_119 : decode (D_X6_advance).2.1 119 = .ok (.if_icmp .eq 15, 3) := by decide +kernel
theorem d_X6_advance_122 : decode (D_X6_advance).2.1 122 = .ok (.iload_n 1, 1) := by decide +kernel
theorem d_X6_advance_123 : decode (D_X6_advance).2.1 123 = .ok (.bipush 62, 2) := by decide +kernel
theorem d_X6_advance_125 : decode (D_X6_advance).2.1 125 = .ok (.if_icmp .eq 9, 3) := by decide +kernel
theorem d_X6_advance_128 : decode (D_X6_advance).2.1 128 = .ok (.iload_n 1, 1) := by decide +kernel
theorem d_X6_advance_129 : decode (D_X6_advance).2.1 129 = .ok (.bipush 61, 2) := by decide +kernel
theorem d_X6_advance_131 : decode (D_X6_advance).2.1 131 = .ok (.if_icmp .ne 26, 3) := by decide +kernel
theorem d_X6_advance_134 : decode (D_X6_advance).2.1 134 = .ok (.aload_n 0, 1) := by decide +kernel
theorem d_X6_advance_135 : decode (D_X6_advance).2.1 135 = .ok (.iconst 5, 1) := by decide +kernel
theorem d_X6_advance_136 : decode (D_X6_advance).2.1 136 = .ok (.putfield 25, 3) := by decide +kernel
theorem d_X6_advance_139 : decode (D_X6_advance).2.1 139 = .ok (.aload_n 0, 1) := by decide +kernel
theorem d_X6_advance_140 : decode (D_X6_advance).2.1 140 = .ok (.iload_n 1, 1) := by decide +kernel
theorem d_X6_advance_141 : decode (D_X6_advance).2.1 141 = .ok (.putfield 31, 3) := by decide +kernel
theorem d_X6_advance_144 : decode (D_X6_advance).2.1 144 = .ok (.aload_n 0, 1) := by decide +kernel
theorem d_X6_advance_145 : decode (D_X6_advance).2.1 145 = .ok (.dup, 1) := by decide +kernel
theorem d_X6_advance_146 : decode (D_X6_advance).2.1 146 = .ok (.getfield 41, 3) := by decide +kernel
theorem d_X6_advance_149 : decode (D_X6_advance).2.1 149 = .ok (.iconst 1, 1) := by decide +kernel
theorem d_X6_advance_150 : decode (D_X6_advance).2.1 150 = .ok (.iadd, 1) := by decide +kernel
theorem d_X6_advance_151 : decode (D_X6_advance).2.1 151 = .ok (.putfield 41, 3) := by decide +kernel
theorem d_X6_advance_154 : decode (D_X6_advance).2.1 154 = .ok (.goto 8, 3) := by decide +kernel
theorem d_X6_advance_157 : decode (D_X6_advance).2.1 157 = .ok (.aload_n 0, 1) := by decide +kernel
theorem d_X6_advance_158 : decode (D_X6_advance).2.1 158 = .ok (.iconst 1, 1) := by decide +kernel
theorem d_X6_advance_159 : decode (D_X6_advance).2.1 159 = .ok (.invokevirtual 70, 3) := by decide +kernel
theorem d_X6_advance_162 : decode (D_X6_advance).2.1 162 = .ok (.return_, 1) := by decide +kernel
def f_X6_advance_L134 (n : Nat) (v1 : Int) (M : JMem) : Option (Int × JMem) := letm (jup M 9 4 5) fun M1 => letm (jup M1 9 6 v1) fun M2 => letm (jup M2 9 9 ((M2 9 9) + 1)) fun M3 => some (0, M3)
set_option maxRecDepth 4000 in
theorem t_X6_advance_L134 {g : JG} {ad : Nat → Nat} (hs : jStr g ad) (n : Nat) (v1 : Int) (M : JMem) : jB g D_X6_advance ad 134 [some (.ref 9), some (ji v1)] [] M (f_X6_advance_L134 n v1 M) := by
  unfold f_X6_advance_L134
  refine jo_aload 0 d_X6_advance_134 rfl rfl ?_
  refine jo_iconst 5 d_X6_advance_135 ?_
  refine jo_putI (k := 4) cl_6 (Nat.le_of_ble_eq_true rfl) lk_X6_25 rfl rfl kc_9 d_X6_advance_136 (fun M1 => ?_)
  refine jo_aload 0 d_X6_advance_139 rfl rfl ?_
  refine jo_iload 1 d_X6_advance_140 rfl rfl ?_
  refine jo_putI (k := 6) cl_6 (Nat.le_of_ble_eq_true rfl) lk_X6_31 rfl rfl kc_9 d_X6_advance_141 (fun M2 => ?_)
  refine jo_aload 0 d_X6_advance_144 rfl rfl ?_
  refine jo_dup d_X6_advance_145 rfl ?_
  refine jo_getI (k := 9) cl_6 (Nat.le_of_ble_eq_true rfl) lk_X6_41 (Or.inl rfl) kc_9 d_X6_advance_146 ?_
  refine jo_iconst 1 d_X6_advance_149 ?_
  refine jo_iadd d_X6_advance_150 ?_
  refine jo_putI (k := 9) cl_6 (Nat.le_of_ble_eq_true rfl) lk_X6_41 rfl rfl kc_9 d_X6_advance_151 (fun M3 => ?_)
  refine jo_goto 162 d_X6_advance_154 (by decide) ?_
  exact jo_vret rfl d_X6_advance_162
def f_X6_advance_L47 (n : Nat) (M : JMem) : Option (Int × JMem) := letm (jup M 9 5 (M 9 9)) fun M1 => if jw (M1 9 9) < jw (M1 9 8) then (chk (jin (M1 9 9) 900) <| letv (M1 10 (jw (M1 9 9)).toNat) fun y2 => bnd (f_X6_isLetter n y2 M1) fun r3 M4 => if jw r3 = 0 then (bnd (f_X6_isDigit n y2 M4) fun r5 M6 => if jw r5 = 0 then (if jw y2 = jw 59 then (f_X6_advance_L134 n y2 M6) else (if jw y2 = jw 60 then (f_X6_advance_L134 n y2 M6) else (if jw y2 = jw 62 then (f_X6_advance_L134 n y2 M6) else (if jw y2 = jw 61 then (f_X6_advance_L134 n y2 M6) else (bnd (f_X6_fail n 1 M6) fun _ M8 => some (0, M8)))))) else (bnd (f_X6_lookAtNumber n M6) fun _ M10 => some (0, M10))) else (bnd (f_X6_lookAtWord n M4) fun _ M12 => some (0, M12))) else (letm (jup M1 9 4 0) fun M13 => some (0, M13))
set_option maxRecDepth 4000 in
theorem t_X6_advance_L47 {g : JG} {ad : Nat → Nat} (hs : jStr g ad) (n : Nat) (M : JMem) : jB g D_X6_advance ad 47 [some (.ref 9), none] [] M (f_X6_advance_L47 n M) := by
  unfold f_X6_advance_L47
  refine jo_aload 0 d_X6_advance_47 rfl rfl ?_
  refine jo_aload 0 d_X6_advance_48 rfl rfl ?_
  refine jo_getI (k := 9) cl_6 (Nat.le_of_ble_eq_true rfl) lk_X6_41 (Or.inl rfl) kc_9 d_X6_advance_49 ?_
  refine jo_putI (k := 5) cl_6 (Nat.le_of_ble_eq_true rfl) lk_X6_28 rfl rfl kc_9 d_X6_advance_52 (fun M1 => ?_)
  refine jo_aload 0 d_X6_advance_55 rfl rfl ?_
  refine jo_getI (k := 9) cl_6 (Nat.le_of_ble_eq_true rfl) lk_X6_41 (Or.inl rfl) kc_9 d_X6_advance_56 ?_
  refine jo_aload 0 d_X6_advance_59 rfl rfl ?_
  refine jo_getI (k := 8) cl_6 (Nat.le_of_ble_eq_true rfl) lk_X6_38 (Or.inl rfl) kc_9 d_X6_advance_60 ?_
  refine jo_icmp_lt 72 d_X6_advance_63 (by decide) ?_ ?_
  · skip
    refine jo_aload 0 d_X6_advance_72 rfl rfl ?_
    refine jo_getR (k := 0) cl_6 (Nat.le_of_ble_eq_true rfl) lk_X6_11 rfl kc_9 kr_9_0 d_X6_advance_73 ?_
    refine jo_aload 0 d_X6_advance_76 rfl rfl ?_
    refine jo_getI (k := 9) cl_6 (Nat.le_of_ble_eq_true rfl) lk_X6_41 (Or.inl rfl) kc_9 d_X6_advance_77 ?_
    refine jo_bald (N := 900) kc_10 d_X6_advance_80 ?_
    refine jo_istore 1 d_X6_advance_81 rfl (Nat.le_of_ble_eq_true rfl) (fun y2 => ?_)
    refine jo_iload 1 d_X6_advance_82 rfl rfl ?_
    refine jo_callS (st := []) (m_X6_isLetter hs n y2 M1) ok_X6_isLetter (And.intro (Nat.le_of_ble_eq_true rfl) (Nat.le_of_ble_eq_true rfl)) lm_X6_77 st_X6_isLetter rfl (And.intro (Nat.zero_le _) (Nat.zero_le _)) rfl (Nat.le_of_ble_eq_true rfl) d_X6_advance_83 (fun r3 M4 => ?_)
    refine jo_if_eq 96 d_X6_advance_86 (by decide) ?_ ?_
    · skip
      refine jo_iload 1 d_X6_advance_96 rfl rfl ?_
      refine jo_callS (st := []) (m_X6_isDigit hs n y2 M4) ok_X6_isDigit (And.intro (Nat.le_of_ble_eq_true rfl) (Nat.le_of_ble_eq_true rfl)) lm_X6_83 st_X6_isDigit rfl (And.intro (Nat.zero_le _) (Nat.zero_le _)) rfl (Nat.le_of_ble_eq_true rfl) d_X6_advance_97 (fun r5 M6 => ?_)
      refine jo_if_eq 110 d_X6_advance_100 (by decide) ?_ ?_
      · skip
        refine jo_iload 1 d_X6_advance_110 rfl rfl ?_
        refine jo_bipush 59 d_X6_advance_111 (by decide) ?_
        refine jo_icmp_eq 134 d_X6_advance_113 (by decide) ?_ ?_
        · skip
          exact jO.sub (t_X6_advance_L134 hs n y2 M6) (And.intro rfl (And.intro rfl True.intro))
        · skip
          refine jo_iload 1 d_X6_advance_116 rfl rfl ?_
          refine jo_bipush 60 d_X6_advance_117 (by decide) ?_
          refine jo_icmp_eq 134 d_X6_advance_119 (by decide) ?_ ?_
          · skip
            exact jO.sub (t_X6_advance_L134 hs n y2 M6) (And.intro rfl (And.intro rfl True.intro))
          · skip
            refine jo_iload 1 d_X6_advance_122 rfl rfl ?_
            refine jo_bipush 62 d_X6_advance_123 (by decide) ?_
            refine jo_icmp_eq 134 d_X6_advance_125 (by decide) ?_ ?_
            · skip
              exact jO.sub (t_X6_advance_L134 hs n y2 M6) (And.intro rfl (And.intro rfl True.intro))
            · skip
              refine jo_iload 1 d_X6_advance_128 rfl rfl ?_
              refine jo_bipush 61 d_X6_advance_129 (by decide) ?_
              refine jo_icmp_ne 157 d_X6_advance_131 (by decide) ?_ ?_
              · skip
                refine jo_aload 0 d_X6_advance_157 rfl rfl ?_
                refine jo_iconst 1 d_X6_advance_158 ?_
                refine jo_callV (st := []) (m_X6_fail hs n 1 M6) ok_X6_fail (And.intro (Nat.le_of_ble_eq_true rfl) (Nat.le_of_ble_eq_true rfl)) lm_X6_70 in_X6_fail se_X6_fail rfl kc_9 rfl rfl (And.intro (Nat.zero_le _) (Nat.zero_le _)) rfl (Nat.le_of_ble_eq_true rfl) d_X6_advance_159 (fun _ M8 => ?_)
                exact jo_vret rfl d_X6_advance_162
              · skip
                exact jO.sub (t_X6_advance_L134 hs n y2 M6) (And.intro rfl (And.intro rfl True.intro))
      · skip
        refine jo_aload 0 d_X6_advance_103 rfl rfl ?_
        refine jo_callV (st := []) (m_X6_lookAtNumber hs n M6) ok_X6_lookAtNumber (And.intro (Nat.le_of_ble_eq_true rfl) (Nat.le_of_ble_eq_true rfl)) lm_X6_86 in_X6_lookAtNumber se_X6_lookAtNumber rfl kc_9 rfl rfl (And.intro (Nat.zero_le _) (Nat.zero_le _)) rfl (Nat.le_of_ble_eq_true rfl) d_X6_advance_104 (fun _ M10 => ?_)
        refine jo_goto 162 d_X6_advance_107 (by decide) ?_
        exact jo_vret rfl d_X6_advance_162
    · skip
      refine jo_aload 0 d_X6_advance_89 rfl rfl ?_
      refine jo_callV (st := []) (m_X6_lookAtWord hs n M4) ok_X6_lookAtWord (And.intro (Nat.le_of_ble_eq_true rfl) (Nat.le_of_ble_eq_true rfl)) lm_X6_80 in_X6_lookAtWord se_X6_lookAtWord rfl kc_9 rfl rfl (And.intro (Nat.zero_le _) (Nat.zero_le _)) rfl (Nat.le_of_ble_eq_true rfl) d_X6_advance_90 (fun _ M12 => ?_)
      refine jo_goto 162 d_X6_advance_93 (by decide) ?_
      exact jo_vret rfl d_X6_advance_162
  · skip
    refine jo_aload 0 d_X6_advance_66 rfl rfl ?_
    refine jo_iconst 0 d_X6_advance_67 ?_
    refine jo_putI (k := 4) cl_6 (Nat.le_of_ble_eq_true rfl) lk_X6_25 rfl rfl kc_9 d_X6_advance_68 (fun M13 => ?_)
    exact jo_vret rfl d_X6_advance_71
def f_X6_advance_L8 (n : Nat) : Nat → JMem → Option (Int × JMem)
  | 0, _ => none
  | k + 1, M => if jw (M 9 8) ≤ jw (M 9 9) then (f_X6_advance_L47 n M) else (chk (jin (M 9 9) 900) <| bnd (f_X6_isBlank n (M 10 (jw (M 9 9)).toNat) M) fun r1 M2 => if jw r1 = 0 then (f_X6_advance_L47 n M2) else (letm (jup M2 9 9 ((M2 9 9) + 1)) fun M3 => (f_X6_advance_L8 n k) M3))
set_option maxRecDepth 4000 in
theorem t_X6_advance_L8 {g : JG} {ad : Nat → Nat} (hs : jStr g ad) (n : Nat) : ∀ (k : Nat) (M : JMem), jB g D_X6_advance ad 8 [some (.ref 9), none] [] M (f_X6_advance_L8 n k M) := by
  intro k
  induction k with
  | zero => intro  M; exact jO.none
  | succ k ih =>
    intro  M
    rw [f_X6_advance_L8]
    refine jo_aload 0 d_X6_advance_8 rfl rfl ?_
    refine jo_getI (k := 9) cl_6 (Nat.le_of_ble_eq_true rfl) lk_X6_41 (Or.inl rfl) kc_9 d_X6_advance_9 ?_
    refine jo_aload 0 d_X6_advance_12 rfl rfl ?_
    refine jo_getI (k := 8) cl_6 (Nat.le_of_ble_eq_true rfl) lk_X6_38 (Or.inl rfl) kc_9 d_X6_advance_13 ?_
    refine jo_icmp_ge 47 d_X6_advance_16 (by decide) ?_ ?_
    · skip
      exact jO.sub (t_X6_advance_L47 hs n M) (And.intro rfl True.intro)
    · skip
      refine jo_aload 0 d_X6_advance_19 rfl rfl ?_
      refine jo_getR (k := 0) cl_6 (Nat.le_of_ble_eq_true rfl) lk_X6_11 rfl kc_9 kr_9_0 d_X6_advance_20 ?_
      refine jo_aload 0 d_X6_advance_23 rfl rfl ?_
      refine jo_getI (k := 9) cl_6 (Nat.le_of_ble_eq_true rfl) lk_X6_41 (Or.inl rfl) kc_9 d_X6_advance_24 ?_
      refine jo_bald (N := 900) kc_10 d_X6_advance_27 ?_
      refine jo_callS (st := []) (m_X6_isBlank hs n (M 10 (jw (M 9 9)).toNat) M) ok_X6_isBlank (And.intro (Nat.le_of_ble_eq_true rfl) (Nat.le_of_ble_eq_true rfl)) lm_X6_74 st_X6_isBlank rfl (And.intro (Nat.zero_le _) (Nat.zero_le _)) rfl (Nat.le_of_ble_eq_true rfl) d_X6_advance_28 (fun r1 M2 => ?_)
      refine jo_if_eq 47 d_X6_advance_31 (by decide) ?_ ?_
      · skip
        exact jO.sub (t_X6_advance_L47 hs n M2) (And.intro rfl True.intro)
      · skip
        refine jo_aload 0 d_X6_advance_34 rfl rfl ?_
        refine jo_dup d_X6_advance_35 rfl ?_
        refine jo_getI (k := 9) cl_6 (Nat.le_of_ble_eq_true rfl) lk_X6_41 (Or.inl rfl) kc_9 d_X6_advance_36 ?_
        refine jo_iconst 1 d_X6_advance_39 ?_
        refine jo_iadd d_X6_advance_40 ?_
        refine jo_putI (k := 9) cl_6 (Nat.le_of_ble_eq_true rfl) lk_X6_41 rfl rfl kc_9 d_X6_advance_41 (fun M3 => ?_)
        refine jo_goto 8 d_X6_advance_44 (by decide) ?_
        exact jO.sub (ih M3) (And.intro rfl True.intro)
def f_X6_advance (n : Nat) (M : JMem) : Option (Int × JMem) := if jw (M 9 2) = 0 then (f_X6_advance_L8 n n M) else (some (0, M))
set_option maxRecDepth 4000 in
theorem t_X6_advance {g : JG} {ad : Nat → Nat} (hs : jStr g ad) (n : Nat) (M : JMem) : jB g D_X6_advance ad 0 [some (.ref 9), none] [] M (f_X6_advance n M) := by
  unfold f_X6_advance
  refine jo_aload 0 d_X6_advance_0 rfl rfl ?_
  refine jo_getI (k := 2) cl_6 (Nat.le_of_ble_eq_true rfl) lk_X6_19 (Or.inl rfl) kc_9 d_X6_advance_1 ?_
  refine jo_if_eq 8 d_X6_advance_4 (by decide) ?_ ?_
  · skip
    exact jO.sub (t_X6_advance_L8 hs n n M) (And.intro rfl True.intro)
  · skip
    exact jo_vret rfl d_X6_advance_7
theorem m_X6_advance {g : JG} {ad : Nat → Nat} (hs : jStr g ad) (n : Nat) (M : JMem) : jMet g jNN ad jR D_X6_advance yX6_advance [.ref 9] M (f_X6_advance n M) :=
  jMet.of (lo0 := [some (.ref 9), none]) (by decide) rfl rfl (Nat.le_of_ble_eq_true rfl) (And.intro rfl True.intro) (t_X6_advance hs n M)
/-! CageLeave$Text.passNumber(II)I -/
def D_X6_passNumber : JD := (RX6, cX6_passNumber, 4, some .int, "passNumber", { frames := 3, cells := 0, slots := 0, locals := 66 })
theorem ok_X6_passNumber : jOk D_X6_passNumber yX6_passNumber 2 := ⟨jTW_mem (k := 810) (by decide +kernel) rfl, jTW_mem (k := 137) (by decide +kernel) rfl, ⟨by decide +kernel, by decide +kernel⟩, by decide +kernel, rfl, rfl⟩
theorem in_X6_passNumber : Cond.instanceMethod yX6_passNumber ∈ jTW := jTW_mem (k := 808) (by decide +kernel) rfl
theorem se_X6_passNumber : Cond.selects yX6_passNumber.cls yX6_passNumber yX6_passNumber ∈ jTW := jTW_mem (k := 809) (by decide +kernel) rfl
theorem lm_X6_63 : Cond.methodLink RX6 63 yX6_advance ∈ jTW := jTW_mem (k := 760) (by decide +kernel) rfl
theorem d_X6_passNumber_0 : decode (D_X6_passNumber).2.1 0 = .ok (.aload_n 0, 1) := by decide +kernel
theorem d_X6_passNumber_1 : decode (D_X6_passNumber).2.1 1 = .ok (.getfield 25, 3) := by decide +kernel
theorem d_X6_passNumber_4 : decode (D_X6_passNumber).2.1 4 = .ok (.iconst 4, 1) := by decide +kernel
theorem d_X6_passNumber_5 : decode (D_X6_passNumber).2.1 5 = .ok (.if_icmp .eq 10, 3) := by decide +kernel
theorem d_X6_passNumber_8 : decode (D_X6_passNumber).2.1 8 = .ok (.aload_n 0, 1) := by decide +kernel
theorem d_X6_passNumber_9 : decode (D_X6_passNumber).2.1 9 = .ok (.iconst 2, 1) := by decide +kernel
theorem d_X6_passNumber_10 : decode (D_X6_passNumber).2.1 10 = .ok (.invokevirtual 70, 3) := by decide +kernel
theorem d_X6_passNumber_13 : decode (D_X6_passNumber).2.1 13 = .ok (.iconst (-1), 1) := by decide +kernel
theorem d_X6_passNumber_14 : decode (D_X6_passNumber).2.1 14 = .ok (.ireturn, 1) := by decide +kernel
theorem d_X6_passNumber_15 : decode (D_X6_passNumber).2.1 15 = .ok (.aload_n 0, 1) := by decide +kernel
theorem d_X6_passNumber_16 : decode (D_X6_passNumber).2.1 16 = .ok (.getfield 31, 3) := by decide +kernel
theorem d_X6_passNumber_19 : decode (D_X6_passNumber).2.1 19 = .ok (.istore_n 3, 1) := by decide +kernel
theorem d_X6_passNumber_20 : decode (D_X6_passNumber).2.1 20 = .ok (.iload_n 3, 1) := by decide +kernel
theorem d_X6_passNumber_21 : decode (D_X6_passNumber).2.1 21 = .ok (.iload_n 1, 1) := by decide +kernel
theorem d_X6_passNumber_22 : decode (D_X6_passNumber).2.1 22 = .ok (.if_icmp .lt 8, 3) := by decide +kernel
theorem d_X6_passNumber_25 : decode (D_X6_passNumber).2.1 25 = .ok (.iload_n 3, 1) := by decide +kernel
theorem d_X6_passNumber_26 : decode (D_X6_passNumber).2.1 26 = .ok (.iload_n 2, 1) := by decide +kernel
theorem d_X6_passNumber_27 : decode (D_X6_passNumber).2.1 27 = .ok (.if_icmp .le 10, 3) := by decide +kernel
theorem d_X6_passNumber_30 : decode (D_X6_passNumber).2.1 30 = .ok (.aload_n 0, 1) := by decide +kernel
theorem d_X6_passNumber_31 : decode (D_X6_passNumber).2.1 31 = .ok (.iconst 4, 1) := by decide +kernel
theorem d_X6_passNumber_32 : decode (D_X6_passNumber).2.1 32 = .ok (.invokevirtual 70, 3) := by decide +kernel
theorem d_X6_passNumber_35 : decode (D_X6_passNumber).2.1 35 = .ok (.iconst (-1), 1) := by decide +kernel
theorem d_X6_passNumber_36 : decode (D_X6_passNumber).2.1 36 = .ok (.ireturn, 1) := by decide +kernel
theorem d_X6_passNumber_37 : decode (D_X6_passNumber).2.1 37 = .ok (.aload_n 0, 1) := by decide +kernel
theorem d_X6_passNumber_38 : decode (D_X6_passNumber).2.1 38 = .ok (.invokevirtual 63, 3) := by decide +kernel
theorem d_X6_passNumber_41 : decode (D_X6_passNumber).2.1 41 = .ok (.iload_n 3, 1) := by decide +kernel
theorem d_X6_passNumber_42 : decode (D_X6_passNumber).2.1 42 = .ok (.ireturn, 1) := by decide +kernel
def f_X6_passNumber_L30 (n : Nat) (M : JMem) : Option (Int × JMem) := bnd (f_X6_fail n 4 M) fun _ M2 => some ((-1), M2)
set_option maxRecDepth 4000 in
theorem t_X6_passNumber_L30 {g : JG} {ad : Nat → Nat} (hs : jStr g ad) (n : Nat) (M : JMem) : jB g D_X6_passNumber ad 30 [some (.ref 9), none, none, none] [] M (f_X6_passNumber_L30 n M) := by
  unfold f_X6_passNumber_L30
  refine jo_aload 0 d_X6_passNumber_30 rfl rfl ?_
  refine jo_iconst 4 d_X6_passNumber_31 ?_
  refine jo_callV (st := []) (m_X6_fail hs n 4 M) ok_X6_fail (And.intro (Nat.le_of_ble_eq_true rfl) (Nat.le_of_ble_eq_true rfl)) lm_X6_70 in_X6_fail se_X6_fail rfl kc_9 rfl rfl (And.intro (Nat.zero_le _) (Nat.zero_le _)) rfl (Nat.le_of_ble_eq_true rfl) d_X6_passNumber_32 (fun _ M2 => ?_)
  refine jo_iconst (-1) d_X6_passNumber_35 ?_
  exact jo_iret rfl d_X6_passNumber_36
def f_X6_passNumber (n : Nat) (x1 : Int) (x2 : Int) (M : JMem) : Option (Int × JMem) := if jw (M 9 4) = jw 4 then (letv (M 9 6) fun y1 => if jw y1 < jw x1 then (f_X6_passNumber_L30 n M) else (if jw y1 ≤ jw x2 then (bnd (f_X6_advance n M) fun _ M3 => some (y1, M3)) else (f_X6_passNumber_L30 n M))) else (bnd (f_X6_fail n 2 M) fun _ M5 => some ((-1), M5))
set_option maxRecDepth 4000 in
theorem t_X6_passNumber {g : JG} {ad : Nat → Nat} (hs : jStr g ad) (n : Nat) (x1 : Int) (x2 : Int) (M : JMem) : jB g D_X6_passNumber ad 0 [some (.ref 9), some (ji x1), some (ji x2), none] [] M (f_X6_passNumber n x1 x2 M) := by
  unfold f_X6_passNumber
  refine jo_aload 0 d_X6_passNumber_0 rfl rfl ?_
  refine jo_getI (k := 4) cl_6 (Nat.le_of_ble_eq_true rfl) lk_X6_25 (Or.inl rfl) kc_9 d_X6_passNumber_1 ?_
  refine jo_iconst 4 d_X6_passNumber_4 ?_
  refine jo_icmp_eq 15 d_X6_passNumber_5 (by decide) ?_ ?_
  · skip
    refine jo_aload 0 d_X6_passNumber_15 rfl rfl ?_
    refine jo_getI (k := 6) cl_6 (Nat.le_of_ble_eq_true rfl) lk_X6_31 (Or.inl rfl) kc_9 d_X6_passNumber_16 ?_
    refine jo_istore 3 d_X6_passNumber_19 rfl (Nat.le_of_ble_eq_true rfl) (fun y1 => ?_)
    refine jo_iload 3 d_X6_passNumber_20 rfl rfl ?_
    refine jo_iload 1 d_X6_passNumber_21 rfl rfl ?_
    refine jo_icmp_lt 30 d_X6_passNumber_22 (by decide) ?_ ?_
    · skip
      exact jO.sub (t_X6_passNumber_L30 hs n M) (And.intro rfl True.intro)
    · skip
      refine jo_iload 3 d_X6_passNumber_25 rfl rfl ?_
      refine jo_iload 2 d_X6_passNumber_26 rfl rfl ?_
      refine jo_icmp_le 37 d_X6_passNumber_27 (by decide) ?_ ?_
      · skip
        refine jo_aload 0 d_X6_passNumber_37 rfl rfl ?_
        refine jo_callV (st := []) (m_X6_advance hs n M) ok_X6_advance (And.intro (Nat.le_of_ble_eq_true rfl) (Nat.le_of_ble_eq_true rfl)) lm_X6_63 in_X6_advance se_X6_advance rfl kc_9 rfl rfl (And.intro (Nat.zero_le _) (Nat.zero_le _)) rfl (Nat.le_of_ble_eq_true rfl) d_X6_passNumber_38 (fun _ M3 => ?_)
        refine jo_iload 3 d_X6_passNumber_41 rfl rfl ?_
        exact jo_iret rfl d_X6_passNumber_42
      · skip
        exact jO.sub (t_X6_passNumber_L30 hs n M) (And.intro rfl True.intro)
  · skip
    refine jo_aload 0 d_X6_passNumber_8 rfl rfl ?_
    refine jo_iconst 2 d_X6_passNumber_9 ?_
    refine jo_callV (st := []) (m_X6_fail hs n 2 M) ok_X6_fail (And.intro (Nat.le_of_ble_eq_true rfl) (Nat.le_of_ble_eq_true rfl)) lm_X6_70 in_X6_fail se_X6_fail rfl kc_9 rfl rfl (And.intro (Nat.zero_le _) (Nat.zero_le _)) rfl (Nat.le_of_ble_eq_true rfl) d_X6_passNumber_10 (fun _ M5 => ?_)
    refine jo_iconst (-1) d_X6_passNumber_13 ?_
    exact jo_iret rfl d_X6_passNumber_14
theorem m_X6_passNumber {g : JG} {ad : Nat → Nat} (hs : jStr g ad) (n : Nat) (x1 : Int) (x2 : Int) (M : JMem) : jMet g jNN ad jR D_X6_passNumber yX6_passNumber [.ref 9, ji x1, ji x2] M (f_X6_passNumber n x1 x2 M) :=
  jMet.of (lo0 := [some (.ref 9), some (ji x1), some (ji x2), none]) (by decide) rfl rfl (Nat.le_of_ble_eq_true rfl) (And.intro rfl (And.intro rfl (And.intro rfl True.intro))) (t_X6_passNumber hs n x1 x2 M)
/-! CageLeave$ParkReader.optional(IIII)I -/
def D_X2_optional : JD := (RX2, cX2_optional, 5, some .int, "optional", { frames := 4, cells := 0, slots := 0, locals := 89 })
theorem ok_X2_optional : jOk D_X2_optional yX2_optional 4 := ⟨jTW_mem (k := 847) (by decide +kernel) rfl, jTW_mem (k := 142) (by decide +kernel) rfl, ⟨by decide +kernel, by decide +kernel⟩, by decide +kernel, rfl, rfl⟩
theorem in_X2_optional : Cond.instanceMethod yX2_optional ∈ jTW := jTW_mem (k := 846) (by decide +kernel) rfl
theorem se_X2_optional : Cond.selects yX2_optional.cls yX2_optional yX2_optional ∈ jTW := jTW_mem (k := 9) (by decide +kernel) rfl
theorem lm_X2_143 : Cond.methodLink RX2 143 yX6_isAt ∈ jTW := jTW_mem (k := 848) (by decide +kernel) rfl
theorem lm_X2_84 : Cond.methodLink RX2 84 yX6_advance ∈ jTW := jTW_mem (k := 806) (by decide +kernel) rfl
theorem lm_X2_87 : Cond.methodLink RX2 87 yX6_passNumber ∈ jTW := jTW_mem (k := 807) (by decide +kernel) rfl
theorem d_X2_optional_0 : decode (D_X2_optional).2.1 0 = .ok (.aload_n 0, 1) := by decide +kernel
theorem d_X2_optional_1 : decode (D_X2_optional).2.1 1 = .ok (.getfield 29, 3) := by decide +kernel
theorem d_X2_optional_4 : decode (D_X2_optional).2.1 4 = .ok (.iload_n 1, 1) := by decide +kernel
theorem d_X2_optional_5 : decode (D_X2_optional).2.1 5 = .ok (.invokevirtual 143, 3) := by decide +kernel
theorem d_X2_optional_8 : decode (D_X2_optional).2.1 8 = .ok (.ifCond .ne 6, 3) := by decide +kernel
theorem d_X2_optional_11 : decode (D_X2_optional).2.1 11 = .ok (.iload 4, 2) := by decide +kernel
theorem d_X2_optional_13 : decode (D_X2_optional).2.1 13 = .ok (.ireturn, 1) := by decide +kernel
theorem d_X2_optional_14 : decode (D_X2_optional).2.1 14 = .ok (.aload_n 0, 1) := by decide +kernel
theorem d_X2_optional_15 : decode (D_X2_optional).2.1 15 = .ok (.getfield 29, 3) := by decide +kernel
theorem d_X2_optional_18 : decode (D_X2_optional).2.1 18 = .ok (.invokevirtual 84, 3) := by decide +kernel
theorem d_X2_optional_21 : decode (D_X2_optional).2.1 21 = .ok (.aload_n 0, 1) := by decide +kernel
theorem d_X2_optional_22 : decode (D_X2_optional).2.1 22 = .ok (.getfield 29, 3) := by decide +kernel
theorem d_X2_optional_25 : decode (D_X2_optional).2.1 25 = .ok (.iload_n 2, 1) := by decide +kernel
theorem d_X2_optional_26 : decode (D_X2_optional).2.1 26 = .ok (.iload_n 3, 1) := by decide +kernel
theorem d_X2_optional_27 : decode (D_X2_optional).2.1 27 = .ok (.invokevirtual 87, 3) := by decide +kernel
theorem d_X2_optional_30 : decode (D_X2_optional).2.1 30 = .ok (.ireturn, 1) := by decide +kernel
def f_X2_optional (n : Nat) (x1 : Int) (x2 : Int) (x3 : Int) (x4 : Int) (M : JMem) : Option (Int × JMem) := bnd (f_X6_isAt n x1 M) fun r1 M2 => if jw r1 = 0 then (some (x4, M2)) else (bnd (f_X6_advance n M2) fun _ M4 => bnd (f_X6_passNumber n x2 x3 M4) fun r5 M6 => some (r5, M6))
set_option maxRecDepth 4000 in
theorem t_X2_optional {g : JG} {ad : Nat → Nat} (hs : jStr g ad) (n : Nat) (x1 : Int) (x2 : Int) (x3 : Int) (x4 : Int) (M : JMem) : jB g D_X2_optional ad 0 [some (.ref 12), some (ji x1), some (ji x2), some (ji x3), some (ji x4)] [] M (f_X2_optional n x1 x2 x3 x4 M) := by
  unfold f_X2_optional
  refine jo_aload 0 d_X2_optional_0 rfl rfl ?_
  refine jo_getR (k := 0) cl_2 (Nat.le_of_ble_eq_true rfl) lk_X2_29 rfl kc_12 kr_12_0 d_X2_optional_1 ?_
  refine jo_iload 1 d_X2_optional_4 rfl rfl ?_
  refine jo_callV (st := []) (m_X6_isAt hs n x1 M) ok_X6_isAt (And.intro (Nat.le_of_ble_eq_true rfl) (Nat.le_of_ble_eq_true rfl)) lm_X2_143 in_X6_isAt se_X6_isAt rfl kc_9 rfl rfl (And.intro (Nat.zero_le _) (Nat.zero_le _)) rfl (Nat.le_of_ble_eq_true rfl) d_X2_optional_5 (fun r1 M2 => ?_)
  refine jo_if_ne 14 d_X2_optional_8 (by decide) ?_ ?_
  · skip
    refine jo_aload 0 d_X2_optional_14 rfl rfl ?_
    refine jo_getR (k := 0) cl_2 (Nat.le_of_ble_eq_true rfl) lk_X2_29 rfl kc_12 kr_12_0 d_X2_optional_15 ?_
    refine jo_callV (st := []) (m_X6_advance hs n M2) ok_X6_advance (And.intro (Nat.le_of_ble_eq_true rfl) (Nat.le_of_ble_eq_true rfl)) lm_X2_84 in_X6_advance se_X6_advance rfl kc_9 rfl rfl (And.intro (Nat.zero_le _) (Nat.zero_le _)) rfl (Nat.le_of_ble_eq_true rfl) d_X2_optional_18 (fun _ M4 => ?_)
    refine jo_aload 0 d_X2_optional_21 rfl rfl ?_
    refine jo_getR (k := 0) cl_2 (Nat.le_of_ble_eq_true rfl) lk_X2_29 rfl kc_12 kr_12_0 d_X2_optional_22 ?_
    refine jo_iload 2 d_X2_optional_25 rfl rfl ?_
    refine jo_iload 3 d_X2_optional_26 rfl rfl ?_
    refine jo_callV (st := []) (m_X6_passNumber hs n x2 x3 M4) ok_X6_passNumber (And.intro (Nat.le_of_ble_eq_true rfl) (Nat.le_of_ble_eq_true rfl)) lm_X2_87 in_X6_passNumber se_X6_passNumber rfl kc_9 rfl rfl (And.intro (Nat.zero_le _) (Nat.zero_le _)) rfl (Nat.le_of_ble_eq_true rfl) d_X2_optional_27 (fun r5 M6 => ?_)
    exact jo_iret rfl d_X2_optional_30
  · skip
    refine jo_iloadW 4 d_X2_optional_11 rfl ?_
    exact jo_iret rfl d_X2_optional_13
theorem m_X2_optional {g : JG} {ad : Nat → Nat} (hs : jStr g ad) (n : Nat) (x1 : Int) (x2 : Int) (x3 : Int) (x4 : Int) (M : JMem) : jMet g jNN ad jR D_X2_optional yX2_optional [.ref 12, ji x1, ji x2, ji x3, ji x4] M (f_X2_optional n x1 x2 x3 x4 M) :=
  jMet.of (lo0 := [some (.ref 12), some (ji x1), some (ji x2), some (ji x3), some (ji x4)]) (by decide) rfl rfl (Nat.le_of_ble_eq_true rfl) (And.intro rfl (And.intro rfl (And.intro rfl (And.intro rfl (And.intro rfl True.intro))))) (t_X2_optional hs n x1 x2 x3 x4 M)
/-! CageLeave$Plan.hasName(J)Z -/
def D_X4_hasName : JD := (RX4, cX4_hasName, 4, some .boolean, "hasName", { frames := 0, cells := 0, slots := 0, locals := 0 })
theorem ok_X4_hasName : jOk D_X4_hasName yX4_hasName 1 := ⟨jTW_mem (k := 822) (by decide +kernel) rfl, jTW_mem (k := 143) (by decide +kernel) rfl, ⟨by decide +kernel, by decide +kernel⟩, by decide +kernel, rfl, rfl⟩
theorem in_X4_hasName : Cond.instanceMethod yX4_hasName ∈ jTW := jTW_mem (k := 820) (by decide +kernel) rfl
theorem se_X4_hasName : Cond.selects yX4_hasName.cls yX4_hasName yX4_hasName ∈ jTW := jTW_mem (k := 821) (by decide +kernel) rfl
theorem d_X4_hasName_0 : decode (D_X4_hasName).2.1 0 = .ok (.iconst 0, 1) := by decide +kernel
theorem d_X4_hasName_1 : decode (D_X4_hasName).2.1 1 = .ok (.istore_n 3, 1) := by decide +kernel
theorem d_X4_hasName_2 : decode (D_X4_hasName).2.1 2 = .ok (.iload_n 3, 1) := by decide +kernel
theorem d_X4_hasName_3 : decode (D_X4_hasName).2.1 3 = .ok (.aload_n 0, 1) := by decide +kernel
theorem d_X4_hasName_4 : decode (D_X4_hasName).2.1 4 = .ok (.getfield 24, 3) := by decide +kernel
theorem d_X4_hasName_7 : decode (D_X4_hasName).2.1 7 = .ok (.if_icmp .ge 22, 3) := by decide +kernel
theorem d_X4_hasName_10 : decode (D_X4_hasName).2.1 10 = .ok (.aload_n 0, 1) := by decide +kernel
theorem d_X4_hasName_11 : decode (D_X4_hasName).2.1 11 = .ok (.getfield 27, 3) := by decide +kernel
theorem d_X4_hasName_14 : decode (D_X4_hasName).2.1 14 = .ok (.iload_n 3, 1) := by decide +kernel
theorem d_X4_hasName_15 : decode (D_X4_hasName).2.1 15 = .ok (.laload, 1) := by decide +kernel
theorem d_X4_hasName_16 : decode (D_X4_hasName).2.1 16 = .ok (.lload_n 1, 1) := by decide +kernel
theorem d_X4_hasName_17 : decode (D_X4_hasName).2.1 17 = .ok (.lcmp, 1) := by decide +kernel
theorem d_X4_hasName_18 : decode (D_X4_hasName).2.1 18 = .ok (.ifCond .ne 5, 3) := by decide +kernel
theorem d_X4_hasName_21 : decode (D_X4_hasName).2.1 21 = .ok (.iconst 1, 1) := by decide +kernel
theorem d_X4_hasName_22 : decode (D_X4_hasName).2.1 22 = .ok (.ireturn, 1) := by decide +kernel
theorem d_X4_hasName_23 : decode (D_X4_hasName).2.1 23 = .ok (.iinc 3 1, 3) := by decide +kernel
theorem d_X4_hasName_26 : decode (D_X4_hasName).2.1 26 = .ok (.goto (-24), 3) := by decide +kernel
theorem d_X4_hasName_29 : decode (D_X4_hasName).2.1 29 = .ok (.iconst 0, 1) := by decide +kernel
theorem d_X4_hasName_30 : decode (D_X4_hasName).2.1 30 = .ok (.ireturn, 1) := by decide +kernel
def f_X4_hasName_L2 (n : Nat) (th : Nat) : Nat → Int → Int → JMem → Option (Int × JMem)
  | 0, _, _, _ => none
  | k + 1, v1, v3, M => if jw (M th 4) ≤ jw v3 then (some (0, M)) else (chk (jin v3 22) <| if jw (jcmp (M (th + 1) (jw v3).toNat) v1) = 0 then (some (1, M)) else (letv (v3 + 1) fun y1 => (f_X4_hasName_L2 n th k) v1 y1 M))
set_option maxRecDepth 4000 in
theorem t_X4_hasName_L2 {g : JG} {ad : Nat → Nat} (hs : jStr g ad) (n : Nat) (th : Nat) (hth : jK jNN (0, 4) th) : ∀ (k : Nat) (v1 v3 : Int) (M : JMem), jB g D_X4_hasName ad 2 [some (.ref th), some (jl v1), none, some (ji v3)] [] M (f_X4_hasName_L2 n th k v1 v3 M) := by
  intro k
  induction k with
  | zero => intro v1 v3 M; exact jO.none
  | succ k ih =>
    intro v1 v3 M
    rw [f_X4_hasName_L2]
    refine jo_iload 3 d_X4_hasName_2 rfl rfl ?_
    refine jo_aload 0 d_X4_hasName_3 rfl rfl ?_
    refine jo_getI (k := 4) cl_4 (Nat.le_of_ble_eq_true rfl) lk_X4_24 (Or.inl rfl) hth d_X4_hasName_4 ?_
    refine jo_icmp_ge 29 d_X4_hasName_7 (by decide) ?_ ?_
    · skip
      refine jo_iconst 0 d_X4_hasName_29 ?_
      exact jo_zret rfl (by decide) d_X4_hasName_30
    · skip
      refine jo_aload 0 d_X4_hasName_10 rfl rfl ?_
      refine jo_getR (k := 5) cl_4 (Nat.le_of_ble_eq_true rfl) lk_X4_27 rfl hth (kr_Plan_5 hth) d_X4_hasName_11 ?_
      refine jo_iload 3 d_X4_hasName_14 rfl rfl ?_
      refine jo_lald (N := 22) (ka_Plan_5 hth) d_X4_hasName_15 ?_
      refine jo_lload 1 d_X4_hasName_16 rfl rfl ?_
      refine jo_lcmp d_X4_hasName_17 ?_
      refine jo_if_ne 23 d_X4_hasName_18 (by decide) ?_ ?_
      · skip
        refine jo_iinc 3 d_X4_hasName_23 rfl (Nat.le_of_ble_eq_true rfl) (fun y1 => ?_)
        refine jo_goto 2 d_X4_hasName_26 (by decide) ?_
        exact jO.sub (ih v1 y1 M) (And.intro rfl (And.intro rfl (And.intro rfl True.intro)))
      · skip
        refine jo_iconst 1 d_X4_hasName_21 ?_
        exact jo_zret rfl (by decide) d_X4_hasName_22
def f_X4_hasName (n : Nat) (th : Nat) (x1 : Int) (M : JMem) : Option (Int × JMem) := letv 0 fun y1 => f_X4_hasName_L2 n th n x1 y1 M
set_option maxRecDepth 4000 in
theorem t_X4_hasName {g : JG} {ad : Nat → Nat} (hs : jStr g ad) (n : Nat) (th : Nat) (x1 : Int) (hth : jK jNN (0, 4) th) (M : JMem) : jB g D_X4_hasName ad 0 [some (.ref th), some (jl x1), none, none] [] M (f_X4_hasName n th x1 M) := by
  unfold f_X4_hasName
  refine jo_iconst 0 d_X4_hasName_0 ?_
  refine jo_istore 3 d_X4_hasName_1 rfl (Nat.le_of_ble_eq_true rfl) (fun y1 => ?_)
  exact jO.sub (t_X4_hasName_L2 hs n th hth n x1 y1 M) (And.intro rfl (And.intro rfl (And.intro rfl True.intro)))
theorem m_X4_hasName {g : JG} {ad : Nat → Nat} (hs : jStr g ad) (n : Nat) (th : Nat) (x1 : Int) (hth : jK jNN (0, 4) th) (M : JMem) : jMet g jNN ad jR D_X4_hasName yX4_hasName [.ref th, jl x1] M (f_X4_hasName n th x1 M) :=
  jMet.of (lo0 := [some (.ref th), some (jl x1), none, none]) (by decide) rfl rfl (Nat.le_of_ble_eq_true rfl) (And.intro rfl (And.intro rfl True.intro)) (t_X4_hasName hs n th x1 hth M)
/-! CageLeave$Plan.addName(JII)V -/
def D_X4_addName : JD := (RX4, cX4_addName, 5, none, "addName", { frames := 0, cells := 0, slots := 0, locals := 0 })
theorem ok_X4_addName : jOk D_X4_addName yX4_addName 3 := ⟨jTW_mem (k := 826) (by decide +kernel) rfl, jTW_mem (k := 143) (by decide +kernel) rfl, ⟨by decide +kernel, by decide +kernel⟩, by decide +kernel, rfl, rfl⟩
theorem in_X4_addName : Cond.instanceMethod yX4_addName ∈ jTW := jTW_mem (k := 824) (by decide +kernel) rfl
theorem se_X4_addName : Cond.selects yX4_addName.cls yX4_addName yX4_addName ∈ jTW := jTW_mem (k := 825) (by decide +kernel) rfl
theorem d_X4_addName_0 : decode (D_X4_addName).2.1 0 = .ok (.aload_n 0, 1) := by decide +kernel
theorem d_X4_addName_1 : decode (D_X4_addName).2.1 1 = .ok (.getfield 24, 3) := by decide +kernel
theorem d_X4_addName_4 : decode (D_X4_addName).2.1 4 = .ok (.bipush 22, 2) := by decide +kernel
theorem d_X4_addName_6 : decode (D_X4_addName).2.1 6 = .ok (.if_icmp .ge 44, 3) := by decide +kernel
theorem d_X4_addName_9 : decode (D_X4_addName).2.1 9 = .ok (.aload_n 0, 1) := by decide +kernel
theorem d_X4_addName_10 : decode (D_X4_addName).2.1 10 = .ok (.getfield 27, 3) := by decide +kernel
theorem d_X4_addName_13 : decode (D_X4_addName).2.1 13 = .ok (.aload_n 0, 1) := by decide +kernel
theorem d_X4_addName_14 : decode (D_X4_addName).2.1 14 = .ok (.getfield 24, 3) := by decide +kernel
theorem d_X4_addName_17 : decode (D_X4_addName).2.1 17 = .ok (.lload_n 1, 1) := by decide +kernel
theorem d_X4_addName_18 : decode (D_X4_addName).2.1 18 = .ok (.lastore, 1) := by decide +kernel
theorem d_X4_addName_19 : decode (D_X4_addName).2.1 19 = .ok (.aload_n 0, 1) := by decide +kernel
theorem d_X4_addName_20 : decode (D_X4_addName).2.1 20 = .ok (.getfield 31, 3) := by decide +kernel
theorem d_X4_addName_23 : decode (D_X4_addName).2.1 23 = .ok (.aload_n 0, 1) := by decide +kernel
theorem d_X4_addName_24 : decode (D_X4_addName).2.1 24 = .ok (.getfield 24, 3) := by decide +kernel
theorem d_X4_addName_27 : decode (D_X4_addName).2.1 27 = .ok (.iload_n 3, 1) := by decide +kernel
theorem d_X4_addName_28 : decode (D_X4_addName).2.1 28 = .ok (.iastore, 1) := by decide +kernel
theorem d_X4_addName_29 : decode (D_X4_addName).2.1 29 = .ok (.aload_n 0, 1) := by decide +kernel
theorem d_X4_addName_30 : decode (D_X4_addName).2.1 30 = .ok (.getfield 35, 3) := by decide +kernel
theorem d_X4_addName_33 : decode (D_X4_addName).2.1 33 = .ok (.aload_n 0, 1) := by decide +kernel
theorem d_X4_addName_34 : decode (D_X4_addName).2.1 34 = .ok (.getfield 24, 3) := by decide +kernel
theorem d_X4_addName_37 : decode (D_X4_addName).2.1 37 = .ok (.iload 4, 2) := by decide +kernel
theorem d_X4_addName_39 : decode (D_X4_addName).2.1 39 = .ok (.iastore, 1) := by decide +kernel
theorem d_X4_addName_40 : decode (D_X4_addName).2.1 40 = .ok (.aload_n 0, 1) := by decide +kernel
theorem d_X4_addName_41 : decode (D_X4_addName).2.1 41 = .ok (.dup, 1) := by decide +kernel
theorem d_X4_addName_42 : decode (D_X4_addName).2.1 42 = .ok (.getfield 24, 3) := by decide +kernel
theorem d_X4_addName_45 : decode (D_X4_addName).2.1 45 = .ok (.iconst 1, 1) := by decide +kernel
theorem d_X4_addName_46 : decode (D_X4_addName).2.1 46 = .ok (.iadd, 1) := by decide +kernel
theorem d_X4_addName_47 : decode (D_X4_addName).2.1 47 = .ok (.putfield 24, 3) := by decide +kernel
theorem d_X4_addName_50 : decode (D_X4_addName).2.1 50 = .ok (.return_, 1) := by decide +kernel
def f_X4_addName (n : Nat) (th : Nat) (x1 : Int) (x3 : Int) (x4 : Int) (M : JMem) : Option (Int × JMem) := if jw 22 ≤ jw (M th 4) then (some (0, M)) else (chk (jin (M th 4) 22) <| letm (jup M (th + 1) (jw (M th 4)).toNat x1) fun M1 => chk (jin (M1 th 4) 22) <| letm (jup M1 (th + 2) (jw (M1 th 4)).toNat x3) fun M2 => chk (jin (M2 th 4) 22) <| letm (jup M2 (th + 3) (jw (M2 th 4)).toNat x4) fun M3 => letm (jup M3 th 4 ((M3 th 4) + 1)) fun M4 => some (0, M4))
set_option maxRecDepth 4000 in
theorem t_X4_addName {g : JG} {ad : Nat → Nat} (hs : jStr g ad) (n : Nat) (th : Nat) (x1 : Int) (x3 : Int) (x4 : Int) (hth : jK jNN (0, 4) th) (M : JMem) : jB g D_X4_addName ad 0 [some (.ref th), some (jl x1), none, some (ji x3), some (ji x4)] [] M (f_X4_addName n th x1 x3 x4 M) := by
  unfold f_X4_addName
  refine jo_aload 0 d_X4_addName_0 rfl rfl ?_
  refine jo_getI (k := 4) cl_4 (Nat.le_of_ble_eq_true rfl) lk_X4_24 (Or.inl rfl) hth d_X4_addName_1 ?_
  refine jo_bipush 22 d_X4_addName_4 (by decide) ?_
  refine jo_icmp_ge 50 d_X4_addName_6 (by decide) ?_ ?_
  · skip
    exact jo_vret rfl d_X4_addName_50
  · skip
    refine jo_aload 0 d_X4_addName_9 rfl rfl ?_
    refine jo_getR (k := 5) cl_4 (Nat.le_of_ble_eq_true rfl) lk_X4_27 rfl hth (kr_Plan_5 hth) d_X4_addName_10 ?_
    refine jo_aload 0 d_X4_addName_13 rfl rfl ?_
    refine jo_getI (k := 4) cl_4 (Nat.le_of_ble_eq_true rfl) lk_X4_24 (Or.inl rfl) hth d_X4_addName_14 ?_
    refine jo_lload 1 d_X4_addName_17 rfl rfl ?_
    refine jo_last (N := 22) (ka_Plan_5 hth) d_X4_addName_18 (fun M1 => ?_)
    refine jo_aload 0 d_X4_addName_19 rfl rfl ?_
    refine jo_getR (k := 6) cl_4 (Nat.le_of_ble_eq_true rfl) lk_X4_31 rfl hth (kr_Plan_6 hth) d_X4_addName_20 ?_
    refine jo_aload 0 d_X4_addName_23 rfl rfl ?_
    refine jo_getI (k := 4) cl_4 (Nat.le_of_ble_eq_true rfl) lk_X4_24 (Or.inl rfl) hth d_X4_addName_24 ?_
    refine jo_iload 3 d_X4_addName_27 rfl rfl ?_
    refine jo_iast (N := 22) (ka_Plan_6 hth) d_X4_addName_28 (fun M2 => ?_)
    refine jo_aload 0 d_X4_addName_29 rfl rfl ?_
    refine jo_getR (k := 7) cl_4 (Nat.le_of_ble_eq_true rfl) lk_X4_35 rfl hth (kr_Plan_7 hth) d_X4_addName_30 ?_
    refine jo_aload 0 d_X4_addName_33 rfl rfl ?_
    refine jo_getI (k := 4) cl_4 (Nat.le_of_ble_eq_true rfl) lk_X4_24 (Or.inl rfl) hth d_X4_addName_34 ?_
    refine jo_iloadW 4 d_X4_addName_37 rfl ?_
    refine jo_iast (N := 22) (ka_Plan_7 hth) d_X4_addName_39 (fun M3 => ?_)
    refine jo_aload 0 d_X4_addName_40 rfl rfl ?_
    refine jo_dup d_X4_addName_41 rfl ?_
    refine jo_getI (k := 4) cl_4 (Nat.le_of_ble_eq_true rfl) lk_X4_24 (Or.inl rfl) hth d_X4_addName_42 ?_
    refine jo_iconst 1 d_X4_addName_45 ?_
    refine jo_iadd d_X4_addName_46 ?_
    refine jo_putI (k := 4) cl_4 (Nat.le_of_ble_eq_true rfl) lk_X4_24 rfl rfl hth d_X4_addName_47 (fun M4 => ?_)
    exact jo_vret rfl d_X4_addName_50
theorem m_X4_addName {g : JG} {ad : Nat → Nat} (hs : jStr g ad) (n : Nat) (th : Nat) (x1 : Int) (x3 : Int) (x4 : Int) (hth : jK jNN (0, 4) th) (M : JMem) : jMet g jNN ad jR D_X4_addName yX4_addName [.ref th, jl x1, ji x3, ji x4] M (f_X4_addName n th x1 x3 x4 M) :=
  jMet.of (lo0 := [some (.ref th), some (jl x1), none, some (ji x3), some (ji x4)]) (by decide) rfl rfl (Nat.le_of_ble_eq_true rfl) (And.intro rfl (And.intro rfl (And.intro rfl (And.intro rfl True.intro)))) (t_X4_addName hs n th x1 x3 x4 hth M)
end

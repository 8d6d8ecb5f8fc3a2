section JCTOR2
variable {α : Type} {g : JG} {d : JD} {Qf : JQ α} {cs : Nat × Nat} {n : Nat} {ad : Nat → Nat} {ρ : JRho} {pc : Nat} {lo : List (Option Value)} {st : List Value} {M : JMem} {o : Option α}
set_option maxRecDepth 4000 in
theorem tg_X6_withLetter {g : JG} {ad : Nat → Nat} {n0 : Nat} {ρ : JRho} (hs : jStr g ad) (n : Nat) (x0 : Int) (x2 : Int) (M : JMem) : jO g D_X6_withLetter (jMQ g n0 ad ρ D_X6_withLetter.2.2.2.1) (0, 0) n0 ad ρ 0 [some (jl x0), none, some (ji x2)] [] M (f_X6_withLetter n x0 x2 M) := by
  unfold f_X6_withLetter
  refine jo_lload 0 d_X6_withLetter_0 rfl rfl ?_
  refine jo_iconst 5 d_X6_withLetter_1 ?_
  refine jo_lshl d_X6_withLetter_2 ?_
  refine jo_iload 2 d_X6_withLetter_3 rfl rfl ?_
  refine jo_bipush 97 d_X6_withLetter_4 (by decide) ?_
  refine jo_isub d_X6_withLetter_6 ?_
  refine jo_iconst 1 d_X6_withLetter_7 ?_
  refine jo_iadd d_X6_withLetter_8 ?_
  refine jo_i2l d_X6_withLetter_9 ?_
  refine jo_lor d_X6_withLetter_10 ?_
  exact jo_lret rfl d_X6_withLetter_11
theorem mg_X6_withLetter {g : JG} {ad : Nat → Nat} {n0 : Nat} {ρ : JRho} (hs : jStr g ad) (n : Nat) (x0 : Int) (x2 : Int) (M : JMem) : jMet g n0 ad ρ D_X6_withLetter yX6_withLetter [jl x0, ji x2] M (f_X6_withLetter n x0 x2 M) :=
  jMet.of (lo0 := [some (jl x0), none, some (ji x2)]) (by decide) rfl rfl (Nat.le_of_ble_eq_true rfl) (And.intro rfl (And.intro rfl True.intro)) (tg_X6_withLetter hs n x0 x2 M)
theorem jo_ldcS0 (hs : jStr g ad) (hd : decode d.2.1 pc = .ok (.ldc 48, 2)) (k : jO g d Qf cs n ad ρ (pc + 2) lo (.ref 1000 :: st) M o) (hown : d.1 = RX6 := by rfl) : jO g d Qf cs n ad ρ pc lo st M o :=
  k.row fun p e s m args below meth c H locs ls Q C hl kk => va_ldcS C.1 C.2.1 C.2.2.2.2.2.2.1 (by rw [hown]; exact C.2.2.2.2.2.2.2.2.2.2.1) hd (by
    have e1 : (Value.ref 1000 :: st).map (jmv ad) = .ref (ad 1000) :: st.map (jmv ad) := rfl
    rw [e1, hs.1] at kk
    exact kk)
theorem jo_slenX {idx : Nat} (hs : jStr g ad) (hlink : Cond.methodLink d.1 idx yJ0_length_8abf5 ∈ jTW) (hf : 4 ≤ d.2.2.2.2.2.frames ∧ 110 ≤ d.2.2.2.2.2.locals) (hw : (st.map fun v => v.category).sum ≤ 8) (hd : decode d.2.1 pc = .ok (.invokevirtual idx, 3)) (k : jO g d Qf cs n ad ρ (pc + 3) lo (ji 137 :: st) M o) (hcs : cs.1 ≤ d.2.2.2.2.2.cells ∧ cs.2 ≤ d.2.2.2.2.2.slots := by exact (And.intro (Nat.le_of_ble_eq_true rfl) (Nat.le_of_ble_eq_true rfl))) : jO g d Qf cs n ad ρ pc lo (.ref 1000 :: st) M o :=
  jo_slenT (i := 0) hs (by decide) hlink hf hcs hw hd k
theorem jo_satX {idx : Nat} {x : Int} (hs : jStr g ad) (hlink : Cond.methodLink d.1 idx yJ0_charAt_5068e ∈ jTW) (hf : 4 ≤ d.2.2.2.2.2.frames ∧ 110 ≤ d.2.2.2.2.2.locals) (hw : (st.map fun v => v.category).sum ≤ 8) (hd : decode d.2.1 pc = .ok (.invokevirtual idx, 3)) (k : jO g d Qf cs n ad ρ (pc + 3) lo (ji (jSb 0 (jw x).toNat) :: st) M o) (hcs : cs.1 ≤ d.2.2.2.2.2.cells ∧ cs.2 ≤ d.2.2.2.2.2.slots := by exact (And.intro (Nat.le_of_ble_eq_true rfl) (Nat.le_of_ble_eq_true rfl))) : jO g d Qf cs n ad ρ pc lo (ji x :: .ref 1000 :: st) M (chk (jin x 137) o) :=
  jo_satT (i := 0) hs (by decide) hlink hf hcs hw hd k
theorem lm_X6_3 : Cond.methodLink RX6 3 Lib.objectInit ∈ jTW := jTW_mem (k := 190) (by decide +kernel) rfl
def D_X6_init : JD := (RX6, cX6_init, 7, none, "<init>", { frames := 5, cells := 2, slots := 927, locals := 130 })
theorem okc_X6 : jOkC D_X6_init yX6_init 0 := ⟨⟨jTW_mem (k := 189) (by decide +kernel) rfl, rfl⟩, jTW_mem (k := 137) (by decide +kernel) rfl, ⟨by decide +kernel, by decide +kernel⟩, by decide +kernel, rfl, jTW_mem (k := 188) (by decide +kernel) rfl⟩
theorem d_X6_init_0 : decode (D_X6_init).2.1 0 = .ok (.aload_n 0, 1) := by decide +kernel
theorem d_X6_init_1 : decode (D_X6_init).2.1 1 = .ok (.invokespecial 3, 3) := by decide +kernel
theorem d_X6_init_4 : decode (D_X6_init).2.1 4 = .ok (.aload_n 0, 1) := by decide +kernel
theorem d_X6_init_5 : decode (D_X6_init).2.1 5 = .ok (.sipush 900, 3) := by decide +kernel
theorem d_X6_init_8 : decode (D_X6_init).2.1 8 = .ok (.newarray .byte, 2) := by decide +kernel
theorem d_X6_init_10 : decode (D_X6_init).2.1 10 = .ok (.putfield 11, 3) := by decide +kernel
theorem d_X6_init_13 : decode (D_X6_init).2.1 13 = .ok (.aload_n 0, 1) := by decide +kernel
theorem d_X6_init_14 : decode (D_X6_init).2.1 14 = .ok (.iconst 0, 1) := by decide +kernel
theorem d_X6_init_15 : decode (D_X6_init).2.1 15 = .ok (.putfield 15, 3) := by decide +kernel
theorem d_X6_init_18 : decode (D_X6_init).2.1 18 = .ok (.aload_n 0, 1) := by decide +kernel
theorem d_X6_init_19 : decode (D_X6_init).2.1 19 = .ok (.iconst (-1), 1) := by decide +kernel
theorem d_X6_init_20 : decode (D_X6_init).2.1 20 = .ok (.putfield 19, 3) := by decide +kernel
theorem d_X6_init_23 : decode (D_X6_init).2.1 23 = .ok (.aload_n 0, 1) := by decide +kernel
theorem d_X6_init_24 : decode (D_X6_init).2.1 24 = .ok (.iconst (-1), 1) := by decide +kernel
theorem d_X6_init_25 : decode (D_X6_init).2.1 25 = .ok (.putfield 22, 3) := by decide +kernel
theorem d_X6_init_28 : decode (D_X6_init).2.1 28 = .ok (.aload_n 0, 1) := by decide +kernel
theorem d_X6_init_29 : decode (D_X6_init).2.1 29 = .ok (.bipush 6, 2) := by decide +kernel
theorem d_X6_init_31 : decode (D_X6_init).2.1 31 = .ok (.putfield 25, 3) := by decide +kernel
theorem d_X6_init_34 : decode (D_X6_init).2.1 34 = .ok (.aload_n 0, 1) := by decide +kernel
theorem d_X6_init_35 : decode (D_X6_init).2.1 35 = .ok (.iconst 0, 1) := by decide +kernel
theorem d_X6_init_36 : decode (D_X6_init).2.1 36 = .ok (.putfield 28, 3) := by decide +kernel
theorem d_X6_init_39 : decode (D_X6_init).2.1 39 = .ok (.aload_n 0, 1) := by decide +kernel
theorem d_X6_init_40 : decode (D_X6_init).2.1 40 = .ok (.iconst 0, 1) := by decide +kernel
theorem d_X6_init_41 : decode (D_X6_init).2.1 41 = .ok (.putfield 31, 3) := by decide +kernel
theorem d_X6_init_44 : decode (D_X6_init).2.1 44 = .ok (.aload_n 0, 1) := by decide +kernel
theorem d_X6_init_45 : decode (D_X6_init).2.1 45 = .ok (.lconst 0, 1) := by decide +kernel
theorem d_X6_init_46 : decode (D_X6_init).2.1 46 = .ok (.putfield 34, 3) := by decide +kernel
theorem d_X6_init_49 : decode (D_X6_init).2.1 49 = .ok (.aload_n 0, 1) := by decide +kernel
theorem d_X6_init_50 : decode (D_X6_init).2.1 50 = .ok (.iconst 0, 1) := by decide +kernel
theorem d_X6_init_51 : decode (D_X6_init).2.1 51 = .ok (.putfield 38, 3) := by decide +kernel
theorem d_X6_init_54 : decode (D_X6_init).2.1 54 = .ok (.aload_n 0, 1) := by decide +kernel
theorem d_X6_init_55 : decode (D_X6_init).2.1 55 = .ok (.iconst 0, 1) := by decide +kernel
theorem d_X6_init_56 : decode (D_X6_init).2.1 56 = .ok (.putfield 41, 3) := by decide +kernel
theorem d_X6_init_59 : decode (D_X6_init).2.1 59 = .ok (.aload_n 0, 1) := by decide +kernel
theorem d_X6_init_60 : decode (D_X6_init).2.1 60 = .ok (.bipush 27, 2) := by decide +kernel
theorem d_X6_init_62 : decode (D_X6_init).2.1 62 = .ok (.newarray .long, 2) := by decide +kernel
theorem d_X6_init_64 : decode (D_X6_init).2.1 64 = .ok (.putfield 44, 3) := by decide +kernel
theorem d_X6_init_67 : decode (D_X6_init).2.1 67 = .ok (.iconst 0, 1) := by decide +kernel
theorem d_X6_init_68 : decode (D_X6_init).2.1 68 = .ok (.istore_n 1, 1) := by decide +kernel
theorem d_X6_init_69 : decode (D_X6_init).2.1 69 = .ok (.iconst 0, 1) := by decide +kernel
theorem d_X6_init_70 : decode (D_X6_init).2.1 70 = .ok (.istore_n 2, 1) := by decide +kernel
theorem d_X6_init_71 : decode (D_X6_init).2.1 71 = .ok (.iconst 0, 1) := by decide +kernel
theorem d_X6_init_72 : decode (D_X6_init).2.1 72 = .ok (.istore_n 3, 1) := by decide +kernel
theorem d_X6_init_73 : decode (D_X6_init).2.1 73 = .ok (.iload_n 3, 1) := by decide +kernel
def cM_X6 (M : JMem) : JMem := (jz (jup (jup (jup (jup (jup (jup (jup (jup (jup (jz M 10) 9 1 0) 9 2 (-1)) 9 3 (-1)) 9 4 6) 9 5 0) 9 6 0) 9 7 0) 9 8 0) 9 9 0) 11)
def cR_X6 (ρ : JRho) : JRho := (jsr (jzr (jsr (jzr ρ 10) 9 0 10) 11) 9 10 11)
theorem d_X6_init_74 : decode (D_X6_init).2.1 74 = .ok (.ldc 48, 2) := by decide +kernel
theorem d_X6_init_76 : decode (D_X6_init).2.1 76 = .ok (.invokevirtual 50, 3) := by decide +kernel
theorem d_X6_init_79 : decode (D_X6_init).2.1 79 = .ok (.if_icmp .ge 73, 3) := by decide +kernel
theorem d_X6_init_82 : decode (D_X6_init).2.1 82 = .ok (.iload_n 2, 1) := by decide +kernel
theorem d_X6_init_83 : decode (D_X6_init).2.1 83 = .ok (.bipush 27, 2) := by decide +kernel
theorem d_X6_init_85 : decode (D_X6_init).2.1 85 = .ok (.if_icmp .ge 67, 3) := by decide +kernel
theorem d_X6_init_88 : decode (D_X6_init).2.1 88 = .ok (.ldc 48, 2) := by decide +kernel
theorem d_X6_init_90 : decode (D_X6_init).2.1 90 = .ok (.iload_n 3, 1) := by decide +kernel
theorem d_X6_init_91 : decode (D_X6_init).2.1 91 = .ok (.invokevirtual 55, 3) := by decide +kernel
theorem d_X6_init_94 : decode (D_X6_init).2.1 94 = .ok (.bipush 32, 2) := by decide +kernel
theorem d_X6_init_96 : decode (D_X6_init).2.1 96 = .ok (.if_icmp .ne 50, 3) := by decide +kernel
theorem d_X6_init_99 : decode (D_X6_init).2.1 99 = .ok (.lconst 0, 1) := by decide +kernel
theorem d_X6_init_100 : decode (D_X6_init).2.1 100 = .ok (.lstore 4, 2) := by decide +kernel
theorem d_X6_init_102 : decode (D_X6_init).2.1 102 = .ok (.iload_n 1, 1) := by decide +kernel
theorem d_X6_init_103 : decode (D_X6_init).2.1 103 = .ok (.istore 6, 2) := by decide +kernel
theorem d_X6_init_105 : decode (D_X6_init).2.1 105 = .ok (.iload 6, 2) := by decide +kernel
theorem d_X6_init_107 : decode (D_X6_init).2.1 107 = .ok (.iload_n 3, 1) := by decide +kernel
theorem d_X6_init_108 : decode (D_X6_init).2.1 108 = .ok (.if_icmp .ge 23, 3) := by decide +kernel
theorem d_X6_init_111 : decode (D_X6_init).2.1 111 = .ok (.lload 4, 2) := by decide +kernel
theorem d_X6_init_113 : decode (D_X6_init).2.1 113 = .ok (.ldc 48, 2) := by decide +kernel
theorem d_X6_init_115 : decode (D_X6_init).2.1 115 = .ok (.iload 6, 2) := by decide +kernel
theorem d_X6_init_117 : decode (D_X6_init).2.1 117 = .ok (.invokevirtual 55, 3) := by decide +kernel
theorem d_X6_init_120 : decode (D_X6_init).2.1 120 = .ok (.invokestatic 59, 3) := by decide +kernel
theorem d_X6_init_123 : decode (D_X6_init).2.1 123 = .ok (.lstore 4, 2) := by decide +kernel
theorem d_X6_init_125 : decode (D_X6_init).2.1 125 = .ok (.iinc 6 1, 3) := by decide +kernel
theorem d_X6_init_128 : decode (D_X6_init).2.1 128 = .ok (.goto (-23), 3) := by decide +kernel
theorem d_X6_init_131 : decode (D_X6_init).2.1 131 = .ok (.aload_n 0, 1) := by decide +kernel
theorem d_X6_init_132 : decode (D_X6_init).2.1 132 = .ok (.getfield 44, 3) := by decide +kernel
theorem d_X6_init_135 : decode (D_X6_init).2.1 135 = .ok (.iload_n 2, 1) := by decide +kernel
theorem d_X6_init_136 : decode (D_X6_init).2.1 136 = .ok (.lload 4, 2) := by decide +kernel
theorem d_X6_init_138 : decode (D_X6_init).2.1 138 = .ok (.lastore, 1) := by decide +kernel
theorem d_X6_init_139 : decode (D_X6_init).2.1 139 = .ok (.iinc 2 1, 3) := by decide +kernel
theorem d_X6_init_142 : decode (D_X6_init).2.1 142 = .ok (.iload_n 3, 1) := by decide +kernel
theorem d_X6_init_143 : decode (D_X6_init).2.1 143 = .ok (.iconst 1, 1) := by decide +kernel
theorem d_X6_init_144 : decode (D_X6_init).2.1 144 = .ok (.iadd, 1) := by decide +kernel
theorem d_X6_init_145 : decode (D_X6_init).2.1 145 = .ok (.istore_n 1, 1) := by decide +kernel
theorem d_X6_init_146 : decode (D_X6_init).2.1 146 = .ok (.iinc 3 1, 3) := by decide +kernel
theorem d_X6_init_149 : decode (D_X6_init).2.1 149 = .ok (.goto (-76), 3) := by decide +kernel
theorem d_X6_init_152 : decode (D_X6_init).2.1 152 = .ok (.return_, 1) := by decide +kernel
abbrev jT (g : JG) (ad0 ad : Nat → Nat) (ρ : JRho) (pc : Nat) (lo : List (Option Value)) (st : List Value) (M : JMem) (o : Option (Int × JMem)) : Prop := jO g D_X6_init (jMQT g 10 ad0 12 ρ (2, 927)) (2, 927) 12 ad ρ pc lo st M o
theorem lm_X6_50 : Cond.methodLink RX6 50 yJ0_length_8abf5 ∈ jTW := jTW_mem (k := 192) (by decide +kernel) rfl
theorem lm_X6_55 : Cond.methodLink RX6 55 yJ0_charAt_5068e ∈ jTW := jTW_mem (k := 202) (by decide +kernel) rfl
def f_X6_init_L146 (n : Nat) (r73 : Int → Int → Int → JMem → Option (Int × JMem)) (v1 v2 v3 : Int) (M : JMem) : Option (Int × JMem) := letv (v3 + 1) fun y1 => r73 v1 v2 y1 M
set_option maxRecDepth 4000 in
theorem t_X6_init_L146 {g : JG} {ad0 ad : Nat → Nat} {ρ : JRho} (hs : jStr g ad) (hg : jag 10 ad0 ad) (hρ : ρ 9 10 = some 11) (n : Nat) (r73 : Int → Int → Int → JMem → Option (Int × JMem)) (hr73 : ∀ (v1 v2 v3 : Int) (M : JMem), jT g ad0 ad ρ 73 [some (.ref 9), some (ji v1), some (ji v2), some (ji v3), none, none, none] [] M (r73 v1 v2 v3 M)) (v1 v2 v3 : Int) (M : JMem) : jT g ad0 ad ρ 146 [some (.ref 9), some (ji v1), some (ji v2), some (ji v3), none, none, none] [] M (f_X6_init_L146 n r73 v1 v2 v3 M) := by
  unfold f_X6_init_L146
  refine jo_iinc 3 d_X6_init_146 rfl (Nat.le_of_ble_eq_true rfl) (fun y1 => ?_)
  refine jo_goto 73 d_X6_init_149 (by decide) ?_
  exact jO.sub (hr73 v1 v2 y1 M) (And.intro rfl (And.intro rfl (And.intro rfl (And.intro rfl True.intro))))
def f_X6_init_L131 (n : Nat) (r73 : Int → Int → Int → JMem → Option (Int × JMem)) (v2 v3 v4 : Int) (M : JMem) : Option (Int × JMem) := chk (jin v2 27) <| letm (jup M 11 (jw v2).toNat v4) fun M1 => letv (v2 + 1) fun y2 => letv (v3 + 1) fun y3 => f_X6_init_L146 n r73 y3 y2 v3 M1
set_option maxRecDepth 4000 in
theorem t_X6_init_L131 {g : JG} {ad0 ad : Nat → Nat} {ρ : JRho} (hs : jStr g ad) (hg : jag 10 ad0 ad) (hρ : ρ 9 10 = some 11) (n : Nat) (r73 : Int → Int → Int → JMem → Option (Int × JMem)) (hr73 : ∀ (v1 v2 v3 : Int) (M : JMem), jT g ad0 ad ρ 73 [some (.ref 9), some (ji v1), some (ji v2), some (ji v3), none, none, none] [] M (r73 v1 v2 v3 M)) (v2 v3 v4 : Int) (M : JMem) : jT g ad0 ad ρ 131 [some (.ref 9), none, some (ji v2), some (ji v3), some (jl v4), none, none] [] M (f_X6_init_L131 n r73 v2 v3 v4 M) := by
  unfold f_X6_init_L131
  refine jo_aload 0 d_X6_init_131 rfl rfl ?_
  refine jo_getR (k := 10) cl_6 (Nat.le_of_ble_eq_true rfl) lk_X6_44 rfl (jK_dec _ _ _ (by decide +kernel) : jK 12 (0, 6) 9) hρ d_X6_init_132 ?_
  refine jo_iload 2 d_X6_init_135 rfl rfl ?_
  refine jo_lloadW 4 d_X6_init_136 rfl ?_
  refine jo_last (N := 27) (jK_dec _ _ _ (by decide +kernel) : jK 12 (2, 27) 11) d_X6_init_138 (fun M1 => ?_)
  refine jo_iinc 2 d_X6_init_139 rfl (Nat.le_of_ble_eq_true rfl) (fun y2 => ?_)
  refine jo_iload 3 d_X6_init_142 rfl rfl ?_
  refine jo_iconst 1 d_X6_init_143 ?_
  refine jo_iadd d_X6_init_144 ?_
  refine jo_istore 1 d_X6_init_145 rfl (Nat.le_of_ble_eq_true rfl) (fun y3 => ?_)
  exact jO.sub (t_X6_init_L146 hs hg hρ n r73 hr73 y3 y2 v3 M1) (And.intro rfl (And.intro rfl (And.intro rfl (And.intro rfl True.intro))))
def f_X6_init_L105 (n : Nat) (r73 : Int → Int → Int → JMem → Option (Int × JMem)) : Nat → Int → Int → Int → Int → JMem → Option (Int × JMem)
  | 0, _, _, _, _, _ => none
  | k + 1, v2, v3, v4, v6, M => if jw v3 ≤ jw v6 then (f_X6_init_L131 n r73 v2 v3 v4 M) else (chk (jin v6 137) <| bnd (f_X6_withLetter n v4 (jSb 0 (jw v6).toNat) M) fun r1 M2 => letv r1 fun y3 => letv (v6 + 1) fun y4 => (f_X6_init_L105 n r73 k) v2 v3 y3 y4 M2)
set_option maxRecDepth 4000 in
theorem t_X6_init_L105 {g : JG} {ad0 ad : Nat → Nat} {ρ : JRho} (hs : jStr g ad) (hg : jag 10 ad0 ad) (hρ : ρ 9 10 = some 11) (n : Nat) (r73 : Int → Int → Int → JMem → Option (Int × JMem)) (hr73 : ∀ (v1 v2 v3 : Int) (M : JMem), jT g ad0 ad ρ 73 [some (.ref 9), some (ji v1), some (ji v2), some (ji v3), none, none, none] [] M (r73 v1 v2 v3 M)) : ∀ (k : Nat) (v2 v3 v4 v6 : Int) (M : JMem), jT g ad0 ad ρ 105 [some (.ref 9), none, some (ji v2), some (ji v3), some (jl v4), none, some (ji v6)] [] M (f_X6_init_L105 n r73 k v2 v3 v4 v6 M) := by
  intro k
  induction k with
  | zero => intro v2 v3 v4 v6 M; exact jO.none
  | succ k ih =>
    intro v2 v3 v4 v6 M
    rw [f_X6_init_L105]
    refine jo_iloadW 6 d_X6_init_105 rfl ?_
    refine jo_iload 3 d_X6_init_107 rfl rfl ?_
    refine jo_icmp_ge 131 d_X6_init_108 (by decide) ?_ ?_
    · skip
      exact jO.sub (t_X6_init_L131 hs hg hρ n r73 hr73 v2 v3 v4 M) (And.intro rfl (And.intro rfl (And.intro rfl (And.intro rfl True.intro))))
    · skip
      refine jo_lloadW 4 d_X6_init_111 rfl ?_
      refine jo_ldcS0 hs d_X6_init_113 ?_
      refine jo_iloadW 6 d_X6_init_115 rfl ?_
      refine jo_satX hs lm_X6_55 (And.intro (Nat.le_of_ble_eq_true rfl) (Nat.le_of_ble_eq_true rfl)) (Nat.le_of_ble_eq_true rfl) d_X6_init_117 ?_
      refine jo_callS (st := []) (mg_X6_withLetter (n0 := 12) (ρ := ρ) hs n v4 (jSb 0 (jw v6).toNat) M) ok_X6_withLetter (And.intro (Nat.le_of_ble_eq_true rfl) (Nat.le_of_ble_eq_true rfl)) lm_X6_59 st_X6_withLetter rfl (And.intro (Nat.le_of_ble_eq_true rfl) (Nat.le_of_ble_eq_true rfl)) rfl (Nat.le_of_ble_eq_true rfl) d_X6_init_120 (fun r1 M2 => ?_)
      refine jo_lstoreW 4 d_X6_init_123 (Nat.le_of_ble_eq_true rfl) (fun y3 => ?_)
      refine jo_iinc 6 d_X6_init_125 rfl (Nat.le_of_ble_eq_true rfl) (fun y4 => ?_)
      refine jo_goto 105 d_X6_init_128 (by decide) ?_
      exact jO.sub (ih v2 v3 y3 y4 M2) (And.intro rfl (And.intro rfl (And.intro rfl (And.intro rfl (And.intro rfl True.intro)))))
def f_X6_init_L73 (n : Nat) : Nat → Int → Int → Int → JMem → Option (Int × JMem)
  | 0, _, _, _, _ => none
  | k + 1, v1, v2, v3, M => if jw 137 ≤ jw v3 then (some (0, M)) else (if jw 27 ≤ jw v2 then (some (0, M)) else (chk (jin v3 137) <| if jw (jSb 0 (jw v3).toNat) = jw 32 then (letv 0 fun y1 => letv v1 fun y2 => f_X6_init_L105 n (f_X6_init_L73 n k) n v2 v3 y1 y2 M) else (f_X6_init_L146 n (f_X6_init_L73 n k) v1 v2 v3 M)))
set_option maxRecDepth 4000 in
theorem t_X6_init_L73 {g : JG} {ad0 ad : Nat → Nat} {ρ : JRho} (hs : jStr g ad) (hg : jag 10 ad0 ad) (hρ : ρ 9 10 = some 11) (n : Nat) : ∀ (k : Nat) (v1 v2 v3 : Int) (M : JMem), jT g ad0 ad ρ 73 [some (.ref 9), some (ji v1), some (ji v2), some (ji v3), none, none, none] [] M (f_X6_init_L73 n k v1 v2 v3 M) := by
  intro k
  induction k with
  | zero => intro v1 v2 v3 M; exact jO.none
  | succ k ih =>
    intro v1 v2 v3 M
    rw [f_X6_init_L73]
    refine jo_iload 3 d_X6_init_73 rfl rfl ?_
    refine jo_ldcS0 hs d_X6_init_74 ?_
    refine jo_slenX hs lm_X6_50 (And.intro (Nat.le_of_ble_eq_true rfl) (Nat.le_of_ble_eq_true rfl)) (Nat.le_of_ble_eq_true rfl) d_X6_init_76 ?_
    refine jo_icmp_ge 152 d_X6_init_79 (by decide) ?_ ?_
    · skip
      exact jo_tret hg rfl d_X6_init_152 (And.intro (Nat.le_refl _) (Nat.le_refl _))
    · skip
      refine jo_iload 2 d_X6_init_82 rfl rfl ?_
      refine jo_bipush 27 d_X6_init_83 (by decide) ?_
      refine jo_icmp_ge 152 d_X6_init_85 (by decide) ?_ ?_
      · skip
        exact jo_tret hg rfl d_X6_init_152 (And.intro (Nat.le_refl _) (Nat.le_refl _))
      · skip
        refine jo_ldcS0 hs d_X6_init_88 ?_
        refine jo_iload 3 d_X6_init_90 rfl rfl ?_
        refine jo_satX hs lm_X6_55 (And.intro (Nat.le_of_ble_eq_true rfl) (Nat.le_of_ble_eq_true rfl)) (Nat.le_of_ble_eq_true rfl) d_X6_init_91 ?_
        refine jo_bipush 32 d_X6_init_94 (by decide) ?_
        refine jo_icmp_ne 146 d_X6_init_96 (by decide) ?_ ?_
        · skip
          exact jO.sub (t_X6_init_L146 hs hg hρ n (f_X6_init_L73 n k) ih v1 v2 v3 M) (And.intro rfl (And.intro rfl (And.intro rfl (And.intro rfl True.intro))))
        · skip
          refine jo_lconst0 d_X6_init_99 ?_
          refine jo_lstoreW 4 d_X6_init_100 (Nat.le_of_ble_eq_true rfl) (fun y1 => ?_)
          refine jo_iload 1 d_X6_init_102 rfl rfl ?_
          refine jo_istoreW 6 d_X6_init_103 (Nat.le_of_ble_eq_true rfl) (fun y2 => ?_)
          exact jO.sub (t_X6_init_L105 hs hg hρ n (f_X6_init_L73 n k) ih n v2 v3 y1 y2 M) (And.intro rfl (And.intro rfl (And.intro rfl (And.intro rfl (And.intro rfl True.intro)))))
set_option maxRecDepth 8000 in
theorem c_X6 {g : JG} {r : Int} {M1 : JMem} (ρ : JRho) (M : JMem) (w0 : jwf 10 ρ) (hf : f_X6_init_L73 400 400 0 0 0 (cM_X6 M) = some (r, M1)) : jMetC g D_X6_init yX6_init [.ref 9] 10 12 ρ (cR_X6 ρ) M M1 := by
  have hj : jNN = 186 := rfl
  refine jMetC.of (lo0 := [some (.ref 9), none, none, none, none, none, none]) (by decide) rfl rfl (fun ad => (Nat.le_of_ble_eq_true rfl)) (And.intro rfl True.intro) (fun ad0 s0 => ?_)
  have g0 : jag 10 ad0 ad0 := jag.rf
  unfold cM_X6 at hf
  unfold cR_X6
  refine jo_aload 0 d_X6_init_0 rfl rfl ?_
  refine jo_obj lm_X6_3 (Nat.le_of_ble_eq_true rfl) (Nat.le_of_ble_eq_true rfl) d_X6_init_1 ?_
  refine jo_aload 0 d_X6_init_4 rfl rfl ?_
  refine jo_sipush 900 d_X6_init_5 (by decide) ?_
  refine jo_newB (N := 900) (a0 := 9) (by decide +kernel : jG 10 = (3, 900)) (by omega) (by omega) w0 ar_byte (by decide +kernel) (by decide +kernel) (Nat.le_of_ble_eq_true rfl) (And.intro (jvo_lt (by omega)) True.intro) (And.intro (jvo_lt (by omega)) True.intro) (And.intro (Nat.le_of_ble_eq_true rfl) (Nat.le_of_ble_eq_true rfl)) d_X6_init_8 (fun ad1 h1 => ?_)
  have g1 := g0.tr h1 (by omega)
  have s1 := s0.ag h1
  have w1 := jwf_new w0
  refine jo_putR (k := 0) cl_6 (Nat.le_of_ble_eq_true rfl) lk_X6_11 rfl rfl rfl rfl (And.intro (by omega) (by decide +kernel : jG 9 = (0, 6))) d_X6_init_10 ?_
  have w2 := jwf_set (a := 9) (k := 0) (b := 10) w1 (by omega) (by decide)
  refine jo_aload 0 d_X6_init_13 rfl rfl ?_
  refine jo_iconst 0 d_X6_init_14 ?_
  refine jo_putIC (k := 1) cl_6 (Nat.le_of_ble_eq_true rfl) lk_X6_15 rfl rfl (And.intro (by omega) (by decide +kernel : jG 9 = (0, 6))) d_X6_init_15 ?_
  refine jo_aload 0 d_X6_init_18 rfl rfl ?_
  refine jo_iconst (-1) d_X6_init_19 ?_
  refine jo_putIC (k := 2) cl_6 (Nat.le_of_ble_eq_true rfl) lk_X6_19 rfl rfl (And.intro (by omega) (by decide +kernel : jG 9 = (0, 6))) d_X6_init_20 ?_
  refine jo_aload 0 d_X6_init_23 rfl rfl ?_
  refine jo_iconst (-1) d_X6_init_24 ?_
  refine jo_putIC (k := 3) cl_6 (Nat.le_of_ble_eq_true rfl) lk_X6_22 rfl rfl (And.intro (by omega) (by decide +kernel : jG 9 = (0, 6))) d_X6_init_25 ?_
  refine jo_aload 0 d_X6_init_28 rfl rfl ?_
  refine jo_bipush 6 d_X6_init_29 (by decide) ?_
  refine jo_putIC (k := 4) cl_6 (Nat.le_of_ble_eq_true rfl) lk_X6_25 rfl rfl (And.intro (by omega) (by decide +kernel : jG 9 = (0, 6))) d_X6_init_31 ?_
  refine jo_aload 0 d_X6_init_34 rfl rfl ?_
  refine jo_iconst 0 d_X6_init_35 ?_
  refine jo_putIC (k := 5) cl_6 (Nat.le_of_ble_eq_true rfl) lk_X6_28 rfl rfl (And.intro (by omega) (by decide +kernel : jG 9 = (0, 6))) d_X6_init_36 ?_
  refine jo_aload 0 d_X6_init_39 rfl rfl ?_
  refine jo_iconst 0 d_X6_init_40 ?_
  refine jo_putIC (k := 6) cl_6 (Nat.le_of_ble_eq_true rfl) lk_X6_31 rfl rfl (And.intro (by omega) (by decide +kernel : jG 9 = (0, 6))) d_X6_init_41 ?_
  refine jo_aload 0 d_X6_init_44 rfl rfl ?_
  refine jo_lconst0 d_X6_init_45 ?_
  refine jo_putLC (k := 7) cl_6 (Nat.le_of_ble_eq_true rfl) lk_X6_34 rfl rfl (And.intro (by omega) (by decide +kernel : jG 9 = (0, 6))) d_X6_init_46 ?_
  refine jo_aload 0 d_X6_init_49 rfl rfl ?_
  refine jo_iconst 0 d_X6_init_50 ?_
  refine jo_putIC (k := 8) cl_6 (Nat.le_of_ble_eq_true rfl) lk_X6_38 rfl rfl (And.intro (by omega) (by decide +kernel : jG 9 = (0, 6))) d_X6_init_51 ?_
  refine jo_aload 0 d_X6_init_54 rfl rfl ?_
  refine jo_iconst 0 d_X6_init_55 ?_
  refine jo_putIC (k := 9) cl_6 (Nat.le_of_ble_eq_true rfl) lk_X6_41 rfl rfl (And.intro (by omega) (by decide +kernel : jG 9 = (0, 6))) d_X6_init_56 ?_
  refine jo_aload 0 d_X6_init_59 rfl rfl ?_
  refine jo_bipush 27 d_X6_init_60 (by decide) ?_
  refine jo_newL (N := 27) (a0 := 9) (by decide +kernel : jG 11 = (2, 27)) (by omega) (by omega) w2 ar_long (by decide +kernel) (by decide +kernel) (Nat.le_of_ble_eq_true rfl) (And.intro (jvo_lt (by omega)) True.intro) (And.intro (jvo_lt (by omega)) True.intro) (And.intro (Nat.le_of_ble_eq_true rfl) (Nat.le_of_ble_eq_true rfl)) d_X6_init_62 (fun ad2 h2 => ?_)
  have g2 := g1.tr h2 (by omega)
  have s2 := s1.ag h2
  have w3 := jwf_new w2
  refine jo_putR (k := 10) cl_6 (Nat.le_of_ble_eq_true rfl) lk_X6_44 rfl rfl rfl rfl (And.intro (by omega) (by decide +kernel : jG 9 = (0, 6))) d_X6_init_64 ?_
  have w4 := jwf_set (a := 9) (k := 10) (b := 11) w3 (by omega) (by decide)
  refine jo_iconst 0 d_X6_init_67 ?_
  refine jo_istoreC 1 d_X6_init_68 rfl (Nat.le_of_ble_eq_true rfl) ?_
  refine jo_iconst 0 d_X6_init_69 ?_
  refine jo_istoreC 2 d_X6_init_70 rfl (Nat.le_of_ble_eq_true rfl) ?_
  refine jo_iconst 0 d_X6_init_71 ?_
  refine jo_istoreC 3 d_X6_init_72 rfl (Nat.le_of_ble_eq_true rfl) ?_
  refine jo_tail hf ?_
  exact jO.sub (t_X6_init_L73 s2 g2 (by simp [jsr, jzr]) 400 400 0 0 0 _) (And.intro rfl (And.intro rfl (And.intro rfl (And.intro rfl True.intro))))
theorem cw_X6 (ρ : JRho) (w0 : jwf 10 ρ) : jwf 12 (cR_X6 ρ) := by
  unfold cR_X6
  have w1 := jwf_new w0
  have w2 := jwf_set (a := 9) (k := 0) (b := 10) w1 (by omega) (by decide)
  have w3 := jwf_new w2
  have w4 := jwf_set (a := 9) (k := 10) (b := 11) w3 (by omega) (by decide)
  exact w4
def cMt (M : JMem) : JMem := match f_X6_init_L73 400 400 0 0 0 (cM_X6 M) with
  | some q => q.2
  | none => M
theorem c_X6q {g : JG} (ρ : JRho) (M : JMem) (w0 : jwf 10 ρ) (hf : (f_X6_init_L73 400 400 0 0 0 (cM_X6 M)).isSome = true) : jMetC g D_X6_init yX6_init [.ref 9] 10 12 ρ (cR_X6 ρ) M (cMt M) := by
  unfold cMt
  cases hq : f_X6_init_L73 400 400 0 0 0 (cM_X6 M) with
  | none => rw [hq] at hf; cases hf
  | some q => exact c_X6 (r := q.1) ρ M w0 hq
theorem lm_X11_1 : Cond.methodLink RX11 1 Lib.objectInit ∈ jTW := jTW_mem (k := 160) (by decide +kernel) rfl
theorem lc_X11_20 : Cond.classLink RX11 20 RX7 ∈ jTW := jTW_mem (k := 163) (by decide +kernel) rfl
theorem it_X7 : Cond.instantiable RX7 3 ∈ jTW := jTW_mem (k := 164) (by decide +kernel) rfl
theorem iz_X7 : Cond.initialized RX7 ∈ jTW := jTW_mem (k := 136) (by decide +kernel) rfl
theorem lm_X11_22 : Cond.methodLink RX11 22 yX7_init ∈ jTW := jTW_mem (k := 165) (by decide +kernel) rfl
theorem lc_X11_27 : Cond.classLink RX11 27 RX6 ∈ jTW := jTW_mem (k := 185) (by decide +kernel) rfl
theorem it_X6 : Cond.instantiable RX6 11 ∈ jTW := jTW_mem (k := 186) (by decide +kernel) rfl
theorem iz_X6 : Cond.initialized RX6 ∈ jTW := jTW_mem (k := 137) (by decide +kernel) rfl
theorem lm_X11_29 : Cond.methodLink RX11 29 yX6_init ∈ jTW := jTW_mem (k := 187) (by decide +kernel) rfl
theorem lc_X11_34 : Cond.classLink RX11 34 RX2 ∈ jTW := jTW_mem (k := 289) (by decide +kernel) rfl
theorem it_X2 : Cond.instantiable RX2 4 ∈ jTW := jTW_mem (k := 290) (by decide +kernel) rfl
theorem iz_X2 : Cond.initialized RX2 ∈ jTW := jTW_mem (k := 142) (by decide +kernel) rfl
theorem lm_X11_36 : Cond.methodLink RX11 36 yX2_init ∈ jTW := jTW_mem (k := 291) (by decide +kernel) rfl
theorem lc_X11_43 : Cond.classLink RX11 43 RX10 ∈ jTW := jTW_mem (k := 469) (by decide +kernel) rfl
theorem it_X10 : Cond.instantiable RX10 4 ∈ jTW := jTW_mem (k := 470) (by decide +kernel) rfl
theorem iz_X10 : Cond.initialized RX10 ∈ jTW := jTW_mem (k := 145) (by decide +kernel) rfl
theorem lm_X11_45 : Cond.methodLink RX11 45 yX10_init ∈ jTW := jTW_mem (k := 471) (by decide +kernel) rfl
theorem lc_X11_50 : Cond.classLink RX11 50 RX4 ∈ jTW := jTW_mem (k := 528) (by decide +kernel) rfl
theorem lm_X11_52 : Cond.methodLinkNest RX11 52 yX4_init "CageLeave" ∈ jNW := by decide +kernel
theorem lc_X11_57 : Cond.classLink RX11 57 RX1 ∈ jTW := jTW_mem (k := 530) (by decide +kernel) rfl
theorem lm_X11_59 : Cond.methodLinkNest RX11 59 yX1_init "CageLeave" ∈ jNW := by decide +kernel
theorem lc_X11_64 : Cond.classLink RX11 64 RX9 ∈ jTW := jTW_mem (k := 532) (by decide +kernel) rfl
theorem lm_X11_66 : Cond.methodLinkNest RX11 66 yX9_init "CageLeave" ∈ jNW := by decide +kernel
theorem lc_X11_89 : Cond.classLink RX11 89 RX8 ∈ jTW := jTW_mem (k := 537) (by decide +kernel) rfl
theorem it_X8 : Cond.instantiable RX8 2 ∈ jTW := jTW_mem (k := 538) (by decide +kernel) rfl
theorem iz_X8 : Cond.initialized RX8 ∈ jTW := jTW_mem (k := 147) (by decide +kernel) rfl
theorem lm_X11_91 : Cond.methodLinkNest RX11 91 yX8_init "CageLeave" ∈ jNW := by decide +kernel
theorem lc_X11_96 : Cond.classLink RX11 96 RX5 ∈ jTW := jTW_mem (k := 551) (by decide +kernel) rfl
theorem it_X5 : Cond.instantiable RX5 2 ∈ jTW := jTW_mem (k := 552) (by decide +kernel) rfl
theorem iz_X5 : Cond.initialized RX5 ∈ jTW := jTW_mem (k := 148) (by decide +kernel) rfl
theorem lm_X11_98 : Cond.methodLinkNest RX11 98 yX5_init "CageLeave" ∈ jNW := by decide +kernel
theorem lc_X11_103 : Cond.classLink RX11 103 RX3 ∈ jTW := jTW_mem (k := 564) (by decide +kernel) rfl
theorem it_X3 : Cond.instantiable RX3 4 ∈ jTW := jTW_mem (k := 565) (by decide +kernel) rfl
theorem iz_X3 : Cond.initialized RX3 ∈ jTW := jTW_mem (k := 149) (by decide +kernel) rfl
theorem lm_X11_105 : Cond.methodLinkNest RX11 105 yX3_init "CageLeave" ∈ jNW := by decide +kernel
theorem lc_X11_110 : Cond.classLink RX11 110 RX0 ∈ jTW := jTW_mem (k := 583) (by decide +kernel) rfl
theorem it_X0 : Cond.instantiable RX0 5 ∈ jTW := jTW_mem (k := 584) (by decide +kernel) rfl
theorem iz_X0 : Cond.initialized RX0 ∈ jTW := jTW_mem (k := 150) (by decide +kernel) rfl
theorem lm_X11_112 : Cond.methodLinkNest RX11 112 yX0_init "CageLeave" ∈ jNW := by decide +kernel
def D_X11_init : JD := (RX11, cX11_init, 2, none, "<init>", { frames := 6, cells := 166, slots := 4308, locals := 156 })
theorem okc_X11 : jOkC D_X11_init yX11_init 0 := ⟨⟨jTW_mem (k := 159) (by decide +kernel) rfl, rfl⟩, jTW_mem (k := 135) (by decide +kernel) rfl, ⟨by decide +kernel, by decide +kernel⟩, by decide +kernel, rfl, jTW_mem (k := 158) (by decide +kernel) rfl⟩
theorem d_X11_init_0 : decode (D_X11_init).2.1 0 = .ok (.aload_n 0, 1) := by decide +kernel
theorem d_X11_init_1 : decode (D_X11_init).2.1 1 = .ok (.invokespecial 1, 3) := by decide +kernel
theorem d_X11_init_4 : decode (D_X11_init).2.1 4 = .ok (.aload_n 0, 1) := by decide +kernel
theorem d_X11_init_5 : decode (D_X11_init).2.1 5 = .ok (.iconst 0, 1) := by decide +kernel
theorem d_X11_init_6 : decode (D_X11_init).2.1 6 = .ok (.putfield 9, 3) := by decide +kernel
theorem d_X11_init_9 : decode (D_X11_init).2.1 9 = .ok (.aload_n 0, 1) := by decide +kernel
theorem d_X11_init_10 : decode (D_X11_init).2.1 10 = .ok (.lconst 0, 1) := by decide +kernel
theorem d_X11_init_11 : decode (D_X11_init).2.1 11 = .ok (.putfield 13, 3) := by decide +kernel
theorem d_X11_init_14 : decode (D_X11_init).2.1 14 = .ok (.aload_n 0, 1) := by decide +kernel
theorem d_X11_init_15 : decode (D_X11_init).2.1 15 = .ok (.lconst 1, 1) := by decide +kernel
theorem d_X11_init_16 : decode (D_X11_init).2.1 16 = .ok (.putfield 17, 3) := by decide +kernel
theorem d_X11_init_19 : decode (D_X11_init).2.1 19 = .ok (.aload_n 0, 1) := by decide +kernel
theorem d_X11_init_20 : decode (D_X11_init).2.1 20 = .ok (.new 20, 3) := by decide +kernel
theorem d_X11_init_23 : decode (D_X11_init).2.1 23 = .ok (.dup, 1) := by decide +kernel
theorem d_X11_init_24 : decode (D_X11_init).2.1 24 = .ok (.invokespecial 22, 3) := by decide +kernel
theorem d_X11_init_27 : decode (D_X11_init).2.1 27 = .ok (.putfield 23, 3) := by decide +kernel
theorem d_X11_init_30 : decode (D_X11_init).2.1 30 = .ok (.aload_n 0, 1) := by decide +kernel
theorem d_X11_init_31 : decode (D_X11_init).2.1 31 = .ok (.new 27, 3) := by decide +kernel
theorem d_X11_init_34 : decode (D_X11_init).2.1 34 = .ok (.dup, 1) := by decide +kernel
theorem d_X11_init_35 : decode (D_X11_init).2.1 35 = .ok (.invokespecial 29, 3) := by decide +kernel
theorem d_X11_init_38 : decode (D_X11_init).2.1 38 = .ok (.putfield 30, 3) := by decide +kernel
theorem d_X11_init_41 : decode (D_X11_init).2.1 41 = .ok (.aload_n 0, 1) := by decide +kernel
theorem d_X11_init_42 : decode (D_X11_init).2.1 42 = .ok (.new 34, 3) := by decide +kernel
theorem d_X11_init_45 : decode (D_X11_init).2.1 45 = .ok (.dup, 1) := by decide +kernel
theorem d_X11_init_46 : decode (D_X11_init).2.1 46 = .ok (.aload_n 0, 1) := by decide +kernel
theorem d_X11_init_47 : decode (D_X11_init).2.1 47 = .ok (.getfield 30, 3) := by decide +kernel
theorem d_X11_init_50 : decode (D_X11_init).2.1 50 = .ok (.invokespecial 36, 3) := by decide +kernel
theorem d_X11_init_53 : decode (D_X11_init).2.1 53 = .ok (.putfield 39, 3) := by decide +kernel
theorem d_X11_init_56 : decode (D_X11_init).2.1 56 = .ok (.aload_n 0, 1) := by decide +kernel
theorem d_X11_init_57 : decode (D_X11_init).2.1 57 = .ok (.new 43, 3) := by decide +kernel
theorem d_X11_init_60 : decode (D_X11_init).2.1 60 = .ok (.dup, 1) := by decide +kernel
theorem d_X11_init_61 : decode (D_X11_init).2.1 61 = .ok (.aload_n 0, 1) := by decide +kernel
theorem d_X11_init_62 : decode (D_X11_init).2.1 62 = .ok (.getfield 30, 3) := by decide +kernel
theorem d_X11_init_65 : decode (D_X11_init).2.1 65 = .ok (.invokespecial 45, 3) := by decide +kernel
theorem d_X11_init_68 : decode (D_X11_init).2.1 68 = .ok (.putfield 46, 3) := by decide +kernel
theorem d_X11_init_71 : decode (D_X11_init).2.1 71 = .ok (.aload_n 0, 1) := by decide +kernel
theorem d_X11_init_72 : decode (D_X11_init).2.1 72 = .ok (.new 50, 3) := by decide +kernel
theorem d_X11_init_75 : decode (D_X11_init).2.1 75 = .ok (.dup, 1) := by decide +kernel
theorem d_X11_init_76 : decode (D_X11_init).2.1 76 = .ok (.invokespecial 52, 3) := by decide +kernel
theorem d_X11_init_79 : decode (D_X11_init).2.1 79 = .ok (.putfield 53, 3) := by decide +kernel
theorem d_X11_init_82 : decode (D_X11_init).2.1 82 = .ok (.aload_n 0, 1) := by decide +kernel
theorem d_X11_init_83 : decode (D_X11_init).2.1 83 = .ok (.new 57, 3) := by decide +kernel
theorem d_X11_init_86 : decode (D_X11_init).2.1 86 = .ok (.dup, 1) := by decide +kernel
theorem d_X11_init_87 : decode (D_X11_init).2.1 87 = .ok (.invokespecial 59, 3) := by decide +kernel
theorem d_X11_init_90 : decode (D_X11_init).2.1 90 = .ok (.putfield 60, 3) := by decide +kernel
theorem d_X11_init_93 : decode (D_X11_init).2.1 93 = .ok (.aload_n 0, 1) := by decide +kernel
theorem d_X11_init_94 : decode (D_X11_init).2.1 94 = .ok (.new 64, 3) := by decide +kernel
theorem d_X11_init_97 : decode (D_X11_init).2.1 97 = .ok (.dup, 1) := by decide +kernel
theorem d_X11_init_98 : decode (D_X11_init).2.1 98 = .ok (.invokespecial 66, 3) := by decide +kernel
theorem d_X11_init_101 : decode (D_X11_init).2.1 101 = .ok (.putfield 67, 3) := by decide +kernel
theorem d_X11_init_104 : decode (D_X11_init).2.1 104 = .ok (.aload_n 0, 1) := by decide +kernel
theorem d_X11_init_105 : decode (D_X11_init).2.1 105 = .ok (.iconst 3, 1) := by decide +kernel
theorem d_X11_init_106 : decode (D_X11_init).2.1 106 = .ok (.anewarray 50, 3) := by decide +kernel
theorem d_X11_init_109 : decode (D_X11_init).2.1 109 = .ok (.putfield 71, 3) := by decide +kernel
theorem d_X11_init_112 : decode (D_X11_init).2.1 112 = .ok (.aload_n 0, 1) := by decide +kernel
theorem d_X11_init_113 : decode (D_X11_init).2.1 113 = .ok (.iconst 3, 1) := by decide +kernel
theorem d_X11_init_114 : decode (D_X11_init).2.1 114 = .ok (.anewarray 57, 3) := by decide +kernel
theorem d_X11_init_117 : decode (D_X11_init).2.1 117 = .ok (.putfield 75, 3) := by decide +kernel
theorem d_X11_init_120 : decode (D_X11_init).2.1 120 = .ok (.aload_n 0, 1) := by decide +kernel
theorem d_X11_init_121 : decode (D_X11_init).2.1 121 = .ok (.iconst 3, 1) := by decide +kernel
theorem d_X11_init_122 : decode (D_X11_init).2.1 122 = .ok (.anewarray 64, 3) := by decide +kernel
theorem d_X11_init_125 : decode (D_X11_init).2.1 125 = .ok (.putfield 79, 3) := by decide +kernel
theorem d_X11_init_128 : decode (D_X11_init).2.1 128 = .ok (.aload_n 0, 1) := by decide +kernel
theorem d_X11_init_129 : decode (D_X11_init).2.1 129 = .ok (.iconst 0, 1) := by decide +kernel
theorem d_X11_init_130 : decode (D_X11_init).2.1 130 = .ok (.putfield 83, 3) := by decide +kernel
theorem d_X11_init_133 : decode (D_X11_init).2.1 133 = .ok (.aload_n 0, 1) := by decide +kernel
theorem d_X11_init_134 : decode (D_X11_init).2.1 134 = .ok (.new 57, 3) := by decide +kernel
theorem d_X11_init_137 : decode (D_X11_init).2.1 137 = .ok (.dup, 1) := by decide +kernel
theorem d_X11_init_138 : decode (D_X11_init).2.1 138 = .ok (.invokespecial 59, 3) := by decide +kernel
theorem d_X11_init_141 : decode (D_X11_init).2.1 141 = .ok (.putfield 86, 3) := by decide +kernel
theorem d_X11_init_144 : decode (D_X11_init).2.1 144 = .ok (.aload_n 0, 1) := by decide +kernel
theorem d_X11_init_145 : decode (D_X11_init).2.1 145 = .ok (.new 89, 3) := by decide +kernel
theorem d_X11_init_148 : decode (D_X11_init).2.1 148 = .ok (.dup, 1) := by decide +kernel
theorem d_X11_init_149 : decode (D_X11_init).2.1 149 = .ok (.invokespecial 91, 3) := by decide +kernel
theorem d_X11_init_152 : decode (D_X11_init).2.1 152 = .ok (.putfield 92, 3) := by decide +kernel
theorem d_X11_init_155 : decode (D_X11_init).2.1 155 = .ok (.aload_n 0, 1) := by decide +kernel
theorem d_X11_init_156 : decode (D_X11_init).2.1 156 = .ok (.new 96, 3) := by decide +kernel
theorem d_X11_init_159 : decode (D_X11_init).2.1 159 = .ok (.dup, 1) := by decide +kernel
theorem d_X11_init_160 : decode (D_X11_init).2.1 160 = .ok (.invokespecial 98, 3) := by decide +kernel
theorem d_X11_init_163 : decode (D_X11_init).2.1 163 = .ok (.putfield 99, 3) := by decide +kernel
theorem d_X11_init_166 : decode (D_X11_init).2.1 166 = .ok (.aload_n 0, 1) := by decide +kernel
theorem d_X11_init_167 : decode (D_X11_init).2.1 167 = .ok (.new 103, 3) := by decide +kernel
theorem d_X11_init_170 : decode (D_X11_init).2.1 170 = .ok (.dup, 1) := by decide +kernel
theorem d_X11_init_171 : decode (D_X11_init).2.1 171 = .ok (.invokespecial 105, 3) := by decide +kernel
theorem d_X11_init_174 : decode (D_X11_init).2.1 174 = .ok (.putfield 106, 3) := by decide +kernel
theorem d_X11_init_177 : decode (D_X11_init).2.1 177 = .ok (.aload_n 0, 1) := by decide +kernel
theorem d_X11_init_178 : decode (D_X11_init).2.1 178 = .ok (.new 110, 3) := by decide +kernel
theorem d_X11_init_181 : decode (D_X11_init).2.1 181 = .ok (.dup, 1) := by decide +kernel
theorem d_X11_init_182 : decode (D_X11_init).2.1 182 = .ok (.invokespecial 112, 3) := by decide +kernel
theorem d_X11_init_185 : decode (D_X11_init).2.1 185 = .ok (.putfield 113, 3) := by decide +kernel
theorem d_X11_init_188 : decode (D_X11_init).2.1 188 = .ok (.aload_n 0, 1) := by decide +kernel
theorem d_X11_init_189 : decode (D_X11_init).2.1 189 = .ok (.new 110, 3) := by decide +kernel
theorem d_X11_init_192 : decode (D_X11_init).2.1 192 = .ok (.dup, 1) := by decide +kernel
theorem d_X11_init_193 : decode (D_X11_init).2.1 193 = .ok (.invokespecial 112, 3) := by decide +kernel
theorem d_X11_init_196 : decode (D_X11_init).2.1 196 = .ok (.putfield 117, 3) := by decide +kernel
theorem d_X11_init_199 : decode (D_X11_init).2.1 199 = .ok (.iconst 0, 1) := by decide +kernel
theorem d_X11_init_200 : decode (D_X11_init).2.1 200 = .ok (.istore_n 1, 1) := by decide +kernel
theorem d_X11_init_201 : decode (D_X11_init).2.1 201 = .ok (.iload_n 1, 1) := by decide +kernel
theorem d_X11_init_202 : decode (D_X11_init).2.1 202 = .ok (.iconst 3, 1) := by decide +kernel
theorem d_X11_init_203 : decode (D_X11_init).2.1 203 = .ok (.if_icmp .ge 48, 3) := by decide +kernel
theorem d_X11_init_206 : decode (D_X11_init).2.1 206 = .ok (.aload_n 0, 1) := by decide +kernel
theorem d_X11_init_207 : decode (D_X11_init).2.1 207 = .ok (.getfield 71, 3) := by decide +kernel
theorem d_X11_init_210 : decode (D_X11_init).2.1 210 = .ok (.iload_n 1, 1) := by decide +kernel
theorem d_X11_init_211 : decode (D_X11_init).2.1 211 = .ok (.new 50, 3) := by decide +kernel
theorem d_X11_init_214 : decode (D_X11_init).2.1 214 = .ok (.dup, 1) := by decide +kernel
theorem d_X11_init_215 : decode (D_X11_init).2.1 215 = .ok (.invokespecial 52, 3) := by decide +kernel
theorem d_X11_init_218 : decode (D_X11_init).2.1 218 = .ok (.aastore, 1) := by decide +kernel
theorem d_X11_init_219 : decode (D_X11_init).2.1 219 = .ok (.aload_n 0, 1) := by decide +kernel
theorem d_X11_init_220 : decode (D_X11_init).2.1 220 = .ok (.getfield 75, 3) := by decide +kernel
theorem d_X11_init_223 : decode (D_X11_init).2.1 223 = .ok (.iload_n 1, 1) := by decide +kernel
theorem d_X11_init_224 : decode (D_X11_init).2.1 224 = .ok (.new 57, 3) := by decide +kernel
theorem d_X11_init_227 : decode (D_X11_init).2.1 227 = .ok (.dup, 1) := by decide +kernel
theorem d_X11_init_228 : decode (D_X11_init).2.1 228 = .ok (.invokespecial 59, 3) := by decide +kernel
theorem d_X11_init_231 : decode (D_X11_init).2.1 231 = .ok (.aastore, 1) := by decide +kernel
theorem d_X11_init_232 : decode (D_X11_init).2.1 232 = .ok (.aload_n 0, 1) := by decide +kernel
theorem d_X11_init_233 : decode (D_X11_init).2.1 233 = .ok (.getfield 79, 3) := by decide +kernel
theorem d_X11_init_236 : decode (D_X11_init).2.1 236 = .ok (.iload_n 1, 1) := by decide +kernel
theorem d_X11_init_237 : decode (D_X11_init).2.1 237 = .ok (.new 64, 3) := by decide +kernel
theorem d_X11_init_240 : decode (D_X11_init).2.1 240 = .ok (.dup, 1) := by decide +kernel
theorem d_X11_init_241 : decode (D_X11_init).2.1 241 = .ok (.invokespecial 66, 3) := by decide +kernel
theorem d_X11_init_244 : decode (D_X11_init).2.1 244 = .ok (.aastore, 1) := by decide +kernel
theorem d_X11_init_245 : decode (D_X11_init).2.1 245 = .ok (.iinc 1 1, 3) := by decide +kernel
theorem d_X11_init_248 : decode (D_X11_init).2.1 248 = .ok (.goto (-47), 3) := by decide +kernel
theorem d_X11_init_251 : decode (D_X11_init).2.1 251 = .ok (.return_, 1) := by decide +kernel
def cM_X11 (M : JMem) : JMem := (cM_X9 162 (jz (cM_X1 154 (jz (cM_X4 142 (jz (cM_X9 137 (jz (cM_X1 129 (jz (cM_X4 117 (jz (cM_X9 112 (jz (cM_X1 104 (jz (cM_X4 92 (jz (cM_X0 89 (jz (cM_X0 86 (jz (cM_X3 (jz (cM_X5 (jz (cM_X8 (jz (cM_X1 68 (jz (jup (jz (jz (jz (cM_X9 60 (jz (cM_X1 52 (jz (cM_X4 40 (jz (cM_X10 (jz (cM_X2 (jz (cMt (jz (cM_X7 (jz (jup (jup (jup M 0 0 0) 0 1 0) 0 2 1) 1)) 9)) 12)) 33)) 40)) 52)) 60)) 65) 66) 67) 0 13 0) 68)) 76)) 79)) 82)) 86)) 89)) 92)) 104)) 112)) 117)) 129)) 137)) 142)) 154)) 162))
def cR_X11 (ρ : JRho) : JRho := (jsr (cR_X9 162 (jzr (jsr (cR_X1 154 (jzr (jsr (cR_X4 142 (jzr (jsr (cR_X9 137 (jzr (jsr (cR_X1 129 (jzr (jsr (cR_X4 117 (jzr (jsr (cR_X9 112 (jzr (jsr (cR_X1 104 (jzr (jsr (cR_X4 92 (jzr (jsr (cR_X0 89 (jzr (jsr (cR_X0 86 (jzr (jsr (cR_X3 (jzr (jsr (cR_X5 (jzr (jsr (cR_X8 (jzr (jsr (cR_X1 68 (jzr (jsr (jzr (jsr (jzr (jsr (jzr (jsr (cR_X9 60 (jzr (jsr (cR_X1 52 (jzr (jsr (cR_X4 40 (jzr (jsr (cR_X10 (jzr (jsr (cR_X2 (jzr (jsr (cR_X6 (jzr (jsr (cR_X7 (jzr ρ 1)) 0 3 1) 9)) 0 4 9) 12)) 0 5 12) 33)) 0 6 33) 40)) 0 7 40) 52)) 0 8 52) 60)) 0 9 60) 65) 0 10 65) 66) 0 11 66) 67) 0 12 67) 68)) 0 14 68) 76)) 0 15 76) 79)) 0 16 79) 82)) 0 17 82) 86)) 0 18 86) 89)) 0 19 89) 92)) 65 (jw 0).toNat 92) 104)) 66 (jw 0).toNat 104) 112)) 67 (jw 0).toNat 112) 117)) 65 (jw 1).toNat 117) 129)) 66 (jw 1).toNat 129) 137)) 67 (jw 1).toNat 137) 142)) 65 (jw 2).toNat 142) 154)) 66 (jw 2).toNat 154) 162)) 67 (jw 2).toNat 162)
set_option maxRecDepth 8000 in
theorem c_X11 {g : JG} (ρ : JRho) (M : JMem) (w0 : jwf 1 ρ) (hft : (f_X6_init_L73 400 400 0 0 0 (cM_X6 (jz (cM_X7 (jz (jup (jup (jup M 0 0 0) 0 1 0) 0 2 1) 1)) 9))).isSome = true) : jMetC g D_X11_init yX11_init [.ref 0] 1 167 ρ (cR_X11 ρ) M (cM_X11 M) := by
  have hj : jNN = 186 := rfl
  refine jMetC.of (lo0 := [some (.ref 0), none]) (by decide) rfl rfl (fun ad => (Nat.le_of_ble_eq_true rfl)) (And.intro rfl True.intro) (fun ad0 s0 => ?_)
  have g0 : jag 1 ad0 ad0 := jag.rf
  unfold cM_X11 cR_X11
  refine jo_aload 0 d_X11_init_0 rfl rfl ?_
  refine jo_obj lm_X11_1 (Nat.le_of_ble_eq_true rfl) (Nat.le_of_ble_eq_true rfl) d_X11_init_1 ?_
  refine jo_aload 0 d_X11_init_4 rfl rfl ?_
  refine jo_iconst 0 d_X11_init_5 ?_
  refine jo_putIC (k := 0) cl_11 (Nat.le_of_ble_eq_true rfl) lk_X11_9 rfl rfl (And.intro (by omega) (by decide +kernel : jG 0 = (0, 11))) d_X11_init_6 ?_
  refine jo_aload 0 d_X11_init_9 rfl rfl ?_
  refine jo_lconst0 d_X11_init_10 ?_
  refine jo_putLC (k := 1) cl_11 (Nat.le_of_ble_eq_true rfl) lk_X11_13 rfl rfl (And.intro (by omega) (by decide +kernel : jG 0 = (0, 11))) d_X11_init_11 ?_
  refine jo_aload 0 d_X11_init_14 rfl rfl ?_
  refine jo_lconst1 d_X11_init_15 ?_
  refine jo_putLC (k := 2) cl_11 (Nat.le_of_ble_eq_true rfl) lk_X11_17 rfl rfl (And.intro (by omega) (by decide +kernel : jG 0 = (0, 11))) d_X11_init_16 ?_
  refine jo_aload 0 d_X11_init_19 rfl rfl ?_
  refine jo_new (a0 := 0) cl_7 fd_7 (by decide +kernel : jG 1 = (0, 7)) (by omega) (by omega) w0 lc_X11_20 it_X7 iz_X7 (And.intro (jvo_lt (by omega)) True.intro) (And.intro (jvo_lt (by omega)) True.intro) (And.intro (Nat.le_of_ble_eq_true rfl) (Nat.le_of_ble_eq_true rfl)) d_X11_init_20 (fun ad1 h1 => ?_)
  have g1 := g0.tr h1 (by omega)
  have s1 := s0.ag h1
  have w1 := jwf_new w0
  refine jo_dup d_X11_init_23 rfl ?_
  refine jo_callC (st := [.ref 1, .ref 0]) s1 (c_X7 (jzr ρ 1) (jz (jup (jup (jup M 0 0 0) 0 1 0) 0 2 1) 1) w1) okc_X7 (And.intro (Nat.le_of_ble_eq_true rfl) (Nat.le_of_ble_eq_true rfl)) lm_X11_22 rfl (And.intro (Nat.le_of_ble_eq_true rfl) (Nat.le_of_ble_eq_true rfl)) (And.intro (jvo_lt (by omega)) True.intro) (And.intro (jvo_lt (by omega)) (And.intro (jvo_lt (by omega)) True.intro)) rfl (Nat.le_of_ble_eq_true rfl) d_X11_init_24 (fun ad2 h2 => ?_)
  have g2 := g1.tr h2 (by omega)
  have s2 := s1.ag h2
  have w2 := cw_X7 (jzr ρ 1) w1
  refine jo_putR (k := 3) cl_11 (Nat.le_of_ble_eq_true rfl) lk_X11_23 rfl rfl rfl rfl (And.intro (by omega) (by decide +kernel : jG 0 = (0, 11))) d_X11_init_27 ?_
  have w3 := jwf_set (a := 0) (k := 3) (b := 1) w2 (by omega) (by decide)
  refine jo_aload 0 d_X11_init_30 rfl rfl ?_
  refine jo_new (a0 := 0) cl_6 fd_6 (by decide +kernel : jG 9 = (0, 6)) (by omega) (by omega) w3 lc_X11_27 it_X6 iz_X6 (And.intro (jvo_lt (by omega)) True.intro) (And.intro (jvo_lt (by omega)) True.intro) (And.intro (Nat.le_of_ble_eq_true rfl) (Nat.le_of_ble_eq_true rfl)) d_X11_init_31 (fun ad3 h3 => ?_)
  have g3 := g2.tr h3 (by omega)
  have s3 := s2.ag h3
  have w4 := jwf_new w3
  refine jo_dup d_X11_init_34 rfl ?_
  refine jo_callC (st := [.ref 9, .ref 0]) s3 (c_X6q (jzr (jsr (cR_X7 (jzr ρ 1)) 0 3 1) 9) (jz (cM_X7 (jz (jup (jup (jup M 0 0 0) 0 1 0) 0 2 1) 1)) 9) w4 (hft)) okc_X6 (And.intro (Nat.le_of_ble_eq_true rfl) (Nat.le_of_ble_eq_true rfl)) lm_X11_29 rfl (And.intro (Nat.le_of_ble_eq_true rfl) (Nat.le_of_ble_eq_true rfl)) (And.intro (jvo_lt (by omega)) True.intro) (And.intro (jvo_lt (by omega)) (And.intro (jvo_lt (by omega)) True.intro)) rfl (Nat.le_of_ble_eq_true rfl) d_X11_init_35 (fun ad4 h4 => ?_)
  have g4 := g3.tr h4 (by omega)
  have s4 := s3.ag h4
  have w5 := cw_X6 (jzr (jsr (cR_X7 (jzr ρ 1)) 0 3 1) 9) w4
  refine jo_putR (k := 4) cl_11 (Nat.le_of_ble_eq_true rfl) lk_X11_30 rfl rfl rfl rfl (And.intro (by omega) (by decide +kernel : jG 0 = (0, 11))) d_X11_init_38 ?_
  have w6 := jwf_set (a := 0) (k := 4) (b := 9) w5 (by omega) (by decide)
  refine jo_aload 0 d_X11_init_41 rfl rfl ?_
  refine jo_new (a0 := 0) cl_2 fd_2 (by decide +kernel : jG 12 = (0, 2)) (by omega) (by omega) w6 lc_X11_34 it_X2 iz_X2 (And.intro (jvo_lt (by omega)) True.intro) (And.intro (jvo_lt (by omega)) True.intro) (And.intro (Nat.le_of_ble_eq_true rfl) (Nat.le_of_ble_eq_true rfl)) d_X11_init_42 (fun ad5 h5 => ?_)
  have g5 := g4.tr h5 (by omega)
  have s5 := s4.ag h5
  have w7 := jwf_new w6
  refine jo_dup d_X11_init_45 rfl ?_
  refine jo_aload 0 d_X11_init_46 rfl rfl ?_
  refine jo_getR (k := 4) cl_11 (Nat.le_of_ble_eq_true rfl) lk_X11_30 rfl (And.intro (by omega) (by decide +kernel : jG 0 = (0, 11))) (b := 9) (by simp [jsr, jzr, cR_X6, cR_X7]) d_X11_init_47 ?_
  refine jo_callC (st := [.ref 12, .ref 0]) s5 (c_X2 (jzr (jsr (cR_X6 (jzr (jsr (cR_X7 (jzr ρ 1)) 0 3 1) 9)) 0 4 9) 12) (jz (cMt (jz (cM_X7 (jz (jup (jup (jup M 0 0 0) 0 1 0) 0 2 1) 1)) 9)) 12) w7) okc_X2 (And.intro (Nat.le_of_ble_eq_true rfl) (Nat.le_of_ble_eq_true rfl)) lm_X11_36 rfl (And.intro (Nat.le_of_ble_eq_true rfl) (Nat.le_of_ble_eq_true rfl)) (And.intro (jvo_lt (by omega)) True.intro) (And.intro (jvo_lt (by omega)) (And.intro (jvo_lt (by omega)) True.intro)) rfl (Nat.le_of_ble_eq_true rfl) d_X11_init_50 (fun ad6 h6 => ?_)
  have g6 := g5.tr h6 (by omega)
  have s6 := s5.ag h6
  have w8 := cw_X2 (jzr (jsr (cR_X6 (jzr (jsr (cR_X7 (jzr ρ 1)) 0 3 1) 9)) 0 4 9) 12) w7
  refine jo_putR (k := 5) cl_11 (Nat.le_of_ble_eq_true rfl) lk_X11_39 rfl rfl rfl rfl (And.intro (by omega) (by decide +kernel : jG 0 = (0, 11))) d_X11_init_53 ?_
  have w9 := jwf_set (a := 0) (k := 5) (b := 12) w8 (by omega) (by decide)
  refine jo_aload 0 d_X11_init_56 rfl rfl ?_
  refine jo_new (a0 := 0) cl_10 fd_10 (by decide +kernel : jG 33 = (0, 10)) (by omega) (by omega) w9 lc_X11_43 it_X10 iz_X10 (And.intro (jvo_lt (by omega)) True.intro) (And.intro (jvo_lt (by omega)) True.intro) (And.intro (Nat.le_of_ble_eq_true rfl) (Nat.le_of_ble_eq_true rfl)) d_X11_init_57 (fun ad7 h7 => ?_)
  have g7 := g6.tr h7 (by omega)
  have s7 := s6.ag h7
  have w10 := jwf_new w9
  refine jo_dup d_X11_init_60 rfl ?_
  refine jo_aload 0 d_X11_init_61 rfl rfl ?_
  refine jo_getR (k := 4) cl_11 (Nat.le_of_ble_eq_true rfl) lk_X11_30 rfl (And.intro (by omega) (by decide +kernel : jG 0 = (0, 11))) (b := 9) (by simp [jsr, jzr, cR_X1, cR_X2, cR_X4, cR_X6, cR_X7]) d_X11_init_62 ?_
  refine jo_callC (st := [.ref 33, .ref 0]) s7 (c_X10 (jzr (jsr (cR_X2 (jzr (jsr (cR_X6 (jzr (jsr (cR_X7 (jzr ρ 1)) 0 3 1) 9)) 0 4 9) 12)) 0 5 12) 33) (jz (cM_X2 (jz (cMt (jz (cM_X7 (jz (jup (jup (jup M 0 0 0) 0 1 0) 0 2 1) 1)) 9)) 12)) 33) w10) okc_X10 (And.intro (Nat.le_of_ble_eq_true rfl) (Nat.le_of_ble_eq_true rfl)) lm_X11_45 rfl (And.intro (Nat.le_of_ble_eq_true rfl) (Nat.le_of_ble_eq_true rfl)) (And.intro (jvo_lt (by omega)) True.intro) (And.intro (jvo_lt (by omega)) (And.intro (jvo_lt (by omega)) True.intro)) rfl (Nat.le_of_ble_eq_true rfl) d_X11_init_65 (fun ad8 h8 => ?_)
  have g8 := g7.tr h8 (by omega)
  have s8 := s7.ag h8
  have w11 := cw_X10 (jzr (jsr (cR_X2 (jzr (jsr (cR_X6 (jzr (jsr (cR_X7 (jzr ρ 1)) 0 3 1) 9)) 0 4 9) 12)) 0 5 12) 33) w10
  refine jo_putR (k := 6) cl_11 (Nat.le_of_ble_eq_true rfl) lk_X11_46 rfl rfl rfl rfl (And.intro (by omega) (by decide +kernel : jG 0 = (0, 11))) d_X11_init_68 ?_
  have w12 := jwf_set (a := 0) (k := 6) (b := 33) w11 (by omega) (by decide)
  refine jo_aload 0 d_X11_init_71 rfl rfl ?_
  refine jo_new (a0 := 0) cl_4 fd_4 (by decide +kernel : jG 40 = (0, 4)) (by omega) (by omega) w12 lc_X11_50 it_X4 iz_X4 (And.intro (jvo_lt (by omega)) True.intro) (And.intro (jvo_lt (by omega)) True.intro) (And.intro (Nat.le_of_ble_eq_true rfl) (Nat.le_of_ble_eq_true rfl)) d_X11_init_72 (fun ad9 h9 => ?_)
  have g9 := g8.tr h9 (by omega)
  have s9 := s8.ag h9
  have w13 := jwf_new w12
  refine jo_dup d_X11_init_75 rfl ?_
  refine jo_callCN (st := [.ref 40, .ref 0]) s9 (c_X4 40 (And.intro (Nat.le_of_ble_eq_true rfl) (by decide +kernel)) (jzr (jsr (cR_X10 (jzr (jsr (cR_X2 (jzr (jsr (cR_X6 (jzr (jsr (cR_X7 (jzr ρ 1)) 0 3 1) 9)) 0 4 9) 12)) 0 5 12) 33)) 0 6 33) 40) (jz (cM_X10 (jz (cM_X2 (jz (cMt (jz (cM_X7 (jz (jup (jup (jup M 0 0 0) 0 1 0) 0 2 1) 1)) 9)) 12)) 33)) 40) w13) okc_X4 (And.intro (Nat.le_of_ble_eq_true rfl) (Nat.le_of_ble_eq_true rfl)) lm_X11_52 rfl (And.intro (Nat.le_of_ble_eq_true rfl) (Nat.le_of_ble_eq_true rfl)) (And.intro (jvo_lt (by omega)) True.intro) (And.intro (jvo_lt (by omega)) (And.intro (jvo_lt (by omega)) True.intro)) rfl (Nat.le_of_ble_eq_true rfl) d_X11_init_76 (fun ad10 h10 => ?_)
  have g10 := g9.tr h10 (by omega)
  have s10 := s9.ag h10
  have w14 := cw_X4 40 (jzr (jsr (cR_X10 (jzr (jsr (cR_X2 (jzr (jsr (cR_X6 (jzr (jsr (cR_X7 (jzr ρ 1)) 0 3 1) 9)) 0 4 9) 12)) 0 5 12) 33)) 0 6 33) 40) w13
  refine jo_putR (k := 7) cl_11 (Nat.le_of_ble_eq_true rfl) lk_X11_53 rfl rfl rfl rfl (And.intro (by omega) (by decide +kernel : jG 0 = (0, 11))) d_X11_init_79 ?_
  have w15 := jwf_set (a := 0) (k := 7) (b := 40) w14 (by omega) (by decide)
  refine jo_aload 0 d_X11_init_82 rfl rfl ?_
  refine jo_new (a0 := 0) cl_1 fd_1 (by decide +kernel : jG 52 = (0, 1)) (by omega) (by omega) w15 lc_X11_57 it_X1 iz_X1 (And.intro (jvo_lt (by omega)) True.intro) (And.intro (jvo_lt (by omega)) True.intro) (And.intro (Nat.le_of_ble_eq_true rfl) (Nat.le_of_ble_eq_true rfl)) d_X11_init_83 (fun ad11 h11 => ?_)
  have g11 := g10.tr h11 (by omega)
  have s11 := s10.ag h11
  have w16 := jwf_new w15
  refine jo_dup d_X11_init_86 rfl ?_
  refine jo_callCN (st := [.ref 52, .ref 0]) s11 (c_X1 52 (And.intro (Nat.le_of_ble_eq_true rfl) (by decide +kernel)) (jzr (jsr (cR_X4 40 (jzr (jsr (cR_X10 (jzr (jsr (cR_X2 (jzr (jsr (cR_X6 (jzr (jsr (cR_X7 (jzr ρ 1)) 0 3 1) 9)) 0 4 9) 12)) 0 5 12) 33)) 0 6 33) 40)) 0 7 40) 52) (jz (cM_X4 40 (jz (cM_X10 (jz (cM_X2 (jz (cMt (jz (cM_X7 (jz (jup (jup (jup M 0 0 0) 0 1 0) 0 2 1) 1)) 9)) 12)) 33)) 40)) 52) w16) okc_X1 (And.intro (Nat.le_of_ble_eq_true rfl) (Nat.le_of_ble_eq_true rfl)) lm_X11_59 rfl (And.intro (Nat.le_of_ble_eq_true rfl) (Nat.le_of_ble_eq_true rfl)) (And.intro (jvo_lt (by omega)) True.intro) (And.intro (jvo_lt (by omega)) (And.intro (jvo_lt (by omega)) True.intro)) rfl (Nat.le_of_ble_eq_true rfl) d_X11_init_87 (fun ad12 h12 => ?_)
  have g12 := g11.tr h12 (by omega)
  have s12 := s11.ag h12
  have w17 := cw_X1 52 (jzr (jsr (cR_X4 40 (jzr (jsr (cR_X10 (jzr (jsr (cR_X2 (jzr (jsr (cR_X6 (jzr (jsr (cR_X7 (jzr ρ 1)) 0 3 1) 9)) 0 4 9) 12)) 0 5 12) 33)) 0 6 33) 40)) 0 7 40) 52) w16
  refine jo_putR (k := 8) cl_11 (Nat.le_of_ble_eq_true rfl) lk_X11_60 rfl rfl rfl rfl (And.intro (by omega) (by decide +kernel : jG 0 = (0, 11))) d_X11_init_90 ?_
  have w18 := jwf_set (a := 0) (k := 8) (b := 52) w17 (by omega) (by decide)
  refine jo_aload 0 d_X11_init_93 rfl rfl ?_
  refine jo_new (a0 := 0) cl_9 fd_9 (by decide +kernel : jG 60 = (0, 9)) (by omega) (by omega) w18 lc_X11_64 it_X9 iz_X9 (And.intro (jvo_lt (by omega)) True.intro) (And.intro (jvo_lt (by omega)) True.intro) (And.intro (Nat.le_of_ble_eq_true rfl) (Nat.le_of_ble_eq_true rfl)) d_X11_init_94 (fun ad13 h13 => ?_)
  have g13 := g12.tr h13 (by omega)
  have s13 := s12.ag h13
  have w19 := jwf_new w18
  refine jo_dup d_X11_init_97 rfl ?_
  refine jo_callCN (st := [.ref 60, .ref 0]) s13 (c_X9 60 (And.intro (Nat.le_of_ble_eq_true rfl) (by decide +kernel)) (jzr (jsr (cR_X1 52 (jzr (jsr (cR_X4 40 (jzr (jsr (cR_X10 (jzr (jsr (cR_X2 (jzr (jsr (cR_X6 (jzr (jsr (cR_X7 (jzr ρ 1)) 0 3 1) 9)) 0 4 9) 12)) 0 5 12) 33)) 0 6 33) 40)) 0 7 40) 52)) 0 8 52) 60) (jz (cM_X1 52 (jz (cM_X4 40 (jz (cM_X10 (jz (cM_X2 (jz (cMt (jz (cM_X7 (jz (jup (jup (jup M 0 0 0) 0 1 0) 0 2 1) 1)) 9)) 12)) 33)) 40)) 52)) 60) w19) okc_X9 (And.intro (Nat.le_of_ble_eq_true rfl) (Nat.le_of_ble_eq_true rfl)) lm_X11_66 rfl (And.intro (Nat.le_of_ble_eq_true rfl) (Nat.le_of_ble_eq_true rfl)) (And.intro (jvo_lt (by omega)) True.intro) (And.intro (jvo_lt (by omega)) (And.intro (jvo_lt (by omega)) True.intro)) rfl (Nat.le_of_ble_eq_true rfl) d_X11_init_98 (fun ad14 h14 => ?_)
  have g14 := g13.tr h14 (by omega)
  have s14 := s13.ag h14
  have w20 := cw_X9 60 (jzr (jsr (cR_X1 52 (jzr (jsr (cR_X4 40 (jzr (jsr (cR_X10 (jzr (jsr (cR_X2 (jzr (jsr (cR_X6 (jzr (jsr (cR_X7 (jzr ρ 1)) 0 3 1) 9)) 0 4 9) 12)) 0 5 12) 33)) 0 6 33) 40)) 0 7 40) 52)) 0 8 52) 60) w19
  refine jo_putR (k := 9) cl_11 (Nat.le_of_ble_eq_true rfl) lk_X11_67 rfl rfl rfl rfl (And.intro (by omega) (by decide +kernel : jG 0 = (0, 11))) d_X11_init_101 ?_
  have w21 := jwf_set (a := 0) (k := 9) (b := 60) w20 (by omega) (by decide)
  refine jo_aload 0 d_X11_init_104 rfl rfl ?_
  refine jo_iconst 3 d_X11_init_105 ?_
  refine jo_newQ (N := 3) (a0 := 0) (t := 4) rfl (by decide) (by decide +kernel : jG 65 = (5, 3)) (by omega) (by omega) w21 (fun U q => q.1) lc_X11_50 (by decide +kernel) (by decide +kernel) (Nat.le_of_ble_eq_true rfl) (And.intro (jvo_lt (by omega)) True.intro) (And.intro (jvo_lt (by omega)) True.intro) (And.intro (Nat.le_of_ble_eq_true rfl) (Nat.le_of_ble_eq_true rfl)) d_X11_init_106 (fun ad15 h15 => ?_)
  have g15 := g14.tr h15 (by omega)
  have s15 := s14.ag h15
  have w22 := jwf_new w21
  refine jo_putR (k := 10) cl_11 (Nat.le_of_ble_eq_true rfl) lk_X11_71 rfl rfl rfl rfl (And.intro (by omega) (by decide +kernel : jG 0 = (0, 11))) d_X11_init_109 ?_
  have w23 := jwf_set (a := 0) (k := 10) (b := 65) w22 (by omega) (by decide)
  refine jo_aload 0 d_X11_init_112 rfl rfl ?_
  refine jo_iconst 3 d_X11_init_113 ?_
  refine jo_newQ (N := 3) (a0 := 0) (t := 5) rfl (by decide) (by decide +kernel : jG 66 = (6, 3)) (by omega) (by omega) w23 (fun U q => q.2.1) lc_X11_57 (by decide +kernel) (by decide +kernel) (Nat.le_of_ble_eq_true rfl) (And.intro (jvo_lt (by omega)) True.intro) (And.intro (jvo_lt (by omega)) True.intro) (And.intro (Nat.le_of_ble_eq_true rfl) (Nat.le_of_ble_eq_true rfl)) d_X11_init_114 (fun ad16 h16 => ?_)
  have g16 := g15.tr h16 (by omega)
  have s16 := s15.ag h16
  have w24 := jwf_new w23
  refine jo_putR (k := 11) cl_11 (Nat.le_of_ble_eq_true rfl) lk_X11_75 rfl rfl rfl rfl (And.intro (by omega) (by decide +kernel : jG 0 = (0, 11))) d_X11_init_117 ?_
  have w25 := jwf_set (a := 0) (k := 11) (b := 66) w24 (by omega) (by decide)
  refine jo_aload 0 d_X11_init_120 rfl rfl ?_
  refine jo_iconst 3 d_X11_init_121 ?_
  refine jo_newQ (N := 3) (a0 := 0) (t := 6) rfl (by decide) (by decide +kernel : jG 67 = (7, 3)) (by omega) (by omega) w25 (fun U q => q.2.2.1) lc_X11_64 (by decide +kernel) (by decide +kernel) (Nat.le_of_ble_eq_true rfl) (And.intro (jvo_lt (by omega)) True.intro) (And.intro (jvo_lt (by omega)) True.intro) (And.intro (Nat.le_of_ble_eq_true rfl) (Nat.le_of_ble_eq_true rfl)) d_X11_init_122 (fun ad17 h17 => ?_)
  have g17 := g16.tr h17 (by omega)
  have s17 := s16.ag h17
  have w26 := jwf_new w25
  refine jo_putR (k := 12) cl_11 (Nat.le_of_ble_eq_true rfl) lk_X11_79 rfl rfl rfl rfl (And.intro (by omega) (by decide +kernel : jG 0 = (0, 11))) d_X11_init_125 ?_
  have w27 := jwf_set (a := 0) (k := 12) (b := 67) w26 (by omega) (by decide)
  refine jo_aload 0 d_X11_init_128 rfl rfl ?_
  refine jo_iconst 0 d_X11_init_129 ?_
  refine jo_putIC (k := 13) cl_11 (Nat.le_of_ble_eq_true rfl) lk_X11_83 rfl rfl (And.intro (by omega) (by decide +kernel : jG 0 = (0, 11))) d_X11_init_130 ?_
  refine jo_aload 0 d_X11_init_133 rfl rfl ?_
  refine jo_new (a0 := 0) cl_1 fd_1 (by decide +kernel : jG 68 = (0, 1)) (by omega) (by omega) w27 lc_X11_57 it_X1 iz_X1 (And.intro (jvo_lt (by omega)) True.intro) (And.intro (jvo_lt (by omega)) True.intro) (And.intro (Nat.le_of_ble_eq_true rfl) (Nat.le_of_ble_eq_true rfl)) d_X11_init_134 (fun ad18 h18 => ?_)
  have g18 := g17.tr h18 (by omega)
  have s18 := s17.ag h18
  have w28 := jwf_new w27
  refine jo_dup d_X11_init_137 rfl ?_
  refine jo_callCN (st := [.ref 68, .ref 0]) s18 (c_X1 68 (And.intro (Nat.le_of_ble_eq_true rfl) (by decide +kernel)) (jzr (jsr (jzr (jsr (jzr (jsr (jzr (jsr (cR_X9 60 (jzr (jsr (cR_X1 52 (jzr (jsr (cR_X4 40 (jzr (jsr (cR_X10 (jzr (jsr (cR_X2 (jzr (jsr (cR_X6 (jzr (jsr (cR_X7 (jzr ρ 1)) 0 3 1) 9)) 0 4 9) 12)) 0 5 12) 33)) 0 6 33) 40)) 0 7 40) 52)) 0 8 52) 60)) 0 9 60) 65) 0 10 65) 66) 0 11 66) 67) 0 12 67) 68) (jz (jup (jz (jz (jz (cM_X9 60 (jz (cM_X1 52 (jz (cM_X4 40 (jz (cM_X10 (jz (cM_X2 (jz (cMt (jz (cM_X7 (jz (jup (jup (jup M 0 0 0) 0 1 0) 0 2 1) 1)) 9)) 12)) 33)) 40)) 52)) 60)) 65) 66) 67) 0 13 0) 68) w28) okc_X1 (And.intro (Nat.le_of_ble_eq_true rfl) (Nat.le_of_ble_eq_true rfl)) lm_X11_59 rfl (And.intro (Nat.le_of_ble_eq_true rfl) (Nat.le_of_ble_eq_true rfl)) (And.intro (jvo_lt (by omega)) True.intro) (And.intro (jvo_lt (by omega)) (And.intro (jvo_lt (by omega)) True.intro)) rfl (Nat.le_of_ble_eq_true rfl) d_X11_init_138 (fun ad19 h19 => ?_)
  have g19 := g18.tr h19 (by omega)
  have s19 := s18.ag h19
  have w29 := cw_X1 68 (jzr (jsr (jzr (jsr (jzr (jsr (jzr (jsr (cR_X9 60 (jzr (jsr (cR_X1 52 (jzr (jsr (cR_X4 40 (jzr (jsr (cR_X10 (jzr (jsr (cR_X2 (jzr (jsr (cR_X6 (jzr (jsr (cR_X7 (jzr ρ 1)) 0 3 1) 9)) 0 4 9) 12)) 0 5 12) 33)) 0 6 33) 40)) 0 7 40) 52)) 0 8 52) 60)) 0 9 60) 65) 0 10 65) 66) 0 11 66) 67) 0 12 67) 68) w28
  refine jo_putR (k := 14) cl_11 (Nat.le_of_ble_eq_true rfl) lk_X11_86 rfl rfl rfl rfl (And.intro (by omega) (by decide +kernel : jG 0 = (0, 11))) d_X11_init_141 ?_
  have w30 := jwf_set (a := 0) (k := 14) (b := 68) w29 (by omega) (by decide)
  refine jo_aload 0 d_X11_init_144 rfl rfl ?_
  refine jo_new (a0 := 0) cl_8 fd_8 (by decide +kernel : jG 76 = (0, 8)) (by omega) (by omega) w30 lc_X11_89 it_X8 iz_X8 (And.intro (jvo_lt (by omega)) True.intro) (And.intro (jvo_lt (by omega)) True.intro) (And.intro (Nat.le_of_ble_eq_true rfl) (Nat.le_of_ble_eq_true rfl)) d_X11_init_145 (fun ad20 h20 => ?_)
  have g20 := g19.tr h20 (by omega)
  have s20 := s19.ag h20
  have w31 := jwf_new w30
  refine jo_dup d_X11_init_148 rfl ?_
  refine jo_callCN (st := [.ref 76, .ref 0]) s20 (c_X8 (jzr (jsr (cR_X1 68 (jzr (jsr (jzr (jsr (jzr (jsr (jzr (jsr (cR_X9 60 (jzr (jsr (cR_X1 52 (jzr (jsr (cR_X4 40 (jzr (jsr (cR_X10 (jzr (jsr (cR_X2 (jzr (jsr (cR_X6 (jzr (jsr (cR_X7 (jzr ρ 1)) 0 3 1) 9)) 0 4 9) 12)) 0 5 12) 33)) 0 6 33) 40)) 0 7 40) 52)) 0 8 52) 60)) 0 9 60) 65) 0 10 65) 66) 0 11 66) 67) 0 12 67) 68)) 0 14 68) 76) (jz (cM_X1 68 (jz (jup (jz (jz (jz (cM_X9 60 (jz (cM_X1 52 (jz (cM_X4 40 (jz (cM_X10 (jz (cM_X2 (jz (cMt (jz (cM_X7 (jz (jup (jup (jup M 0 0 0) 0 1 0) 0 2 1) 1)) 9)) 12)) 33)) 40)) 52)) 60)) 65) 66) 67) 0 13 0) 68)) 76) w31) okc_X8 (And.intro (Nat.le_of_ble_eq_true rfl) (Nat.le_of_ble_eq_true rfl)) lm_X11_91 rfl (And.intro (Nat.le_of_ble_eq_true rfl) (Nat.le_of_ble_eq_true rfl)) (And.intro (jvo_lt (by omega)) True.intro) (And.intro (jvo_lt (by omega)) (And.intro (jvo_lt (by omega)) True.intro)) rfl (Nat.le_of_ble_eq_true rfl) d_X11_init_149 (fun ad21 h21 => ?_)
  have g21 := g20.tr h21 (by omega)
  have s21 := s20.ag h21
  have w32 := cw_X8 (jzr (jsr (cR_X1 68 (jzr (jsr (jzr (jsr (jzr (jsr (jzr (jsr (cR_X9 60 (jzr (jsr (cR_X1 52 (jzr (jsr (cR_X4 40 (jzr (jsr (cR_X10 (jzr (jsr (cR_X2 (jzr (jsr (cR_X6 (jzr (jsr (cR_X7 (jzr ρ 1)) 0 3 1) 9)) 0 4 9) 12)) 0 5 12) 33)) 0 6 33) 40)) 0 7 40) 52)) 0 8 52) 60)) 0 9 60) 65) 0 10 65) 66) 0 11 66) 67) 0 12 67) 68)) 0 14 68) 76) w31
  refine jo_putR (k := 15) cl_11 (Nat.le_of_ble_eq_true rfl) lk_X11_92 rfl rfl rfl rfl (And.intro (by omega) (by decide +kernel : jG 0 = (0, 11))) d_X11_init_152 ?_
  have w33 := jwf_set (a := 0) (k := 15) (b := 76) w32 (by omega) (by decide)
  refine jo_aload 0 d_X11_init_155 rfl rfl ?_
  refine jo_new (a0 := 0) cl_5 fd_5 (by decide +kernel : jG 79 = (0, 5)) (by omega) (by omega) w33 lc_X11_96 it_X5 iz_X5 (And.intro (jvo_lt (by omega)) True.intro) (And.intro (jvo_lt (by omega)) True.intro) (And.intro (Nat.le_of_ble_eq_true rfl) (Nat.le_of_ble_eq_true rfl)) d_X11_init_156 (fun ad22 h22 => ?_)
  have g22 := g21.tr h22 (by omega)
  have s22 := s21.ag h22
  have w34 := jwf_new w33
  refine jo_dup d_X11_init_159 rfl ?_
  refine jo_callCN (st := [.ref 79, .ref 0]) s22 (c_X5 (jzr (jsr (cR_X8 (jzr (jsr (cR_X1 68 (jzr (jsr (jzr (jsr (jzr (jsr (jzr (jsr (cR_X9 60 (jzr (jsr (cR_X1 52 (jzr (jsr (cR_X4 40 (jzr (jsr (cR_X10 (jzr (jsr (cR_X2 (jzr (jsr (cR_X6 (jzr (jsr (cR_X7 (jzr ρ 1)) 0 3 1) 9)) 0 4 9) 12)) 0 5 12) 33)) 0 6 33) 40)) 0 7 40) 52)) 0 8 52) 60)) 0 9 60) 65) 0 10 65) 66) 0 11 66) 67) 0 12 67) 68)) 0 14 68) 76)) 0 15 76) 79) (jz (cM_X8 (jz (cM_X1 68 (jz (jup (jz (jz (jz (cM_X9 60 (jz (cM_X1 52 (jz (cM_X4 40 (jz (cM_X10 (jz (cM_X2 (jz (cMt (jz (cM_X7 (jz (jup (jup (jup M 0 0 0) 0 1 0) 0 2 1) 1)) 9)) 12)) 33)) 40)) 52)) 60)) 65) 66) 67) 0 13 0) 68)) 76)) 79) w34) okc_X5 (And.intro (Nat.le_of_ble_eq_true rfl) (Nat.le_of_ble_eq_true rfl)) lm_X11_98 rfl (And.intro (Nat.le_of_ble_eq_true rfl) (Nat.le_of_ble_eq_true rfl)) (And.intro (jvo_lt (by omega)) True.intro) (And.intro (jvo_lt (by omega)) (And.intro (jvo_lt (by omega)) True.intro)) rfl (Nat.le_of_ble_eq_true rfl) d_X11_init_160 (fun ad23 h23 => ?_)
  have g23 := g22.tr h23 (by omega)
  have s23 := s22.ag h23
  have w35 := cw_X5 (jzr (jsr (cR_X8 (jzr (jsr (cR_X1 68 (jzr (jsr (jzr (jsr (jzr (jsr (jzr (jsr (cR_X9 60 (jzr (jsr (cR_X1 52 (jzr (jsr (cR_X4 40 (jzr (jsr (cR_X10 (jzr (jsr (cR_X2 (jzr (jsr (cR_X6 (jzr (jsr (cR_X7 (jzr ρ 1)) 0 3 1) 9)) 0 4 9) 12)) 0 5 12) 33)) 0 6 33) 40)) 0 7 40) 52)) 0 8 52) 60)) 0 9 60) 65) 0 10 65) 66) 0 11 66) 67) 0 12 67) 68)) 0 14 68) 76)) 0 15 76) 79) w34
  refine jo_putR (k := 16) cl_11 (Nat.le_of_ble_eq_true rfl) lk_X11_99 rfl rfl rfl rfl (And.intro (by omega) (by decide +kernel : jG 0 = (0, 11))) d_X11_init_163 ?_
  have w36 := jwf_set (a := 0) (k := 16) (b := 79) w35 (by omega) (by decide)
  refine jo_aload 0 d_X11_init_166 rfl rfl ?_
  refine jo_new (a0 := 0) cl_3 fd_3 (by decide +kernel : jG 82 = (0, 3)) (by omega) (by omega) w36 lc_X11_103 it_X3 iz_X3 (And.intro (jvo_lt (by omega)) True.intro) (And.intro (jvo_lt (by omega)) True.intro) (And.intro (Nat.le_of_ble_eq_true rfl) (Nat.le_of_ble_eq_true rfl)) d_X11_init_167 (fun ad24 h24 => ?_)
  have g24 := g23.tr h24 (by omega)
  have s24 := s23.ag h24
  have w37 := jwf_new w36
  refine jo_dup d_X11_init_170 rfl ?_
  refine jo_callCN (st := [.ref 82, .ref 0]) s24 (c_X3 (jzr (jsr (cR_X5 (jzr (jsr (cR_X8 (jzr (jsr (cR_X1 68 (jzr (jsr (jzr (jsr (jzr (jsr (jzr (jsr (cR_X9 60 (jzr (jsr (cR_X1 52 (jzr (jsr (cR_X4 40 (jzr (jsr (cR_X10 (jzr (jsr (cR_X2 (jzr (jsr (cR_X6 (jzr (jsr (cR_X7 (jzr ρ 1)) 0 3 1) 9)) 0 4 9) 12)) 0 5 12) 33)) 0 6 33) 40)) 0 7 40) 52)) 0 8 52) 60)) 0 9 60) 65) 0 10 65) 66) 0 11 66) 67) 0 12 67) 68)) 0 14 68) 76)) 0 15 76) 79)) 0 16 79) 82) (jz (cM_X5 (jz (cM_X8 (jz (cM_X1 68 (jz (jup (jz (jz (jz (cM_X9 60 (jz (cM_X1 52 (jz (cM_X4 40 (jz (cM_X10 (jz (cM_X2 (jz (cMt (jz (cM_X7 (jz (jup (jup (jup M 0 0 0) 0 1 0) 0 2 1) 1)) 9)) 12)) 33)) 40)) 52)) 60)) 65) 66) 67) 0 13 0) 68)) 76)) 79)) 82) w37) okc_X3 (And.intro (Nat.le_of_ble_eq_true rfl) (Nat.le_of_ble_eq_true rfl)) lm_X11_105 rfl (And.intro (Nat.le_of_ble_eq_true rfl) (Nat.le_of_ble_eq_true rfl)) (And.intro (jvo_lt (by omega)) True.intro) (And.intro (jvo_lt (by omega)) (And.intro (jvo_lt (by omega)) True.intro)) rfl (Nat.le_of_ble_eq_true rfl) d_X11_init_171 (fun ad25 h25 => ?_)
  have g25 := g24.tr h25 (by omega)
  have s25 := s24.ag h25
  have w38 := cw_X3 (jzr (jsr (cR_X5 (jzr (jsr (cR_X8 (jzr (jsr (cR_X1 68 (jzr (jsr (jzr (jsr (jzr (jsr (jzr (jsr (cR_X9 60 (jzr (jsr (cR_X1 52 (jzr (jsr (cR_X4 40 (jzr (jsr (cR_X10 (jzr (jsr (cR_X2 (jzr (jsr (cR_X6 (jzr (jsr (cR_X7 (jzr ρ 1)) 0 3 1) 9)) 0 4 9) 12)) 0 5 12) 33)) 0 6 33) 40)) 0 7 40) 52)) 0 8 52) 60)) 0 9 60) 65) 0 10 65) 66) 0 11 66) 67) 0 12 67) 68)) 0 14 68) 76)) 0 15 76) 79)) 0 16 79) 82) w37
  refine jo_putR (k := 17) cl_11 (Nat.le_of_ble_eq_true rfl) lk_X11_106 rfl rfl rfl rfl (And.intro (by omega) (by decide +kernel : jG 0 = (0, 11))) d_X11_init_174 ?_
  have w39 := jwf_set (a := 0) (k := 17) (b := 82) w38 (by omega) (by decide)
  refine jo_aload 0 d_X11_init_177 rfl rfl ?_
  refine jo_new (a0 := 0) cl_0 fd_0 (by decide +kernel : jG 86 = (0, 0)) (by omega) (by omega) w39 lc_X11_110 it_X0 iz_X0 (And.intro (jvo_lt (by omega)) True.intro) (And.intro (jvo_lt (by omega)) True.intro) (And.intro (Nat.le_of_ble_eq_true rfl) (Nat.le_of_ble_eq_true rfl)) d_X11_init_178 (fun ad26 h26 => ?_)
  have g26 := g25.tr h26 (by omega)
  have s26 := s25.ag h26
  have w40 := jwf_new w39
  refine jo_dup d_X11_init_181 rfl ?_
  refine jo_callCN (st := [.ref 86, .ref 0]) s26 (c_X0 86 (And.intro (Nat.le_of_ble_eq_true rfl) (by decide +kernel)) (jzr (jsr (cR_X3 (jzr (jsr (cR_X5 (jzr (jsr (cR_X8 (jzr (jsr (cR_X1 68 (jzr (jsr (jzr (jsr (jzr (jsr (jzr (jsr (cR_X9 60 (jzr (jsr (cR_X1 52 (jzr (jsr (cR_X4 40 (jzr (jsr (cR_X10 (jzr (jsr (cR_X2 (jzr (jsr (cR_X6 (jzr (jsr (cR_X7 (jzr ρ 1)) 0 3 1) 9)) 0 4 9) 12)) 0 5 12) 33)) 0 6 33) 40)) 0 7 40) 52)) 0 8 52) 60)) 0 9 60) 65) 0 10 65) 66) 0 11 66) 67) 0 12 67) 68)) 0 14 68) 76)) 0 15 76) 79)) 0 16 79) 82)) 0 17 82) 86) (jz (cM_X3 (jz (cM_X5 (jz (cM_X8 (jz (cM_X1 68 (jz (jup (jz (jz (jz (cM_X9 60 (jz (cM_X1 52 (jz (cM_X4 40 (jz (cM_X10 (jz (cM_X2 (jz (cMt (jz (cM_X7 (jz (jup (jup (jup M 0 0 0) 0 1 0) 0 2 1) 1)) 9)) 12)) 33)) 40)) 52)) 60)) 65) 66) 67) 0 13 0) 68)) 76)) 79)) 82)) 86) w40) okc_X0 (And.intro (Nat.le_of_ble_eq_true rfl) (Nat.le_of_ble_eq_true rfl)) lm_X11_112 rfl (And.intro (Nat.le_of_ble_eq_true rfl) (Nat.le_of_ble_eq_true rfl)) (And.intro (jvo_lt (by omega)) True.intro) (And.intro (jvo_lt (by omega)) (And.intro (jvo_lt (by omega)) True.intro)) rfl (Nat.le_of_ble_eq_true rfl) d_X11_init_182 (fun ad27 h27 => ?_)
  have g27 := g26.tr h27 (by omega)
  have s27 := s26.ag h27
  have w41 := cw_X0 86 (jzr (jsr (cR_X3 (jzr (jsr (cR_X5 (jzr (jsr (cR_X8 (jzr (jsr (cR_X1 68 (jzr (jsr (jzr (jsr (jzr (jsr (jzr (jsr (cR_X9 60 (jzr (jsr (cR_X1 52 (jzr (jsr (cR_X4 40 (jzr (jsr (cR_X10 (jzr (jsr (cR_X2 (jzr (jsr (cR_X6 (jzr (jsr (cR_X7 (jzr ρ 1)) 0 3 1) 9)) 0 4 9) 12)) 0 5 12) 33)) 0 6 33) 40)) 0 7 40) 52)) 0 8 52) 60)) 0 9 60) 65) 0 10 65) 66) 0 11 66) 67) 0 12 67) 68)) 0 14 68) 76)) 0 15 76) 79)) 0 16 79) 82)) 0 17 82) 86) w40
  refine jo_putR (k := 18) cl_11 (Nat.le_of_ble_eq_true rfl) lk_X11_113 rfl rfl rfl rfl (And.intro (by omega) (by decide +kernel : jG 0 = (0, 11))) d_X11_init_185 ?_
  have w42 := jwf_set (a := 0) (k := 18) (b := 86) w41 (by omega) (by decide)
  refine jo_aload 0 d_X11_init_188 rfl rfl ?_
  refine jo_new (a0 := 0) cl_0 fd_0 (by decide +kernel : jG 89 = (0, 0)) (by omega) (by omega) w42 lc_X11_110 it_X0 iz_X0 (And.intro (jvo_lt (by omega)) True.intro) (And.intro (jvo_lt (by omega)) True.intro) (And.intro (Nat.le_of_ble_eq_true rfl) (Nat.le_of_ble_eq_true rfl)) d_X11_init_189 (fun ad28 h28 => ?_)
  have g28 := g27.tr h28 (by omega)
  have s28 := s27.ag h28
  have w43 := jwf_new w42
  refine jo_dup d_X11_init_192 rfl ?_
  refine jo_callCN (st := [.ref 89, .ref 0]) s28 (c_X0 89 (And.intro (Nat.le_of_ble_eq_true rfl) (by decide +kernel)) (jzr (jsr (cR_X0 86 (jzr (jsr (cR_X3 (jzr (jsr (cR_X5 (jzr (jsr (cR_X8 (jzr (jsr (cR_X1 68 (jzr (jsr (jzr (jsr (jzr (jsr (jzr (jsr (cR_X9 60 (jzr (jsr (cR_X1 52 (jzr (jsr (cR_X4 40 (jzr (jsr (cR_X10 (jzr (jsr (cR_X2 (jzr (jsr (cR_X6 (jzr (jsr (cR_X7 (jzr ρ 1)) 0 3 1) 9)) 0 4 9) 12)) 0 5 12) 33)) 0 6 33) 40)) 0 7 40) 52)) 0 8 52) 60)) 0 9 60) 65) 0 10 65) 66) 0 11 66) 67) 0 12 67) 68)) 0 14 68) 76)) 0 15 76) 79)) 0 16 79) 82)) 0 17 82) 86)) 0 18 86) 89) (jz (cM_X0 86 (jz (cM_X3 (jz (cM_X5 (jz (cM_X8 (jz (cM_X1 68 (jz (jup (jz (jz (jz (cM_X9 60 (jz (cM_X1 52 (jz (cM_X4 40 (jz (cM_X10 (jz (cM_X2 (jz (cMt (jz (cM_X7 (jz (jup (jup (jup M 0 0 0) 0 1 0) 0 2 1) 1)) 9)) 12)) 33)) 40)) 52)) 60)) 65) 66) 67) 0 13 0) 68)) 76)) 79)) 82)) 86)) 89) w43) okc_X0 (And.intro (Nat.le_of_ble_eq_true rfl) (Nat.le_of_ble_eq_true rfl)) lm_X11_112 rfl (And.intro (Nat.le_of_ble_eq_true rfl) (Nat.le_of_ble_eq_true rfl)) (And.intro (jvo_lt (by omega)) True.intro) (And.intro (jvo_lt (by omega)) (And.intro (jvo_lt (by omega)) True.intro)) rfl (Nat.le_of_ble_eq_true rfl) d_X11_init_193 (fun ad29 h29 => ?_)
  have g29 := g28.tr h29 (by omega)
  have s29 := s28.ag h29
  have w44 := cw_X0 89 (jzr (jsr (cR_X0 86 (jzr (jsr (cR_X3 (jzr (jsr (cR_X5 (jzr (jsr (cR_X8 (jzr (jsr (cR_X1 68 (jzr (jsr (jzr (jsr (jzr (jsr (jzr (jsr (cR_X9 60 (jzr (jsr (cR_X1 52 (jzr (jsr (cR_X4 40 (jzr (jsr (cR_X10 (jzr (jsr (cR_X2 (jzr (jsr (cR_X6 (jzr (jsr (cR_X7 (jzr ρ 1)) 0 3 1) 9)) 0 4 9) 12)) 0 5 12) 33)) 0 6 33) 40)) 0 7 40) 52)) 0 8 52) 60)) 0 9 60) 65) 0 10 65) 66) 0 11 66) 67) 0 12 67) 68)) 0 14 68) 76)) 0 15 76) 79)) 0 16 79) 82)) 0 17 82) 86)) 0 18 86) 89) w43
  refine jo_putR (k := 19) cl_11 (Nat.le_of_ble_eq_true rfl) lk_X11_117 rfl rfl rfl rfl (And.intro (by omega) (by decide +kernel : jG 0 = (0, 11))) d_X11_init_196 ?_
  have w45 := jwf_set (a := 0) (k := 19) (b := 89) w44 (by omega) (by decide)
  refine jo_iconst 0 d_X11_init_199 ?_
  refine jo_istoreC 1 d_X11_init_200 rfl (Nat.le_of_ble_eq_true rfl) ?_
  refine jo_iload 1 d_X11_init_201 rfl rfl ?_
  refine jo_iconst 3 d_X11_init_202 ?_
  refine jo_skip (P := jw (3) ≤ jw (0)) (by decide) ?_
  refine jo_icmp_ge 251 d_X11_init_203 (by decide) jO.none ?_
  refine jo_aload 0 d_X11_init_206 rfl rfl ?_
  refine jo_getR (k := 10) cl_11 (Nat.le_of_ble_eq_true rfl) lk_X11_71 rfl (And.intro (by omega) (by decide +kernel : jG 0 = (0, 11))) (b := 65) (by simp [jsr, jzr, cR_X0, cR_X1, cR_X10, cR_X2, cR_X3, cR_X4, cR_X5, cR_X6, cR_X7, cR_X8, cR_X9]) d_X11_init_207 ?_
  refine jo_iload 1 d_X11_init_210 rfl rfl ?_
  refine jo_new (a0 := 0) cl_4 fd_4 (by decide +kernel : jG 92 = (0, 4)) (by omega) (by omega) w45 lc_X11_50 it_X4 iz_X4 (And.intro (jvo_lt (by omega)) (And.intro True.intro True.intro)) (And.intro True.intro (And.intro (jvo_lt (by omega)) True.intro)) (And.intro (Nat.le_of_ble_eq_true rfl) (Nat.le_of_ble_eq_true rfl)) d_X11_init_211 (fun ad30 h30 => ?_)
  have g30 := g29.tr h30 (by omega)
  have s30 := s29.ag h30
  have w46 := jwf_new w45
  refine jo_dup d_X11_init_214 rfl ?_
  refine jo_callCN (st := [.ref 92, ji 0, .ref 65]) s30 (c_X4 92 (And.intro (Nat.le_of_ble_eq_true rfl) (by decide +kernel)) (jzr (jsr (cR_X0 89 (jzr (jsr (cR_X0 86 (jzr (jsr (cR_X3 (jzr (jsr (cR_X5 (jzr (jsr (cR_X8 (jzr (jsr (cR_X1 68 (jzr (jsr (jzr (jsr (jzr (jsr (jzr (jsr (cR_X9 60 (jzr (jsr (cR_X1 52 (jzr (jsr (cR_X4 40 (jzr (jsr (cR_X10 (jzr (jsr (cR_X2 (jzr (jsr (cR_X6 (jzr (jsr (cR_X7 (jzr ρ 1)) 0 3 1) 9)) 0 4 9) 12)) 0 5 12) 33)) 0 6 33) 40)) 0 7 40) 52)) 0 8 52) 60)) 0 9 60) 65) 0 10 65) 66) 0 11 66) 67) 0 12 67) 68)) 0 14 68) 76)) 0 15 76) 79)) 0 16 79) 82)) 0 17 82) 86)) 0 18 86) 89)) 0 19 89) 92) (jz (cM_X0 89 (jz (cM_X0 86 (jz (cM_X3 (jz (cM_X5 (jz (cM_X8 (jz (cM_X1 68 (jz (jup (jz (jz (jz (cM_X9 60 (jz (cM_X1 52 (jz (cM_X4 40 (jz (cM_X10 (jz (cM_X2 (jz (cMt (jz (cM_X7 (jz (jup (jup (jup M 0 0 0) 0 1 0) 0 2 1) 1)) 9)) 12)) 33)) 40)) 52)) 60)) 65) 66) 67) 0 13 0) 68)) 76)) 79)) 82)) 86)) 89)) 92) w46) okc_X4 (And.intro (Nat.le_of_ble_eq_true rfl) (Nat.le_of_ble_eq_true rfl)) lm_X11_52 rfl (And.intro (Nat.le_of_ble_eq_true rfl) (Nat.le_of_ble_eq_true rfl)) (And.intro (jvo_lt (by omega)) (And.intro True.intro True.intro)) (And.intro (jvo_lt (by omega)) (And.intro True.intro (And.intro (jvo_lt (by omega)) True.intro))) rfl (Nat.le_of_ble_eq_true rfl) d_X11_init_215 (fun ad31 h31 => ?_)
  have g31 := g30.tr h31 (by omega)
  have s31 := s30.ag h31
  have w47 := cw_X4 92 (jzr (jsr (cR_X0 89 (jzr (jsr (cR_X0 86 (jzr (jsr (cR_X3 (jzr (jsr (cR_X5 (jzr (jsr (cR_X8 (jzr (jsr (cR_X1 68 (jzr (jsr (jzr (jsr (jzr (jsr (jzr (jsr (cR_X9 60 (jzr (jsr (cR_X1 52 (jzr (jsr (cR_X4 40 (jzr (jsr (cR_X10 (jzr (jsr (cR_X2 (jzr (jsr (cR_X6 (jzr (jsr (cR_X7 (jzr ρ 1)) 0 3 1) 9)) 0 4 9) 12)) 0 5 12) 33)) 0 6 33) 40)) 0 7 40) 52)) 0 8 52) 60)) 0 9 60) 65) 0 10 65) 66) 0 11 66) 67) 0 12 67) 68)) 0 14 68) 76)) 0 15 76) 79)) 0 16 79) 82)) 0 17 82) 86)) 0 18 86) 89)) 0 19 89) 92) w46
  refine jo_aastq (t := 4) (N := 3) (ci := 4) rfl (by decide) (And.intro (by omega) (by decide +kernel : jG 65 = (5, 3))) (And.intro (by omega) (by decide +kernel : jG 92 = (0, 4))) rfl (by decide) d_X11_init_218 ?_
  have w48 := jwf_set (a := 65) (k := (jw 0).toNat) (b := 92) w47 (by omega) (by decide)
  refine jo_aload 0 d_X11_init_219 rfl rfl ?_
  refine jo_getR (k := 11) cl_11 (Nat.le_of_ble_eq_true rfl) lk_X11_75 rfl (And.intro (by omega) (by decide +kernel : jG 0 = (0, 11))) (b := 66) (by simp [jsr, jzr, cR_X0, cR_X1, cR_X10, cR_X2, cR_X3, cR_X4, cR_X5, cR_X6, cR_X7, cR_X8, cR_X9]) d_X11_init_220 ?_
  refine jo_iload 1 d_X11_init_223 rfl rfl ?_
  refine jo_new (a0 := 0) cl_1 fd_1 (by decide +kernel : jG 104 = (0, 1)) (by omega) (by omega) w48 lc_X11_57 it_X1 iz_X1 (And.intro (jvo_lt (by omega)) (And.intro True.intro True.intro)) (And.intro True.intro (And.intro (jvo_lt (by omega)) True.intro)) (And.intro (Nat.le_of_ble_eq_true rfl) (Nat.le_of_ble_eq_true rfl)) d_X11_init_224 (fun ad32 h32 => ?_)
  have g32 := g31.tr h32 (by omega)
  have s32 := s31.ag h32
  have w49 := jwf_new w48
  refine jo_dup d_X11_init_227 rfl ?_
  refine jo_callCN (st := [.ref 104, ji 0, .ref 66]) s32 (c_X1 104 (And.intro (Nat.le_of_ble_eq_true rfl) (by decide +kernel)) (jzr (jsr (cR_X4 92 (jzr (jsr (cR_X0 89 (jzr (jsr (cR_X0 86 (jzr (jsr (cR_X3 (jzr (jsr (cR_X5 (jzr (jsr (cR_X8 (jzr (jsr (cR_X1 68 (jzr (jsr (jzr (jsr (jzr (jsr (jzr (jsr (cR_X9 60 (jzr (jsr (cR_X1 52 (jzr (jsr (cR_X4 40 (jzr (jsr (cR_X10 (jzr (jsr (cR_X2 (jzr (jsr (cR_X6 (jzr (jsr (cR_X7 (jzr ρ 1)) 0 3 1) 9)) 0 4 9) 12)) 0 5 12) 33)) 0 6 33) 40)) 0 7 40) 52)) 0 8 52) 60)) 0 9 60) 65) 0 10 65) 66) 0 11 66) 67) 0 12 67) 68)) 0 14 68) 76)) 0 15 76) 79)) 0 16 79) 82)) 0 17 82) 86)) 0 18 86) 89)) 0 19 89) 92)) 65 (jw 0).toNat 92) 104) (jz (cM_X4 92 (jz (cM_X0 89 (jz (cM_X0 86 (jz (cM_X3 (jz (cM_X5 (jz (cM_X8 (jz (cM_X1 68 (jz (jup (jz (jz (jz (cM_X9 60 (jz (cM_X1 52 (jz (cM_X4 40 (jz (cM_X10 (jz (cM_X2 (jz (cMt (jz (cM_X7 (jz (jup (jup (jup M 0 0 0) 0 1 0) 0 2 1) 1)) 9)) 12)) 33)) 40)) 52)) 60)) 65) 66) 67) 0 13 0) 68)) 76)) 79)) 82)) 86)) 89)) 92)) 104) w49) okc_X1 (And.intro (Nat.le_of_ble_eq_true rfl) (Nat.le_of_ble_eq_true rfl)) lm_X11_59 rfl (And.intro (Nat.le_of_ble_eq_true rfl) (Nat.le_of_ble_eq_true rfl)) (And.intro (jvo_lt (by omega)) (And.intro True.intro True.intro)) (And.intro (jvo_lt (by omega)) (And.intro True.intro (And.intro (jvo_lt (by omega)) True.intro))) rfl (Nat.le_of_ble_eq_true rfl) d_X11_init_228 (fun ad33 h33 => ?_)
  have g33 := g32.tr h33 (by omega)
  have s33 := s32.ag h33
  have w50 := cw_X1 104 (jzr (jsr (cR_X4 92 (jzr (jsr (cR_X0 89 (jzr (jsr (cR_X0 86 (jzr (jsr (cR_X3 (jzr (jsr (cR_X5 (jzr (jsr (cR_X8 (jzr (jsr (cR_X1 68 (jzr (jsr (jzr (jsr (jzr (jsr (jzr (jsr (cR_X9 60 (jzr (jsr (cR_X1 52 (jzr (jsr (cR_X4 40 (jzr (jsr (cR_X10 (jzr (jsr (cR_X2 (jzr (jsr (cR_X6 (jzr (jsr (cR_X7 (jzr ρ 1)) 0 3 1) 9)) 0 4 9) 12)) 0 5 12) 33)) 0 6 33) 40)) 0 7 40) 52)) 0 8 52) 60)) 0 9 60) 65) 0 10 65) 66) 0 11 66) 67) 0 12 67) 68)) 0 14 68) 76)) 0 15 76) 79)) 0 16 79) 82)) 0 17 82) 86)) 0 18 86) 89)) 0 19 89) 92)) 65 (jw 0).toNat 92) 104) w49
  refine jo_aastq (t := 5) (N := 3) (ci := 1) rfl (by decide) (And.intro (by omega) (by decide +kernel : jG 66 = (6, 3))) (And.intro (by omega) (by decide +kernel : jG 104 = (0, 1))) rfl (by decide) d_X11_init_231 ?_
  have w51 := jwf_set (a := 66) (k := (jw 0).toNat) (b := 104) w50 (by omega) (by decide)
  refine jo_aload 0 d_X11_init_232 rfl rfl ?_
  refine jo_getR (k := 12) cl_11 (Nat.le_of_ble_eq_true rfl) lk_X11_79 rfl (And.intro (by omega) (by decide +kernel : jG 0 = (0, 11))) (b := 67) (by simp [jsr, jzr, cR_X0, cR_X1, cR_X10, cR_X2, cR_X3, cR_X4, cR_X5, cR_X6, cR_X7, cR_X8, cR_X9]) d_X11_init_233 ?_
  refine jo_iload 1 d_X11_init_236 rfl rfl ?_
  refine jo_new (a0 := 0) cl_9 fd_9 (by decide +kernel : jG 112 = (0, 9)) (by omega) (by omega) w51 lc_X11_64 it_X9 iz_X9 (And.intro (jvo_lt (by omega)) (And.intro True.intro True.intro)) (And.intro True.intro (And.intro (jvo_lt (by omega)) True.intro)) (And.intro (Nat.le_of_ble_eq_true rfl) (Nat.le_of_ble_eq_true rfl)) d_X11_init_237 (fun ad34 h34 => ?_)
  have g34 := g33.tr h34 (by omega)
  have s34 := s33.ag h34
  have w52 := jwf_new w51
  refine jo_dup d_X11_init_240 rfl ?_
  refine jo_callCN (st := [.ref 112, ji 0, .ref 67]) s34 (c_X9 112 (And.intro (Nat.le_of_ble_eq_true rfl) (by decide +kernel)) (jzr (jsr (cR_X1 104 (jzr (jsr (cR_X4 92 (jzr (jsr (cR_X0 89 (jzr (jsr (cR_X0 86 (jzr (jsr (cR_X3 (jzr (jsr (cR_X5 (jzr (jsr (cR_X8 (jzr (jsr (cR_X1 68 (jzr (jsr (jzr (jsr (jzr (jsr (jzr (jsr (cR_X9 60 (jzr (jsr (cR_X1 52 (jzr (jsr (cR_X4 40 (jzr (jsr (cR_X10 (jzr (jsr (cR_X2 (jzr (jsr (cR_X6 (jzr (jsr (cR_X7 (jzr ρ 1)) 0 3 1) 9)) 0 4 9) 12)) 0 5 12) 33)) 0 6 33) 40)) 0 7 40) 52)) 0 8 52) 60)) 0 9 60) 65) 0 10 65) 66) 0 11 66) 67) 0 12 67) 68)) 0 14 68) 76)) 0 15 76) 79)) 0 16 79) 82)) 0 17 82) 86)) 0 18 86) 89)) 0 19 89) 92)) 65 (jw 0).toNat 92) 104)) 66 (jw 0).toNat 104) 112) (jz (cM_X1 104 (jz (cM_X4 92 (jz (cM_X0 89 (jz (cM_X0 86 (jz (cM_X3 (jz (cM_X5 (jz (cM_X8 (jz (cM_X1 68 (jz (jup (jz (jz (jz (cM_X9 60 (jz (cM_X1 52 (jz (cM_X4 40 (jz (cM_X10 (jz (cM_X2 (jz (cMt (jz (cM_X7 (jz (jup (jup (jup M 0 0 0) 0 1 0) 0 2 1) 1)) 9)) 12)) 33)) 40)) 52)) 60)) 65) 66) 67) 0 13 0) 68)) 76)) 79)) 82)) 86)) 89)) 92)) 104)) 112) w52) okc_X9 (And.intro (Nat.le_of_ble_eq_true rfl) (Nat.le_of_ble_eq_true rfl)) lm_X11_66 rfl (And.intro (Nat.le_of_ble_eq_true rfl) (Nat.le_of_ble_eq_true rfl)) (And.intro (jvo_lt (by omega)) (And.intro True.intro True.intro)) (And.intro (jvo_lt (by omega)) (And.intro True.intro (And.intro (jvo_lt (by omega)) True.intro))) rfl (Nat.le_of_ble_eq_true rfl) d_X11_init_241 (fun ad35 h35 => ?_)
  have g35 := g34.tr h35 (by omega)
  have s35 := s34.ag h35
  have w53 := cw_X9 112 (jzr (jsr (cR_X1 104 (jzr (jsr (cR_X4 92 (jzr (jsr (cR_X0 89 (jzr (jsr (cR_X0 86 (jzr (jsr (cR_X3 (jzr (jsr (cR_X5 (jzr (jsr (cR_X8 (jzr (jsr (cR_X1 68 (jzr (jsr (jzr (jsr (jzr (jsr (jzr (jsr (cR_X9 60 (jzr (jsr (cR_X1 52 (jzr (jsr (cR_X4 40 (jzr (jsr (cR_X10 (jzr (jsr (cR_X2 (jzr (jsr (cR_X6 (jzr (jsr (cR_X7 (jzr ρ 1)) 0 3 1) 9)) 0 4 9) 12)) 0 5 12) 33)) 0 6 33) 40)) 0 7 40) 52)) 0 8 52) 60)) 0 9 60) 65) 0 10 65) 66) 0 11 66) 67) 0 12 67) 68)) 0 14 68) 76)) 0 15 76) 79)) 0 16 79) 82)) 0 17 82) 86)) 0 18 86) 89)) 0 19 89) 92)) 65 (jw 0).toNat 92) 104)) 66 (jw 0).toNat 104) 112) w52
  refine jo_aastq (t := 6) (N := 3) (ci := 9) rfl (by decide) (And.intro (by omega) (by decide +kernel : jG 67 = (7, 3))) (And.intro (by omega) (by decide +kernel : jG 112 = (0, 9))) rfl (by decide) d_X11_init_244 ?_
  have w54 := jwf_set (a := 67) (k := (jw 0).toNat) (b := 112) w53 (by omega) (by decide)
  refine jo_iincC 1 d_X11_init_245 rfl (Nat.le_of_ble_eq_true rfl) ?_
  refine jo_goto 201 d_X11_init_248 (by decide) ?_
  refine jo_iload 1 d_X11_init_201 rfl rfl ?_
  refine jo_iconst 3 d_X11_init_202 ?_
  refine jo_skip (P := jw (3) ≤ jw (1)) (by decide) ?_
  refine jo_icmp_ge 251 d_X11_init_203 (by decide) jO.none ?_
  refine jo_aload 0 d_X11_init_206 rfl rfl ?_
  refine jo_getR (k := 10) cl_11 (Nat.le_of_ble_eq_true rfl) lk_X11_71 rfl (And.intro (by omega) (by decide +kernel : jG 0 = (0, 11))) (b := 65) (by simp [jsr, jzr, cR_X0, cR_X1, cR_X10, cR_X2, cR_X3, cR_X4, cR_X5, cR_X6, cR_X7, cR_X8, cR_X9]) d_X11_init_207 ?_
  refine jo_iload 1 d_X11_init_210 rfl rfl ?_
  refine jo_new (a0 := 0) cl_4 fd_4 (by decide +kernel : jG 117 = (0, 4)) (by omega) (by omega) w54 lc_X11_50 it_X4 iz_X4 (And.intro (jvo_lt (by omega)) (And.intro True.intro True.intro)) (And.intro True.intro (And.intro (jvo_lt (by omega)) True.intro)) (And.intro (Nat.le_of_ble_eq_true rfl) (Nat.le_of_ble_eq_true rfl)) d_X11_init_211 (fun ad36 h36 => ?_)
  have g36 := g35.tr h36 (by omega)
  have s36 := s35.ag h36
  have w55 := jwf_new w54
  refine jo_dup d_X11_init_214 rfl ?_
  refine jo_callCN (st := [.ref 117, ji 1, .ref 65]) s36 (c_X4 117 (And.intro (Nat.le_of_ble_eq_true rfl) (by decide +kernel)) (jzr (jsr (cR_X9 112 (jzr (jsr (cR_X1 104 (jzr (jsr (cR_X4 92 (jzr (jsr (cR_X0 89 (jzr (jsr (cR_X0 86 (jzr (jsr (cR_X3 (jzr (jsr (cR_X5 (jzr (jsr (cR_X8 (jzr (jsr (cR_X1 68 (jzr (jsr (jzr (jsr (jzr (jsr (jzr (jsr (cR_X9 60 (jzr (jsr (cR_X1 52 (jzr (jsr (cR_X4 40 (jzr (jsr (cR_X10 (jzr (jsr (cR_X2 (jzr (jsr (cR_X6 (jzr (jsr (cR_X7 (jzr ρ 1)) 0 3 1) 9)) 0 4 9) 12)) 0 5 12) 33)) 0 6 33) 40)) 0 7 40) 52)) 0 8 52) 60)) 0 9 60) 65) 0 10 65) 66) 0 11 66) 67) 0 12 67) 68)) 0 14 68) 76)) 0 15 76) 79)) 0 16 79) 82)) 0 17 82) 86)) 0 18 86) 89)) 0 19 89) 92)) 65 (jw 0).toNat 92) 104)) 66 (jw 0).toNat 104) 112)) 67 (jw 0).toNat 112) 117) (jz (cM_X9 112 (jz (cM_X1 104 (jz (cM_X4 92 (jz (cM_X0 89 (jz (cM_X0 86 (jz (cM_X3 (jz (cM_X5 (jz (cM_X8 (jz (cM_X1 68 (jz (jup (jz (jz (jz (cM_X9 60 (jz (cM_X1 52 (jz (cM_X4 40 (jz (cM_X10 (jz (cM_X2 (jz (cMt (jz (cM_X7 (jz (jup (jup (jup M 0 0 0) 0 1 0) 0 2 1) 1)) 9)) 12)) 33)) 40)) 52)) 60)) 65) 66) 67) 0 13 0) 68)) 76)) 79)) 82)) 86)) 89)) 92)) 104)) 112)) 117) w55) okc_X4 (And.intro (Nat.le_of_ble_eq_true rfl) (Nat.le_of_ble_eq_true rfl)) lm_X11_52 rfl (And.intro (Nat.le_of_ble_eq_true rfl) (Nat.le_of_ble_eq_true rfl)) (And.intro (jvo_lt (by omega)) (And.intro True.intro True.intro)) (And.intro (jvo_lt (by omega)) (And.intro True.intro (And.intro (jvo_lt (by omega)) True.intro))) rfl (Nat.le_of_ble_eq_true rfl) d_X11_init_215 (fun ad37 h37 => ?_)
  have g37 := g36.tr h37 (by omega)
  have s37 := s36.ag h37
  have w56 := cw_X4 117 (jzr (jsr (cR_X9 112 (jzr (jsr (cR_X1 104 (jzr (jsr (cR_X4 92 (jzr (jsr (cR_X0 89 (jzr (jsr (cR_X0 86 (jzr (jsr (cR_X3 (jzr (jsr (cR_X5 (jzr (jsr (cR_X8 (jzr (jsr (cR_X1 68 (jzr (jsr (jzr (jsr (jzr (jsr (jzr (jsr (cR_X9 60 (jzr (jsr (cR_X1 52 (jzr (jsr (cR_X4 40 (jzr (jsr (cR_X10 (jzr (jsr (cR_X2 (jzr (jsr (cR_X6 (jzr (jsr (cR_X7 (jzr ρ 1)) 0 3 1) 9)) 0 4 9) 12)) 0 5 12) 33)) 0 6 33) 40)) 0 7 40) 52)) 0 8 52) 60)) 0 9 60) 65) 0 10 65) 66) 0 11 66) 67) 0 12 67) 68)) 0 14 68) 76)) 0 15 76) 79)) 0 16 79) 82)) 0 17 82) 86)) 0 18 86) 89)) 0 19 89) 92)) 65 (jw 0).toNat 92) 104)) 66 (jw 0).toNat 104) 112)) 67 (jw 0).toNat 112) 117) w55
  refine jo_aastq (t := 4) (N := 3) (ci := 4) rfl (by decide) (And.intro (by omega) (by decide +kernel : jG 65 = (5, 3))) (And.intro (by omega) (by decide +kernel : jG 117 = (0, 4))) rfl (by decide) d_X11_init_218 ?_
  have w57 := jwf_set (a := 65) (k := (jw 1).toNat) (b := 117) w56 (by omega) (by decide)
  refine jo_aload 0 d_X11_init_219 rfl rfl ?_
  refine jo_getR (k := 11) cl_11 (Nat.le_of_ble_eq_true rfl) lk_X11_75 rfl (And.intro (by omega) (by decide +kernel : jG 0 = (0, 11))) (b := 66) (by simp [jsr, jzr, cR_X0, cR_X1, cR_X10, cR_X2, cR_X3, cR_X4, cR_X5, cR_X6, cR_X7, cR_X8, cR_X9]) d_X11_init_220 ?_
  refine jo_iload 1 d_X11_init_223 rfl rfl ?_
  refine jo_new (a0 := 0) cl_1 fd_1 (by decide +kernel : jG 129 = (0, 1)) (by omega) (by omega) w57 lc_X11_57 it_X1 iz_X1 (And.intro (jvo_lt (by omega)) (And.intro True.intro True.intro)) (And.intro True.intro (And.intro (jvo_lt (by omega)) True.intro)) (And.intro (Nat.le_of_ble_eq_true rfl) (Nat.le_of_ble_eq_true rfl)) d_X11_init_224 (fun ad38 h38 => ?_)
  have g38 := g37.tr h38 (by omega)
  have s38 := s37.ag h38
  have w58 := jwf_new w57
  refine jo_dup d_X11_init_227 rfl ?_
  refine jo_callCN (st := [.ref 129, ji 1, .ref 66]) s38 (c_X1 129 (And.intro (Nat.le_of_ble_eq_true rfl) (by decide +kernel)) (jzr (jsr (cR_X4 117 (jzr (jsr (cR_X9 112 (jzr (jsr (cR_X1 104 (jzr (jsr (cR_X4 92 (jzr (jsr (cR_X0 89 (jzr (jsr (cR_X0 86 (jzr (jsr (cR_X3 (jzr (jsr (cR_X5 (jzr (jsr (cR_X8 (jzr (jsr (cR_X1 68 (jzr (jsr (jzr (jsr (jzr (jsr (jzr (jsr (cR_X9 60 (jzr (jsr (cR_X1 52 (jzr (jsr (cR_X4 40 (jzr (jsr (cR_X10 (jzr (jsr (cR_X2 (jzr (jsr (cR_X6 (jzr (jsr (cR_X7 (jzr ρ 1)) 0 3 1) 9)) 0 4 9) 12)) 0 5 12) 33)) 0 6 33) 40)) 0 7 40) 52)) 0 8 52) 60)) 0 9 60) 65) 0 10 65) 66) 0 11 66) 67) 0 12 67) 68)) 0 14 68) 76)) 0 15 76) 79)) 0 16 79) 82)) 0 17 82) 86)) 0 18 86) 89)) 0 19 89) 92)) 65 (jw 0).toNat 92) 104)) 66 (jw 0).toNat 104) 112)) 67 (jw 0).toNat 112) 117)) 65 (jw 1).toNat 117) 129) (jz (cM_X4 117 (jz (cM_X9 112 (jz (cM_X1 104 (jz (cM_X4 92 (jz (cM_X0 89 (jz (cM_X0 86 (jz (cM_X3 (jz (cM_X5 (jz (cM_X8 (jz (cM_X1 68 (jz (jup (jz (jz (jz (cM_X9 60 (jz (cM_X1 52 (jz (cM_X4 40 (jz (cM_X10 (jz (cM_X2 (jz (cMt (jz (cM_X7 (jz (jup (jup (jup M 0 0 0) 0 1 0) 0 2 1) 1)) 9)) 12)) 33)) 40)) 52)) 60)) 65) 66) 67) 0 13 0) 68)) 76)) 79)) 82)) 86)) 89)) 92)) 104)) 112)) 117)) 129) w58) okc_X1 (And.intro (Nat.le_of_ble_eq_true rfl) (Nat.le_of_ble_eq_true rfl)) lm_X11_59 rfl (And.intro (Nat.le_of_ble_eq_true rfl) (Nat.le_of_ble_eq_true rfl)) (And.intro (jvo_lt (by omega)) (And.intro True.intro True.intro)) (And.intro (jvo_lt (by omega)) (And.intro True.intro (And.intro (jvo_lt (by omega)) True.intro))) rfl (Nat.le_of_ble_eq_true rfl) d_X11_init_228 (fun ad39 h39 => ?_)
  have g39 := g38.tr h39 (by omega)
  have s39 := s38.ag h39
  have w59 := cw_X1 129 (jzr (jsr (cR_X4 117 (jzr (jsr (cR_X9 112 (jzr (jsr (cR_X1 104 (jzr (jsr (cR_X4 92 (jzr (jsr (cR_X0 89 (jzr (jsr (cR_X0 86 (jzr (jsr (cR_X3 (jzr (jsr (cR_X5 (jzr (jsr (cR_X8 (jzr (jsr (cR_X1 68 (jzr (jsr (jzr (jsr (jzr (jsr (jzr (jsr (cR_X9 60 (jzr (jsr (cR_X1 52 (jzr (jsr (cR_X4 40 (jzr (jsr (cR_X10 (jzr (jsr (cR_X2 (jzr (jsr (cR_X6 (jzr (jsr (cR_X7 (jzr ρ 1)) 0 3 1) 9)) 0 4 9) 12)) 0 5 12) 33)) 0 6 33) 40)) 0 7 40) 52)) 0 8 52) 60)) 0 9 60) 65) 0 10 65) 66) 0 11 66) 67) 0 12 67) 68)) 0 14 68) 76)) 0 15 76) 79)) 0 16 79) 82)) 0 17 82) 86)) 0 18 86) 89)) 0 19 89) 92)) 65 (jw 0).toNat 92) 104)) 66 (jw 0).toNat 104) 112)) 67 (jw 0).toNat 112) 117)) 65 (jw 1).toNat 117) 129) w58
  refine jo_aastq (t := 5) (N := 3) (ci := 1) rfl (by decide) (And.intro (by omega) (by decide +kernel : jG 66 = (6, 3))) (And.intro (by omega) (by decide +kernel : jG 129 = (0, 1))) rfl (by decide) d_X11_init_231 ?_
  have w60 := jwf_set (a := 66) (k := (jw 1).toNat) (b := 129) w59 (by omega) (by decide)
  refine jo_aload 0 d_X11_init_232 rfl rfl ?_
  refine jo_getR (k := 12) cl_11 (Nat.le_of_ble_eq_true rfl) lk_X11_79 rfl (And.intro (by omega) (by decide +kernel : jG 0 = (0, 11))) (b := 67) (by simp [jsr, jzr, cR_X0, cR_X1, cR_X10, cR_X2, cR_X3, cR_X4, cR_X5, cR_X6, cR_X7, cR_X8, cR_X9]) d_X11_init_233 ?_
  refine jo_iload 1 d_X11_init_236 rfl rfl ?_
  refine jo_new (a0 := 0) cl_9 fd_9 (by decide +kernel : jG 137 = (0, 9)) (by omega) (by omega) w60 lc_X11_64 it_X9 iz_X9 (And.intro (jvo_lt (by omega)) (And.intro True.intro True.intro)) (And.intro True.intro (And.intro (jvo_lt (by omega)) True.intro)) (And.intro (Nat.le_of_ble_eq_true rfl) (Nat.le_of_ble_eq_true rfl)) d_X11_init_237 (fun ad40 h40 => ?_)
  have g40 := g39.tr h40 (by omega)
  have s40 := s39.ag h40
  have w61 := jwf_new w60
  refine jo_dup d_X11_init_240 rfl ?_
  refine jo_callCN (st := [.ref 137, ji 1, .ref 67]) s40 (c_X9 137 (And.intro (Nat.le_of_ble_eq_true rfl) (by decide +kernel)) (jzr (jsr (cR_X1 129 (jzr (jsr (cR_X4 117 (jzr (jsr (cR_X9 112 (jzr (jsr (cR_X1 104 (jzr (jsr (cR_X4 92 (jzr (jsr (cR_X0 89 (jzr (jsr (cR_X0 86 (jzr (jsr (cR_X3 (jzr (jsr (cR_X5 (jzr (jsr (cR_X8 (jzr (jsr (cR_X1 68 (jzr (jsr (jzr (jsr (jzr (jsr (jzr (jsr (cR_X9 60 (jzr (jsr (cR_X1 52 (jzr (jsr (cR_X4 40 (jzr (jsr (cR_X10 (jzr (jsr (cR_X2 (jzr (jsr (cR_X6 (jzr (jsr (cR_X7 (jzr ρ 1)) 0 3 1) 9)) 0 4 9) 12)) 0 5 12) 33)) 0 6 33) 40)) 0 7 40) 52)) 0 8 52) 60)) 0 9 60) 65) 0 10 65) 66) 0 11 66) 67) 0 12 67) 68)) 0 14 68) 76)) 0 15 76) 79)) 0 16 79) 82)) 0 17 82) 86)) 0 18 86) 89)) 0 19 89) 92)) 65 (jw 0).toNat 92) 104)) 66 (jw 0).toNat 104) 112)) 67 (jw 0).toNat 112) 117)) 65 (jw 1).toNat 117) 129)) 66 (jw 1).toNat 129) 137) (jz (cM_X1 129 (jz (cM_X4 117 (jz (cM_X9 112 (jz (cM_X1 104 (jz (cM_X4 92 (jz (cM_X0 89 (jz (cM_X0 86 (jz (cM_X3 (jz (cM_X5 (jz (cM_X8 (jz (cM_X1 68 (jz (jup (jz (jz (jz (cM_X9 60 (jz (cM_X1 52 (jz (cM_X4 40 (jz (cM_X10 (jz (cM_X2 (jz (cMt (jz (cM_X7 (jz (jup (jup (jup M 0 0 0) 0 1 0) 0 2 1) 1)) 9)) 12)) 33)) 40)) 52)) 60)) 65) 66) 67) 0 13 0) 68)) 76)) 79)) 82)) 86)) 89)) 92)) 104)) 112)) 117)) 129)) 137) w61) okc_X9 (And.intro (Nat.le_of_ble_eq_true rfl) (Nat.le_of_ble_eq_true rfl)) lm_X11_66 rfl (And.intro (Nat.le_of_ble_eq_true rfl) (Nat.le_of_ble_eq_true rfl)) (And.intro (jvo_lt (by omega)) (And.intro True.intro True.intro)) (And.intro (jvo_lt (by omega)) (And.intro True.intro (And.intro (jvo_lt (by omega)) True.intro))) rfl (Nat.le_of_ble_eq_true rfl) d_X11_init_241 (fun ad41 h41 => ?_)
  have g41 := g40.tr h41 (by omega)
  have s41 := s40.ag h41
  have w62 := cw_X9 137 (jzr (jsr (cR_X1 129 (jzr (jsr (cR_X4 117 (jzr (jsr (cR_X9 112 (jzr (jsr (cR_X1 104 (jzr (jsr (cR_X4 92 (jzr (jsr (cR_X0 89 (jzr (jsr (cR_X0 86 (jzr (jsr (cR_X3 (jzr (jsr (cR_X5 (jzr (jsr (cR_X8 (jzr (jsr (cR_X1 68 (jzr (jsr (jzr (jsr (jzr (jsr (jzr (jsr (cR_X9 60 (jzr (jsr (cR_X1 52 (jzr (jsr (cR_X4 40 (jzr (jsr (cR_X10 (jzr (jsr (cR_X2 (jzr (jsr (cR_X6 (jzr (jsr (cR_X7 (jzr ρ 1)) 0 3 1) 9)) 0 4 9) 12)) 0 5 12) 33)) 0 6 33) 40)) 0 7 40) 52)) 0 8 52) 60)) 0 9 60) 65) 0 10 65) 66) 0 11 66) 67) 0 12 67) 68)) 0 14 68) 76)) 0 15 76) 79)) 0 16 79) 82)) 0 17 82) 86)) 0 18 86) 89)) 0 19 89) 92)) 65 (jw 0).toNat 92) 104)) 66 (jw 0).toNat 104) 112)) 67 (jw 0).toNat 112) 117)) 65 (jw 1).toNat 117) 129)) 66 (jw 1).toNat 129) 137) w61
  refine jo_aastq (t := 6) (N := 3) (ci := 9) rfl (by decide) (And.intro (by omega) (by decide +kernel : jG 67 = (7, 3))) (And.intro (by omega) (by decide +kernel : jG 137 = (0, 9))) rfl (by decide) d_X11_init_244 ?_
  have w63 := jwf_set (a := 67) (k := (jw 1).toNat) (b := 137) w62 (by omega) (by decide)
  refine jo_iincC 1 d_X11_init_245 rfl (Nat.le_of_ble_eq_true rfl) ?_
  refine jo_goto 201 d_X11_init_248 (by decide) ?_
  refine jo_iload 1 d_X11_init_201 rfl rfl ?_
  refine jo_iconst 3 d_X11_init_202 ?_
  refine jo_skip (P := jw (3) ≤ jw (2)) (by decide) ?_
  refine jo_icmp_ge 251 d_X11_init_203 (by decide) jO.none ?_
  refine jo_aload 0 d_X11_init_206 rfl rfl ?_
  refine jo_getR (k := 10) cl_11 (Nat.le_of_ble_eq_true rfl) lk_X11_71 rfl (And.intro (by omega) (by decide +kernel : jG 0 = (0, 11))) (b := 65) (by simp [jsr, jzr, cR_X0, cR_X1, cR_X10, cR_X2, cR_X3, cR_X4, cR_X5, cR_X6, cR_X7, cR_X8, cR_X9]) d_X11_init_207 ?_
  refine jo_iload 1 d_X11_init_210 rfl rfl ?_
  refine jo_new (a0 := 0) cl_4 fd_4 (by decide +kernel : jG 142 = (0, 4)) (by omega) (by omega) w63 lc_X11_50 it_X4 iz_X4 (And.intro (jvo_lt (by omega)) (And.intro True.intro True.intro)) (And.intro True.intro (And.intro (jvo_lt (by omega)) True.intro)) (And.intro (Nat.le_of_ble_eq_true rfl) (Nat.le_of_ble_eq_true rfl)) d_X11_init_211 (fun ad42 h42 => ?_)
  have g42 := g41.tr h42 (by omega)
  have s42 := s41.ag h42
  have w64 := jwf_new w63
  refine jo_dup d_X11_init_214 rfl ?_
  refine jo_callCN (st := [.ref 142, ji 2, .ref 65]) s42 (c_X4 142 (And.intro (Nat.le_of_ble_eq_true rfl) (by decide +kernel)) (jzr (jsr (cR_X9 137 (jzr (jsr (cR_X1 129 (jzr (jsr (cR_X4 117 (jzr (jsr (cR_X9 112 (jzr (jsr (cR_X1 104 (jzr (jsr (cR_X4 92 (jzr (jsr (cR_X0 89 (jzr (jsr (cR_X0 86 (jzr (jsr (cR_X3 (jzr (jsr (cR_X5 (jzr (jsr (cR_X8 (jzr (jsr (cR_X1 68 (jzr (jsr (jzr (jsr (jzr (jsr (jzr (jsr (cR_X9 60 (jzr (jsr (cR_X1 52 (jzr (jsr (cR_X4 40 (jzr (jsr (cR_X10 (jzr (jsr (cR_X2 (jzr (jsr (cR_X6 (jzr (jsr (cR_X7 (jzr ρ 1)) 0 3 1) 9)) 0 4 9) 12)) 0 5 12) 33)) 0 6 33) 40)) 0 7 40) 52)) 0 8 52) 60)) 0 9 60) 65) 0 10 65) 66) 0 11 66) 67) 0 12 67) 68)) 0 14 68) 76)) 0 15 76) 79)) 0 16 79) 82)) 0 17 82) 86)) 0 18 86) 89)) 0 19 89) 92)) 65 (jw 0).toNat 92) 104)) 66 (jw 0).toNat 104) 112)) 67 (jw 0).toNat 112) 117)) 65 (jw 1).toNat 117) 129)) 66 (jw 1).toNat 129) 137)) 67 (jw 1).toNat 137) 142) (jz (cM_X9 137 (jz (cM_X1 129 (jz (cM_X4 117 (jz (cM_X9 112 (jz (cM_X1 104 (jz (cM_X4 92 (jz (cM_X0 89 (jz (cM_X0 86 (jz (cM_X3 (jz (cM_X5 (jz (cM_X8 (jz (cM_X1 68 (jz (jup (jz (jz (jz (cM_X9 60 (jz (cM_X1 52 (jz (cM_X4 40 (jz (cM_X10 (jz (cM_X2 (jz (cMt (jz (cM_X7 (jz (jup (jup (jup M 0 0 0) 0 1 0) 0 2 1) 1)) 9)) 12)) 33)) 40)) 52)) 60)) 65) 66) 67) 0 13 0) 68)) 76)) 79)) 82)) 86)) 89)) 92)) 104)) 112)) 117)) 129)) 137)) 142) w64) okc_X4 (And.intro (Nat.le_of_ble_eq_true rfl) (Nat.le_of_ble_eq_true rfl)) lm_X11_52 rfl (And.intro (Nat.le_of_ble_eq_true rfl) (Nat.le_of_ble_eq_true rfl)) (And.intro (jvo_lt (by omega)) (And.intro True.intro True.intro)) (And.intro (jvo_lt (by omega)) (And.intro True.intro (And.intro (jvo_lt (by omega)) True.intro))) rfl (Nat.le_of_ble_eq_true rfl) d_X11_init_215 (fun ad43 h43 => ?_)
  have g43 := g42.tr h43 (by omega)
  have s43 := s42.ag h43
  have w65 := cw_X4 142 (jzr (jsr (cR_X9 137 (jzr (jsr (cR_X1 129 (jzr (jsr (cR_X4 117 (jzr (jsr (cR_X9 112 (jzr (jsr (cR_X1 104 (jzr (jsr (cR_X4 92 (jzr (jsr (cR_X0 89 (jzr (jsr (cR_X0 86 (jzr (jsr (cR_X3 (jzr (jsr (cR_X5 (jzr (jsr (cR_X8 (jzr (jsr (cR_X1 68 (jzr (jsr (jzr (jsr (jzr (jsr (jzr (jsr (cR_X9 60 (jzr (jsr (cR_X1 52 (jzr (jsr (cR_X4 40 (jzr (jsr (cR_X10 (jzr (jsr (cR_X2 (jzr (jsr (cR_X6 (jzr (jsr (cR_X7 (jzr ρ 1)) 0 3 1) 9)) 0 4 9) 12)) 0 5 12) 33)) 0 6 33) 40)) 0 7 40) 52)) 0 8 52) 60)) 0 9 60) 65) 0 10 65) 66) 0 11 66) 67) 0 12 67) 68)) 0 14 68) 76)) 0 15 76) 79)) 0 16 79) 82)) 0 17 82) 86)) 0 18 86) 89)) 0 19 89) 92)) 65 (jw 0).toNat 92) 104)) 66 (jw 0).toNat 104) 112)) 67 (jw 0).toNat 112) 117)) 65 (jw 1).toNat 117) 129)) 66 (jw 1).toNat 129) 137)) 67 (jw 1).toNat 137) 142) w64
  refine jo_aastq (t := 4) (N := 3) (ci := 4) rfl (by decide) (And.intro (by omega) (by decide +kernel : jG 65 = (5, 3))) (And.intro (by omega) (by decide +kernel : jG 142 = (0, 4))) rfl (by decide) d_X11_init_218 ?_
  have w66 := jwf_set (a := 65) (k := (jw 2).toNat) (b := 142) w65 (by omega) (by decide)
  refine jo_aload 0 d_X11_init_219 rfl rfl ?_
  refine jo_getR (k := 11) cl_11 (Nat.le_of_ble_eq_true rfl) lk_X11_75 rfl (And.intro (by omega) (by decide +kernel : jG 0 = (0, 11))) (b := 66) (by simp [jsr, jzr, cR_X0, cR_X1, cR_X10, cR_X2, cR_X3, cR_X4, cR_X5, cR_X6, cR_X7, cR_X8, cR_X9]) d_X11_init_220 ?_
  refine jo_iload 1 d_X11_init_223 rfl rfl ?_
  refine jo_new (a0 := 0) cl_1 fd_1 (by decide +kernel : jG 154 = (0, 1)) (by omega) (by omega) w66 lc_X11_57 it_X1 iz_X1 (And.intro (jvo_lt (by omega)) (And.intro True.intro True.intro)) (And.intro True.intro (And.intro (jvo_lt (by omega)) True.intro)) (And.intro (Nat.le_of_ble_eq_true rfl) (Nat.le_of_ble_eq_true rfl)) d_X11_init_224 (fun ad44 h44 => ?_)
  have g44 := g43.tr h44 (by omega)
  have s44 := s43.ag h44
  have w67 := jwf_new w66
  refine jo_dup d_X11_init_227 rfl ?_
  refine jo_callCN (st := [.ref 154, ji 2, .ref 66]) s44 (c_X1 154 (And.intro (Nat.le_of_ble_eq_true rfl) (by decide +kernel)) (jzr (jsr (cR_X4 142 (jzr (jsr (cR_X9 137 (jzr (jsr (cR_X1 129 (jzr (jsr (cR_X4 117 (jzr (jsr (cR_X9 112 (jzr (jsr (cR_X1 104 (jzr (jsr (cR_X4 92 (jzr (jsr (cR_X0 89 (jzr (jsr (cR_X0 86 (jzr (jsr (cR_X3 (jzr (jsr (cR_X5 (jzr (jsr (cR_X8 (jzr (jsr (cR_X1 68 (jzr (jsr (jzr (jsr (jzr (jsr (jzr (jsr (cR_X9 60 (jzr (jsr (cR_X1 52 (jzr (jsr (cR_X4 40 (jzr (jsr (cR_X10 (jzr (jsr (cR_X2 (jzr (jsr (cR_X6 (jzr (jsr (cR_X7 (jzr ρ 1)) 0 3 1) 9)) 0 4 9) 12)) 0 5 12) 33)) 0 6 33) 40)) 0 7 40) 52)) 0 8 52) 60)) 0 9 60) 65) 0 10 65) 66) 0 11 66) 67) 0 12 67) 68)) 0 14 68) 76)) 0 15 76) 79)) 0 16 79) 82)) 0 17 82) 86)) 0 18 86) 89)) 0 19 89) 92)) 65 (jw 0).toNat 92) 104)) 66 (jw 0).toNat 104) 112)) 67 (jw 0).toNat 112) 117)) 65 (jw 1).toNat 117) 129)) 66 (jw 1).toNat 129) 137)) 67 (jw 1).toNat 137) 142)) 65 (jw 2).toNat 142) 154) (jz (cM_X4 142 (jz (cM_X9 137 (jz (cM_X1 129 (jz (cM_X4 117 (jz (cM_X9 112 (jz (cM_X1 104 (jz (cM_X4 92 (jz (cM_X0 89 (jz (cM_X0 86 (jz (cM_X3 (jz (cM_X5 (jz (cM_X8 (jz (cM_X1 68 (jz (jup (jz (jz (jz (cM_X9 60 (jz (cM_X1 52 (jz (cM_X4 40 (jz (cM_X10 (jz (cM_X2 (jz (cMt (jz (cM_X7 (jz (jup (jup (jup M 0 0 0) 0 1 0) 0 2 1) 1)) 9)) 12)) 33)) 40)) 52)) 60)) 65) 66) 67) 0 13 0) 68)) 76)) 79)) 82)) 86)) 89)) 92)) 104)) 112)) 117)) 129)) 137)) 142)) 154) w67) okc_X1 (And.intro (Nat.le_of_ble_eq_true rfl) (Nat.le_of_ble_eq_true rfl)) lm_X11_59 rfl (And.intro (Nat.le_of_ble_eq_true rfl) (Nat.le_of_ble_eq_true rfl)) (And.intro (jvo_lt (by omega)) (And.intro True.intro True.intro)) (And.intro (jvo_lt (by omega)) (And.intro True.intro (And.intro (jvo_lt (by omega)) True.intro))) rfl (Nat.le_of_ble_eq_true rfl) d_X11_init_228 (fun ad45 h45 => ?_)
  have g45 := g44.tr h45 (by omega)
  have s45 := s44.ag h45
  have w68 := cw_X1 154 (jzr (jsr (cR_X4 142 (jzr (jsr (cR_X9 137 (jzr (jsr (cR_X1 129 (jzr (jsr (cR_X4 117 (jzr (jsr (cR_X9 112 (jzr (jsr (cR_X1 104 (jzr (jsr (cR_X4 92 (jzr (jsr (cR_X0 89 (jzr (jsr (cR_X0 86 (jzr (jsr (cR_X3 (jzr (jsr (cR_X5 (jzr (jsr (cR_X8 (jzr (jsr (cR_X1 68 (jzr (jsr (jzr (jsr (jzr (jsr (jzr (jsr (cR_X9 60 (jzr (jsr (cR_X1 52 (jzr (jsr (cR_X4 40 (jzr (jsr (cR_X10 (jzr (jsr (cR_X2 (jzr (jsr (cR_X6 (jzr (jsr (cR_X7 (jzr ρ 1)) 0 3 1) 9)) 0 4 9) 12)) 0 5 12) 33)) 0 6 33) 40)) 0 7 40) 52)) 0 8 52) 60)) 0 9 60) 65) 0 10 65) 66) 0 11 66) 67) 0 12 67) 68)) 0 14 68) 76)) 0 15 76) 79)) 0 16 79) 82)) 0 17 82) 86)) 0 18 86) 89)) 0 19 89) 92)) 65 (jw 0).toNat 92) 104)) 66 (jw 0).toNat 104) 112)) 67 (jw 0).toNat 112) 117)) 65 (jw 1).toNat 117) 129)) 66 (jw 1).toNat 129) 137)) 67 (jw 1).toNat 137) 142)) 65 (jw 2).toNat 142) 154) w67
  refine jo_aastq (t := 5) (N := 3) (ci := 1) rfl (by decide) (And.intro (by omega) (by decide +kernel : jG 66 = (6, 3))) (And.intro (by omega) (by decide +kernel : jG 154 = (0, 1))) rfl (by decide) d_X11_init_231 ?_
  have w69 := jwf_set (a := 66) (k := (jw 2).toNat) (b := 154) w68 (by omega) (by decide)
  refine jo_aload 0 d_X11_init_232 rfl rfl ?_
  refine jo_getR (k := 12) cl_11 (Nat.le_of_ble_eq_true rfl) lk_X11_79 rfl (And.intro (by omega) (by decide +kernel : jG 0 = (0, 11))) (b := 67) (by simp [jsr, jzr, cR_X0, cR_X1, cR_X10, cR_X2, cR_X3, cR_X4, cR_X5, cR_X6, cR_X7, cR_X8, cR_X9]) d_X11_init_233 ?_
  refine jo_iload 1 d_X11_init_236 rfl rfl ?_
  refine jo_new (a0 := 0) cl_9 fd_9 (by decide +kernel : jG 162 = (0, 9)) (by omega) (by omega) w69 lc_X11_64 it_X9 iz_X9 (And.intro (jvo_lt (by omega)) (And.intro True.intro True.intro)) (And.intro True.intro (And.intro (jvo_lt (by omega)) True.intro)) (And.intro (Nat.le_of_ble_eq_true rfl) (Nat.le_of_ble_eq_true rfl)) d_X11_init_237 (fun ad46 h46 => ?_)
  have g46 := g45.tr h46 (by omega)
  have s46 := s45.ag h46
  have w70 := jwf_new w69
  refine jo_dup d_X11_init_240 rfl ?_
  refine jo_callCN (st := [.ref 162, ji 2, .ref 67]) s46 (c_X9 162 (And.intro (Nat.le_of_ble_eq_true rfl) (by decide +kernel)) (jzr (jsr (cR_X1 154 (jzr (jsr (cR_X4 142 (jzr (jsr (cR_X9 137 (jzr (jsr (cR_X1 129 (jzr (jsr (cR_X4 117 (jzr (jsr (cR_X9 112 (jzr (jsr (cR_X1 104 (jzr (jsr (cR_X4 92 (jzr (jsr (cR_X0 89 (jzr (jsr (cR_X0 86 (jzr (jsr (cR_X3 (jzr (jsr (cR_X5 (jzr (jsr (cR_X8 (jzr (jsr (cR_X1 68 (jzr (jsr (jzr (jsr (jzr (jsr (jzr (jsr (cR_X9 60 (jzr (jsr (cR_X1 52 (jzr (jsr (cR_X4 40 (jzr (jsr (cR_X10 (jzr (jsr (cR_X2 (jzr (jsr (cR_X6 (jzr (jsr (cR_X7 (jzr ρ 1)) 0 3 1) 9)) 0 4 9) 12)) 0 5 12) 33)) 0 6 33) 40)) 0 7 40) 52)) 0 8 52) 60)) 0 9 60) 65) 0 10 65) 66) 0 11 66) 67) 0 12 67) 68)) 0 14 68) 76)) 0 15 76) 79)) 0 16 79) 82)) 0 17 82) 86)) 0 18 86) 89)) 0 19 89) 92)) 65 (jw 0).toNat 92) 104)) 66 (jw 0).toNat 104) 112)) 67 (jw 0).toNat 112) 117)) 65 (jw 1).toNat 117) 129)) 66 (jw 1).toNat 129) 137)) 67 (jw 1).toNat 137) 142)) 65 (jw 2).toNat 142) 154)) 66 (jw 2).toNat 154) 162) (jz (cM_X1 154 (jz (cM_X4 142 (jz (cM_X9 137 (jz (cM_X1 129 (jz (cM_X4 117 (jz (cM_X9 112 (jz (cM_X1 104 (jz (cM_X4 92 (jz (cM_X0 89 (jz (cM_X0 86 (jz (cM_X3 (jz (cM_X5 (jz (cM_X8 (jz (cM_X1 68 (jz (jup (jz (jz (jz (cM_X9 60 (jz (cM_X1 52 (jz (cM_X4 40 (jz (cM_X10 (jz (cM_X2 (jz (cMt (jz (cM_X7 (jz (jup (jup (jup M 0 0 0) 0 1 0) 0 2 1) 1)) 9)) 12)) 33)) 40)) 52)) 60)) 65) 66) 67) 0 13 0) 68)) 76)) 79)) 82)) 86)) 89)) 92)) 104)) 112)) 117)) 129)) 137)) 142)) 154)) 162) w70) okc_X9 (And.intro (Nat.le_of_ble_eq_true rfl) (Nat.le_of_ble_eq_true rfl)) lm_X11_66 rfl (And.intro (Nat.le_of_ble_eq_true rfl) (Nat.le_of_ble_eq_true rfl)) (And.intro (jvo_lt (by omega)) (And.intro True.intro True.intro)) (And.intro (jvo_lt (by omega)) (And.intro True.intro (And.intro (jvo_lt (by omega)) True.intro))) rfl (Nat.le_of_ble_eq_true rfl) d_X11_init_241 (fun ad47 h47 => ?_)
  have g47 := g46.tr h47 (by omega)
  have s47 := s46.ag h47
  have w71 := cw_X9 162 (jzr (jsr (cR_X1 154 (jzr (jsr (cR_X4 142 (jzr (jsr (cR_X9 137 (jzr (jsr (cR_X1 129 (jzr (jsr (cR_X4 117 (jzr (jsr (cR_X9 112 (jzr (jsr (cR_X1 104 (jzr (jsr (cR_X4 92 (jzr (jsr (cR_X0 89 (jzr (jsr (cR_X0 86 (jzr (jsr (cR_X3 (jzr (jsr (cR_X5 (jzr (jsr (cR_X8 (jzr (jsr (cR_X1 68 (jzr (jsr (jzr (jsr (jzr (jsr (jzr (jsr (cR_X9 60 (jzr (jsr (cR_X1 52 (jzr (jsr (cR_X4 40 (jzr (jsr (cR_X10 (jzr (jsr (cR_X2 (jzr (jsr (cR_X6 (jzr (jsr (cR_X7 (jzr ρ 1)) 0 3 1) 9)) 0 4 9) 12)) 0 5 12) 33)) 0 6 33) 40)) 0 7 40) 52)) 0 8 52) 60)) 0 9 60) 65) 0 10 65) 66) 0 11 66) 67) 0 12 67) 68)) 0 14 68) 76)) 0 15 76) 79)) 0 16 79) 82)) 0 17 82) 86)) 0 18 86) 89)) 0 19 89) 92)) 65 (jw 0).toNat 92) 104)) 66 (jw 0).toNat 104) 112)) 67 (jw 0).toNat 112) 117)) 65 (jw 1).toNat 117) 129)) 66 (jw 1).toNat 129) 137)) 67 (jw 1).toNat 137) 142)) 65 (jw 2).toNat 142) 154)) 66 (jw 2).toNat 154) 162) w70
  refine jo_aastq (t := 6) (N := 3) (ci := 9) rfl (by decide) (And.intro (by omega) (by decide +kernel : jG 67 = (7, 3))) (And.intro (by omega) (by decide +kernel : jG 162 = (0, 9))) rfl (by decide) d_X11_init_244 ?_
  have w72 := jwf_set (a := 67) (k := (jw 2).toNat) (b := 162) w71 (by omega) (by decide)
  refine jo_iincC 1 d_X11_init_245 rfl (Nat.le_of_ble_eq_true rfl) ?_
  refine jo_goto 201 d_X11_init_248 (by decide) ?_
  refine jo_iload 1 d_X11_init_201 rfl rfl ?_
  refine jo_iconst 3 d_X11_init_202 ?_
  refine jo_take (P := jw (3) ≤ jw (3)) (by decide) ?_
  refine jo_icmp_ge 251 d_X11_init_203 (by decide) ?_ jO.none
  exact jo_cret g47 rfl d_X11_init_251 (And.intro (Nat.le_refl _) (Nat.le_refl _))
theorem cw_X11 (ρ : JRho) (w0 : jwf 1 ρ) : jwf 167 (cR_X11 ρ) := by
  unfold cR_X11
  have w1 := jwf_new w0
  have w2 := cw_X7 (jzr ρ 1) w1
  have w3 := jwf_set (a := 0) (k := 3) (b := 1) w2 (by omega) (by decide)
  have w4 := jwf_new w3
  have w5 := cw_X6 (jzr (jsr (cR_X7 (jzr ρ 1)) 0 3 1) 9) w4
  have w6 := jwf_set (a := 0) (k := 4) (b := 9) w5 (by omega) (by decide)
  have w7 := jwf_new w6
  have w8 := cw_X2 (jzr (jsr (cR_X6 (jzr (jsr (cR_X7 (jzr ρ 1)) 0 3 1) 9)) 0 4 9) 12) w7
  have w9 := jwf_set (a := 0) (k := 5) (b := 12) w8 (by omega) (by decide)
  have w10 := jwf_new w9
  have w11 := cw_X10 (jzr (jsr (cR_X2 (jzr (jsr (cR_X6 (jzr (jsr (cR_X7 (jzr ρ 1)) 0 3 1) 9)) 0 4 9) 12)) 0 5 12) 33) w10
  have w12 := jwf_set (a := 0) (k := 6) (b := 33) w11 (by omega) (by decide)
  have w13 := jwf_new w12
  have w14 := cw_X4 40 (jzr (jsr (cR_X10 (jzr (jsr (cR_X2 (jzr (jsr (cR_X6 (jzr (jsr (cR_X7 (jzr ρ 1)) 0 3 1) 9)) 0 4 9) 12)) 0 5 12) 33)) 0 6 33) 40) w13
  have w15 := jwf_set (a := 0) (k := 7) (b := 40) w14 (by omega) (by decide)
  have w16 := jwf_new w15
  have w17 := cw_X1 52 (jzr (jsr (cR_X4 40 (jzr (jsr (cR_X10 (jzr (jsr (cR_X2 (jzr (jsr (cR_X6 (jzr (jsr (cR_X7 (jzr ρ 1)) 0 3 1) 9)) 0 4 9) 12)) 0 5 12) 33)) 0 6 33) 40)) 0 7 40) 52) w16
  have w18 := jwf_set (a := 0) (k := 8) (b := 52) w17 (by omega) (by decide)
  have w19 := jwf_new w18
  have w20 := cw_X9 60 (jzr (jsr (cR_X1 52 (jzr (jsr (cR_X4 40 (jzr (jsr (cR_X10 (jzr (jsr (cR_X2 (jzr (jsr (cR_X6 (jzr (jsr (cR_X7 (jzr ρ 1)) 0 3 1) 9)) 0 4 9) 12)) 0 5 12) 33)) 0 6 33) 40)) 0 7 40) 52)) 0 8 52) 60) w19
  have w21 := jwf_set (a := 0) (k := 9) (b := 60) w20 (by omega) (by decide)
  have w22 := jwf_new w21
  have w23 := jwf_set (a := 0) (k := 10) (b := 65) w22 (by omega) (by decide)
  have w24 := jwf_new w23
  have w25 := jwf_set (a := 0) (k := 11) (b := 66) w24 (by omega) (by decide)
  have w26 := jwf_new w25
  have w27 := jwf_set (a := 0) (k := 12) (b := 67) w26 (by omega) (by decide)
  have w28 := jwf_new w27
  have w29 := cw_X1 68 (jzr (jsr (jzr (jsr (jzr (jsr (jzr (jsr (cR_X9 60 (jzr (jsr (cR_X1 52 (jzr (jsr (cR_X4 40 (jzr (jsr (cR_X10 (jzr (jsr (cR_X2 (jzr (jsr (cR_X6 (jzr (jsr (cR_X7 (jzr ρ 1)) 0 3 1) 9)) 0 4 9) 12)) 0 5 12) 33)) 0 6 33) 40)) 0 7 40) 52)) 0 8 52) 60)) 0 9 60) 65) 0 10 65) 66) 0 11 66) 67) 0 12 67) 68) w28
  have w30 := jwf_set (a := 0) (k := 14) (b := 68) w29 (by omega) (by decide)
  have w31 := jwf_new w30
  have w32 := cw_X8 (jzr (jsr (cR_X1 68 (jzr (jsr (jzr (jsr (jzr (jsr (jzr (jsr (cR_X9 60 (jzr (jsr (cR_X1 52 (jzr (jsr (cR_X4 40 (jzr (jsr (cR_X10 (jzr (jsr (cR_X2 (jzr (jsr (cR_X6 (jzr (jsr (cR_X7 (jzr ρ 1)) 0 3 1) 9)) 0 4 9) 12)) 0 5 12) 33)) 0 6 33) 40)) 0 7 40) 52)) 0 8 52) 60)) 0 9 60) 65) 0 10 65) 66) 0 11 66) 67) 0 12 67) 68)) 0 14 68) 76) w31
  have w33 := jwf_set (a := 0) (k := 15) (b := 76) w32 (by omega) (by decide)
  have w34 := jwf_new w33
  have w35 := cw_X5 (jzr (jsr (cR_X8 (jzr (jsr (cR_X1 68 (jzr (jsr (jzr (jsr (jzr (jsr (jzr (jsr (cR_X9 60 (jzr (jsr (cR_X1 52 (jzr (jsr (cR_X4 40 (jzr (jsr (cR_X10 (jzr (jsr (cR_X2 (jzr (jsr (cR_X6 (jzr (jsr (cR_X7 (jzr ρ 1)) 0 3 1) 9)) 0 4 9) 12)) 0 5 12) 33)) 0 6 33) 40)) 0 7 40) 52)) 0 8 52) 60)) 0 9 60) 65) 0 10 65) 66) 0 11 66) 67) 0 12 67) 68)) 0 14 68) 76)) 0 15 76) 79) w34
  have w36 := jwf_set (a := 0) (k := 16) (b := 79) w35 (by omega) (by decide)
  have w37 := jwf_new w36
  have w38 := cw_X3 (jzr (jsr (cR_X5 (jzr (jsr (cR_X8 (jzr (jsr (cR_X1 68 (jzr (jsr (jzr (jsr (jzr (jsr (jzr (jsr (cR_X9 60 (jzr (jsr (cR_X1 52 (jzr (jsr (cR_X4 40 (jzr (jsr (cR_X10 (jzr (jsr (cR_X2 (jzr (jsr (cR_X6 (jzr (jsr (cR_X7 (jzr ρ 1)) 0 3 1) 9)) 0 4 9) 12)) 0 5 12) 33)) 0 6 33) 40)) 0 7 40) 52)) 0 8 52) 60)) 0 9 60) 65) 0 10 65) 66) 0 11 66) 67) 0 12 67) 68)) 0 14 68) 76)) 0 15 76) 79)) 0 16 79) 82) w37
  have w39 := jwf_set (a := 0) (k := 17) (b := 82) w38 (by omega) (by decide)
  have w40 := jwf_new w39
  have w41 := cw_X0 86 (jzr (jsr (cR_X3 (jzr (jsr (cR_X5 (jzr (jsr (cR_X8 (jzr (jsr (cR_X1 68 (jzr (jsr (jzr (jsr (jzr (jsr (jzr (jsr (cR_X9 60 (jzr (jsr (cR_X1 52 (jzr (jsr (cR_X4 40 (jzr (jsr (cR_X10 (jzr (jsr (cR_X2 (jzr (jsr (cR_X6 (jzr (jsr (cR_X7 (jzr ρ 1)) 0 3 1) 9)) 0 4 9) 12)) 0 5 12) 33)) 0 6 33) 40)) 0 7 40) 52)) 0 8 52) 60)) 0 9 60) 65) 0 10 65) 66) 0 11 66) 67) 0 12 67) 68)) 0 14 68) 76)) 0 15 76) 79)) 0 16 79) 82)) 0 17 82) 86) w40
  have w42 := jwf_set (a := 0) (k := 18) (b := 86) w41 (by omega) (by decide)
  have w43 := jwf_new w42
  have w44 := cw_X0 89 (jzr (jsr (cR_X0 86 (jzr (jsr (cR_X3 (jzr (jsr (cR_X5 (jzr (jsr (cR_X8 (jzr (jsr (cR_X1 68 (jzr (jsr (jzr (jsr (jzr (jsr (jzr (jsr (cR_X9 60 (jzr (jsr (cR_X1 52 (jzr (jsr (cR_X4 40 (jzr (jsr (cR_X10 (jzr (jsr (cR_X2 (jzr (jsr (cR_X6 (jzr (jsr (cR_X7 (jzr ρ 1)) 0 3 1) 9)) 0 4 9) 12)) 0 5 12) 33)) 0 6 33) 40)) 0 7 40) 52)) 0 8 52) 60)) 0 9 60) 65) 0 10 65) 66) 0 11 66) 67) 0 12 67) 68)) 0 14 68) 76)) 0 15 76) 79)) 0 16 79) 82)) 0 17 82) 86)) 0 18 86) 89) w43
  have w45 := jwf_set (a := 0) (k := 19) (b := 89) w44 (by omega) (by decide)
  have w46 := jwf_new w45
  have w47 := cw_X4 92 (jzr (jsr (cR_X0 89 (jzr (jsr (cR_X0 86 (jzr (jsr (cR_X3 (jzr (jsr (cR_X5 (jzr (jsr (cR_X8 (jzr (jsr (cR_X1 68 (jzr (jsr (jzr (jsr (jzr (jsr (jzr (jsr (cR_X9 60 (jzr (jsr (cR_X1 52 (jzr (jsr (cR_X4 40 (jzr (jsr (cR_X10 (jzr (jsr (cR_X2 (jzr (jsr (cR_X6 (jzr (jsr (cR_X7 (jzr ρ 1)) 0 3 1) 9)) 0 4 9) 12)) 0 5 12) 33)) 0 6 33) 40)) 0 7 40) 52)) 0 8 52) 60)) 0 9 60) 65) 0 10 65) 66) 0 11 66) 67) 0 12 67) 68)) 0 14 68) 76)) 0 15 76) 79)) 0 16 79) 82)) 0 17 82) 86)) 0 18 86) 89)) 0 19 89) 92) w46
  have w48 := jwf_set (a := 65) (k := (jw 0).toNat) (b := 92) w47 (by omega) (by decide)
  have w49 := jwf_new w48
  have w50 := cw_X1 104 (jzr (jsr (cR_X4 92 (jzr (jsr (cR_X0 89 (jzr (jsr (cR_X0 86 (jzr (jsr (cR_X3 (jzr (jsr (cR_X5 (jzr (jsr (cR_X8 (jzr (jsr (cR_X1 68 (jzr (jsr (jzr (jsr (jzr (jsr (jzr (jsr (cR_X9 60 (jzr (jsr (cR_X1 52 (jzr (jsr (cR_X4 40 (jzr (jsr (cR_X10 (jzr (jsr (cR_X2 (jzr (jsr (cR_X6 (jzr (jsr (cR_X7 (jzr ρ 1)) 0 3 1) 9)) 0 4 9) 12)) 0 5 12) 33)) 0 6 33) 40)) 0 7 40) 52)) 0 8 52) 60)) 0 9 60) 65) 0 10 65) 66) 0 11 66) 67) 0 12 67) 68)) 0 14 68) 76)) 0 15 76) 79)) 0 16 79) 82)) 0 17 82) 86)) 0 18 86) 89)) 0 19 89) 92)) 65 (jw 0).toNat 92) 104) w49
  have w51 := jwf_set (a := 66) (k := (jw 0).toNat) (b := 104) w50 (by omega) (by decide)
  have w52 := jwf_new w51
  have w53 := cw_X9 112 (jzr (jsr (cR_X1 104 (jzr (jsr (cR_X4 92 (jzr (jsr (cR_X0 89 (jzr (jsr (cR_X0 86 (jzr (jsr (cR_X3 (jzr (jsr (cR_X5 (jzr (jsr (cR_X8 (jzr (jsr (cR_X1 68 (jzr (jsr (jzr (jsr (jzr (jsr (jzr (jsr (cR_X9 60 (jzr (jsr (cR_X1 52 (jzr (jsr (cR_X4 40 (jzr (jsr (cR_X10 (jzr (jsr (cR_X2 (jzr (jsr (cR_X6 (jzr (jsr (cR_X7 (jzr ρ 1)) 0 3 1) 9)) 0 4 9) 12)) 0 5 12) 33)) 0 6 33) 40)) 0 7 40) 52)) 0 8 52) 60)) 0 9 60) 65) 0 10 65) 66) 0 11 66) 67) 0 12 67) 68)) 0 14 68) 76)) 0 15 76) 79)) 0 16 79) 82)) 0 17 82) 86)) 0 18 86) 89)) 0 19 89) 92)) 65 (jw 0).toNat 92) 104)) 66 (jw 0).toNat 104) 112) w52
  have w54 := jwf_set (a := 67) (k := (jw 0).toNat) (b := 112) w53 (by omega) (by decide)
  have w55 := jwf_new w54
  have w56 := cw_X4 117 (jzr (jsr (cR_X9 112 (jzr (jsr (cR_X1 104 (jzr (jsr (cR_X4 92 (jzr (jsr (cR_X0 89 (jzr (jsr (cR_X0 86 (jzr (jsr (cR_X3 (jzr (jsr (cR_X5 (jzr (jsr (cR_X8 (jzr (jsr (cR_X1 68 (jzr (jsr (jzr (jsr (jzr (jsr (jzr (jsr (cR_X9 60 (jzr (jsr (cR_X1 52 (jzr (jsr (cR_X4 40 (jzr (jsr (cR_X10 (jzr (jsr (cR_X2 (jzr (jsr (cR_X6 (jzr (jsr (cR_X7 (jzr ρ 1)) 0 3 1) 9)) 0 4 9) 12)) 0 5 12) 33)) 0 6 33) 40)) 0 7 40) 52)) 0 8 52) 60)) 0 9 60) 65) 0 10 65) 66) 0 11 66) 67) 0 12 67) 68)) 0 14 68) 76)) 0 15 76) 79)) 0 16 79) 82)) 0 17 82) 86)) 0 18 86) 89)) 0 19 89) 92)) 65 (jw 0).toNat 92) 104)) 66 (jw 0).toNat 104) 112)) 67 (jw 0).toNat 112) 117) w55
  have w57 := jwf_set (a := 65) (k := (jw 1).toNat) (b := 117) w56 (by omega) (by decide)
  have w58 := jwf_new w57
  have w59 := cw_X1 129 (jzr (jsr (cR_X4 117 (jzr (jsr (cR_X9 112 (jzr (jsr (cR_X1 104 (jzr (jsr (cR_X4 92 (jzr (jsr (cR_X0 89 (jzr (jsr (cR_X0 86 (jzr (jsr (cR_X3 (jzr (jsr (cR_X5 (jzr (jsr (cR_X8 (jzr (jsr (cR_X1 68 (jzr (jsr (jzr (jsr (jzr (jsr (jzr (jsr (cR_X9 60 (jzr (jsr (cR_X1 52 (jzr (jsr (cR_X4 40 (jzr (jsr (cR_X10 (jzr (jsr (cR_X2 (jzr (jsr (cR_X6 (jzr (jsr (cR_X7 (jzr ρ 1)) 0 3 1) 9)) 0 4 9) 12)) 0 5 12) 33)) 0 6 33) 40)) 0 7 40) 52)) 0 8 52) 60)) 0 9 60) 65) 0 10 65) 66) 0 11 66) 67) 0 12 67) 68)) 0 14 68) 76)) 0 15 76) 79)) 0 16 79) 82)) 0 17 82) 86)) 0 18 86) 89)) 0 19 89) 92)) 65 (jw 0).toNat 92) 104)) 66 (jw 0).toNat 104) 112)) 67 (jw 0).toNat 112) 117)) 65 (jw 1).toNat 117) 129) w58
  have w60 := jwf_set (a := 66) (k := (jw 1).toNat) (b := 129) w59 (by omega) (by decide)
  have w61 := jwf_new w60
  have w62 := cw_X9 137 (jzr (jsr (cR_X1 129 (jzr (jsr (cR_X4 117 (jzr (jsr (cR_X9 112 (jzr (jsr (cR_X1 104 (jzr (jsr (cR_X4 92 (jzr (jsr (cR_X0 89 (jzr (jsr (cR_X0 86 (jzr (jsr (cR_X3 (jzr (jsr (cR_X5 (jzr (jsr (cR_X8 (jzr (jsr (cR_X1 68 (jzr (jsr (jzr (jsr (jzr (jsr (jzr (jsr (cR_X9 60 (jzr (jsr (cR_X1 52 (jzr (jsr (cR_X4 40 (jzr (jsr (cR_X10 (jzr (jsr (cR_X2 (jzr (jsr (cR_X6 (jzr (jsr (cR_X7 (jzr ρ 1)) 0 3 1) 9)) 0 4 9) 12)) 0 5 12) 33)) 0 6 33) 40)) 0 7 40) 52)) 0 8 52) 60)) 0 9 60) 65) 0 10 65) 66) 0 11 66) 67) 0 12 67) 68)) 0 14 68) 76)) 0 15 76) 79)) 0 16 79) 82)) 0 17 82) 86)) 0 18 86) 89)) 0 19 89) 92)) 65 (jw 0).toNat 92) 104)) 66 (jw 0).toNat 104) 112)) 67 (jw 0).toNat 112) 117)) 65 (jw 1).toNat 117) 129)) 66 (jw 1).toNat 129) 137) w61
  have w63 := jwf_set (a := 67) (k := (jw 1).toNat) (b := 137) w62 (by omega) (by decide)
  have w64 := jwf_new w63
  have w65 := cw_X4 142 (jzr (jsr (cR_X9 137 (jzr (jsr (cR_X1 129 (jzr (jsr (cR_X4 117 (jzr (jsr (cR_X9 112 (jzr (jsr (cR_X1 104 (jzr (jsr (cR_X4 92 (jzr (jsr (cR_X0 89 (jzr (jsr (cR_X0 86 (jzr (jsr (cR_X3 (jzr (jsr (cR_X5 (jzr (jsr (cR_X8 (jzr (jsr (cR_X1 68 (jzr (jsr (jzr (jsr (jzr (jsr (jzr (jsr (cR_X9 60 (jzr (jsr (cR_X1 52 (jzr (jsr (cR_X4 40 (jzr (jsr (cR_X10 (jzr (jsr (cR_X2 (jzr (jsr (cR_X6 (jzr (jsr (cR_X7 (jzr ρ 1)) 0 3 1) 9)) 0 4 9) 12)) 0 5 12) 33)) 0 6 33) 40)) 0 7 40) 52)) 0 8 52) 60)) 0 9 60) 65) 0 10 65) 66) 0 11 66) 67) 0 12 67) 68)) 0 14 68) 76)) 0 15 76) 79)) 0 16 79) 82)) 0 17 82) 86)) 0 18 86) 89)) 0 19 89) 92)) 65 (jw 0).toNat 92) 104)) 66 (jw 0).toNat 104) 112)) 67 (jw 0).toNat 112) 117)) 65 (jw 1).toNat 117) 129)) 66 (jw 1).toNat 129) 137)) 67 (jw 1).toNat 137) 142) w64
  have w66 := jwf_set (a := 65) (k := (jw 2).toNat) (b := 142) w65 (by omega) (by decide)
  have w67 := jwf_new w66
  have w68 := cw_X1 154 (jzr (jsr (cR_X4 142 (jzr (jsr (cR_X9 137 (jzr (jsr (cR_X1 129 (jzr (jsr (cR_X4 117 (jzr (jsr (cR_X9 112 (jzr (jsr (cR_X1 104 (jzr (jsr (cR_X4 92 (jzr (jsr (cR_X0 89 (jzr (jsr (cR_X0 86 (jzr (jsr (cR_X3 (jzr (jsr (cR_X5 (jzr (jsr (cR_X8 (jzr (jsr (cR_X1 68 (jzr (jsr (jzr (jsr (jzr (jsr (jzr (jsr (cR_X9 60 (jzr (jsr (cR_X1 52 (jzr (jsr (cR_X4 40 (jzr (jsr (cR_X10 (jzr (jsr (cR_X2 (jzr (jsr (cR_X6 (jzr (jsr (cR_X7 (jzr ρ 1)) 0 3 1) 9)) 0 4 9) 12)) 0 5 12) 33)) 0 6 33) 40)) 0 7 40) 52)) 0 8 52) 60)) 0 9 60) 65) 0 10 65) 66) 0 11 66) 67) 0 12 67) 68)) 0 14 68) 76)) 0 15 76) 79)) 0 16 79) 82)) 0 17 82) 86)) 0 18 86) 89)) 0 19 89) 92)) 65 (jw 0).toNat 92) 104)) 66 (jw 0).toNat 104) 112)) 67 (jw 0).toNat 112) 117)) 65 (jw 1).toNat 117) 129)) 66 (jw 1).toNat 129) 137)) 67 (jw 1).toNat 137) 142)) 65 (jw 2).toNat 142) 154) w67
  have w69 := jwf_set (a := 66) (k := (jw 2).toNat) (b := 154) w68 (by omega) (by decide)
  have w70 := jwf_new w69
  have w71 := cw_X9 162 (jzr (jsr (cR_X1 154 (jzr (jsr (cR_X4 142 (jzr (jsr (cR_X9 137 (jzr (jsr (cR_X1 129 (jzr (jsr (cR_X4 117 (jzr (jsr (cR_X9 112 (jzr (jsr (cR_X1 104 (jzr (jsr (cR_X4 92 (jzr (jsr (cR_X0 89 (jzr (jsr (cR_X0 86 (jzr (jsr (cR_X3 (jzr (jsr (cR_X5 (jzr (jsr (cR_X8 (jzr (jsr (cR_X1 68 (jzr (jsr (jzr (jsr (jzr (jsr (jzr (jsr (cR_X9 60 (jzr (jsr (cR_X1 52 (jzr (jsr (cR_X4 40 (jzr (jsr (cR_X10 (jzr (jsr (cR_X2 (jzr (jsr (cR_X6 (jzr (jsr (cR_X7 (jzr ρ 1)) 0 3 1) 9)) 0 4 9) 12)) 0 5 12) 33)) 0 6 33) 40)) 0 7 40) 52)) 0 8 52) 60)) 0 9 60) 65) 0 10 65) 66) 0 11 66) 67) 0 12 67) 68)) 0 14 68) 76)) 0 15 76) 79)) 0 16 79) 82)) 0 17 82) 86)) 0 18 86) 89)) 0 19 89) 92)) 65 (jw 0).toNat 92) 104)) 66 (jw 0).toNat 104) 112)) 67 (jw 0).toNat 112) 117)) 65 (jw 1).toNat 117) 129)) 66 (jw 1).toNat 129) 137)) 67 (jw 1).toNat 137) 142)) 65 (jw 2).toNat 142) 154)) 66 (jw 2).toNat 154) 162) w70
  have w72 := jwf_set (a := 67) (k := (jw 2).toNat) (b := 162) w71 (by omega) (by decide)
  exact w72
theorem lm_X12_1 : Cond.methodLink RX12 1 Lib.objectInit ∈ jTW := jTW_mem (k := 1371) (by decide +kernel) rfl
def D_X12_init : JD := (RX12, cX12_init, 1, none, "<init>", { frames := 1, cells := 18, slots := 6496, locals := 22 })
theorem okc_X12 : jOkC D_X12_init yX12_init 0 := ⟨⟨jTW_mem (k := 1370) (by decide +kernel) rfl, rfl⟩, jTW_mem (k := 151) (by decide +kernel) rfl, ⟨by decide +kernel, by decide +kernel⟩, by decide +kernel, rfl, jTW_mem (k := 1369) (by decide +kernel) rfl⟩
theorem d_X12_init_0 : decode (D_X12_init).2.1 0 = .ok (.aload_n 0, 1) := by decide +kernel
theorem d_X12_init_1 : decode (D_X12_init).2.1 1 = .ok (.invokespecial 1, 3) := by decide +kernel
theorem d_X12_init_4 : decode (D_X12_init).2.1 4 = .ok (.aload_n 0, 1) := by decide +kernel
theorem d_X12_init_5 : decode (D_X12_init).2.1 5 = .ok (.sipush 3160, 3) := by decide +kernel
theorem d_X12_init_8 : decode (D_X12_init).2.1 8 = .ok (.newarray .int, 2) := by decide +kernel
theorem d_X12_init_10 : decode (D_X12_init).2.1 10 = .ok (.putfield 7, 3) := by decide +kernel
theorem d_X12_init_13 : decode (D_X12_init).2.1 13 = .ok (.aload_n 0, 1) := by decide +kernel
theorem d_X12_init_14 : decode (D_X12_init).2.1 14 = .ok (.sipush 132, 3) := by decide +kernel
theorem d_X12_init_17 : decode (D_X12_init).2.1 17 = .ok (.newarray .long, 2) := by decide +kernel
theorem d_X12_init_19 : decode (D_X12_init).2.1 19 = .ok (.putfield 13, 3) := by decide +kernel
theorem d_X12_init_22 : decode (D_X12_init).2.1 22 = .ok (.aload_n 0, 1) := by decide +kernel
theorem d_X12_init_23 : decode (D_X12_init).2.1 23 = .ok (.lconst 1, 1) := by decide +kernel
theorem d_X12_init_24 : decode (D_X12_init).2.1 24 = .ok (.putfield 17, 3) := by decide +kernel
theorem d_X12_init_27 : decode (D_X12_init).2.1 27 = .ok (.aload_n 0, 1) := by decide +kernel
theorem d_X12_init_28 : decode (D_X12_init).2.1 28 = .ok (.iconst 4, 1) := by decide +kernel
theorem d_X12_init_29 : decode (D_X12_init).2.1 29 = .ok (.newarray .int, 2) := by decide +kernel
theorem d_X12_init_31 : decode (D_X12_init).2.1 31 = .ok (.putfield 21, 3) := by decide +kernel
theorem d_X12_init_34 : decode (D_X12_init).2.1 34 = .ok (.aload_n 0, 1) := by decide +kernel
theorem d_X12_init_35 : decode (D_X12_init).2.1 35 = .ok (.iconst 4, 1) := by decide +kernel
theorem d_X12_init_36 : decode (D_X12_init).2.1 36 = .ok (.newarray .int, 2) := by decide +kernel
theorem d_X12_init_38 : decode (D_X12_init).2.1 38 = .ok (.dup, 1) := by decide +kernel
theorem d_X12_init_39 : decode (D_X12_init).2.1 39 = .ok (.iconst 0, 1) := by decide +kernel
theorem d_X12_init_40 : decode (D_X12_init).2.1 40 = .ok (.iconst (-1), 1) := by decide +kernel
theorem d_X12_init_41 : decode (D_X12_init).2.1 41 = .ok (.iastore, 1) := by decide +kernel
theorem d_X12_init_42 : decode (D_X12_init).2.1 42 = .ok (.dup, 1) := by decide +kernel
theorem d_X12_init_43 : decode (D_X12_init).2.1 43 = .ok (.iconst 1, 1) := by decide +kernel
theorem d_X12_init_44 : decode (D_X12_init).2.1 44 = .ok (.iconst (-1), 1) := by decide +kernel
theorem d_X12_init_45 : decode (D_X12_init).2.1 45 = .ok (.iastore, 1) := by decide +kernel
theorem d_X12_init_46 : decode (D_X12_init).2.1 46 = .ok (.dup, 1) := by decide +kernel
theorem d_X12_init_47 : decode (D_X12_init).2.1 47 = .ok (.iconst 2, 1) := by decide +kernel
theorem d_X12_init_48 : decode (D_X12_init).2.1 48 = .ok (.iconst (-1), 1) := by decide +kernel
theorem d_X12_init_49 : decode (D_X12_init).2.1 49 = .ok (.iastore, 1) := by decide +kernel
theorem d_X12_init_50 : decode (D_X12_init).2.1 50 = .ok (.dup, 1) := by decide +kernel
theorem d_X12_init_51 : decode (D_X12_init).2.1 51 = .ok (.iconst 3, 1) := by decide +kernel
theorem d_X12_init_52 : decode (D_X12_init).2.1 52 = .ok (.iconst (-1), 1) := by decide +kernel
theorem d_X12_init_53 : decode (D_X12_init).2.1 53 = .ok (.iastore, 1) := by decide +kernel
theorem d_X12_init_54 : decode (D_X12_init).2.1 54 = .ok (.putfield 24, 3) := by decide +kernel
theorem d_X12_init_57 : decode (D_X12_init).2.1 57 = .ok (.aload_n 0, 1) := by decide +kernel
theorem d_X12_init_58 : decode (D_X12_init).2.1 58 = .ok (.sipush 240, 3) := by decide +kernel
theorem d_X12_init_61 : decode (D_X12_init).2.1 61 = .ok (.newarray .long, 2) := by decide +kernel
theorem d_X12_init_63 : decode (D_X12_init).2.1 63 = .ok (.putfield 27, 3) := by decide +kernel
theorem d_X12_init_66 : decode (D_X12_init).2.1 66 = .ok (.aload_n 0, 1) := by decide +kernel
theorem d_X12_init_67 : decode (D_X12_init).2.1 67 = .ok (.sipush 900, 3) := by decide +kernel
theorem d_X12_init_70 : decode (D_X12_init).2.1 70 = .ok (.newarray .byte, 2) := by decide +kernel
theorem d_X12_init_72 : decode (D_X12_init).2.1 72 = .ok (.putfield 30, 3) := by decide +kernel
theorem d_X12_init_75 : decode (D_X12_init).2.1 75 = .ok (.aload_n 0, 1) := by decide +kernel
theorem d_X12_init_76 : decode (D_X12_init).2.1 76 = .ok (.sipush 900, 3) := by decide +kernel
theorem d_X12_init_79 : decode (D_X12_init).2.1 79 = .ok (.newarray .byte, 2) := by decide +kernel
theorem d_X12_init_81 : decode (D_X12_init).2.1 81 = .ok (.putfield 34, 3) := by decide +kernel
theorem d_X12_init_84 : decode (D_X12_init).2.1 84 = .ok (.aload_n 0, 1) := by decide +kernel
theorem d_X12_init_85 : decode (D_X12_init).2.1 85 = .ok (.iconst (-1), 1) := by decide +kernel
theorem d_X12_init_86 : decode (D_X12_init).2.1 86 = .ok (.putfield 37, 3) := by decide +kernel
theorem d_X12_init_89 : decode (D_X12_init).2.1 89 = .ok (.aload_n 0, 1) := by decide +kernel
theorem d_X12_init_90 : decode (D_X12_init).2.1 90 = .ok (.iconst (-1), 1) := by decide +kernel
theorem d_X12_init_91 : decode (D_X12_init).2.1 91 = .ok (.putfield 41, 3) := by decide +kernel
theorem d_X12_init_94 : decode (D_X12_init).2.1 94 = .ok (.aload_n 0, 1) := by decide +kernel
theorem d_X12_init_95 : decode (D_X12_init).2.1 95 = .ok (.iconst 3, 1) := by decide +kernel
theorem d_X12_init_96 : decode (D_X12_init).2.1 96 = .ok (.newarray .int, 2) := by decide +kernel
theorem d_X12_init_98 : decode (D_X12_init).2.1 98 = .ok (.putfield 44, 3) := by decide +kernel
theorem d_X12_init_101 : decode (D_X12_init).2.1 101 = .ok (.aload_n 0, 1) := by decide +kernel
theorem d_X12_init_102 : decode (D_X12_init).2.1 102 = .ok (.sipush 520, 3) := by decide +kernel
theorem d_X12_init_105 : decode (D_X12_init).2.1 105 = .ok (.newarray .int, 2) := by decide +kernel
theorem d_X12_init_107 : decode (D_X12_init).2.1 107 = .ok (.putfield 47, 3) := by decide +kernel
theorem d_X12_init_110 : decode (D_X12_init).2.1 110 = .ok (.aload_n 0, 1) := by decide +kernel
theorem d_X12_init_111 : decode (D_X12_init).2.1 111 = .ok (.bipush 8, 2) := by decide +kernel
theorem d_X12_init_113 : decode (D_X12_init).2.1 113 = .ok (.newarray .int, 2) := by decide +kernel
theorem d_X12_init_115 : decode (D_X12_init).2.1 115 = .ok (.putfield 50, 3) := by decide +kernel
theorem d_X12_init_118 : decode (D_X12_init).2.1 118 = .ok (.aload_n 0, 1) := by decide +kernel
theorem d_X12_init_119 : decode (D_X12_init).2.1 119 = .ok (.bipush 8, 2) := by decide +kernel
theorem d_X12_init_121 : decode (D_X12_init).2.1 121 = .ok (.newarray .int, 2) := by decide +kernel
theorem d_X12_init_123 : decode (D_X12_init).2.1 123 = .ok (.putfield 53, 3) := by decide +kernel
theorem d_X12_init_126 : decode (D_X12_init).2.1 126 = .ok (.aload_n 0, 1) := by decide +kernel
theorem d_X12_init_127 : decode (D_X12_init).2.1 127 = .ok (.bipush 6, 2) := by decide +kernel
theorem d_X12_init_129 : decode (D_X12_init).2.1 129 = .ok (.newarray .int, 2) := by decide +kernel
theorem d_X12_init_131 : decode (D_X12_init).2.1 131 = .ok (.putfield 56, 3) := by decide +kernel
theorem d_X12_init_134 : decode (D_X12_init).2.1 134 = .ok (.aload_n 0, 1) := by decide +kernel
theorem d_X12_init_135 : decode (D_X12_init).2.1 135 = .ok (.bipush 9, 2) := by decide +kernel
theorem d_X12_init_137 : decode (D_X12_init).2.1 137 = .ok (.newarray .long, 2) := by decide +kernel
theorem d_X12_init_139 : decode (D_X12_init).2.1 139 = .ok (.putfield 59, 3) := by decide +kernel
theorem d_X12_init_142 : decode (D_X12_init).2.1 142 = .ok (.aload_n 0, 1) := by decide +kernel
theorem d_X12_init_143 : decode (D_X12_init).2.1 143 = .ok (.sipush 256, 3) := by decide +kernel
theorem d_X12_init_146 : decode (D_X12_init).2.1 146 = .ok (.newarray .int, 2) := by decide +kernel
theorem d_X12_init_148 : decode (D_X12_init).2.1 148 = .ok (.putfield 62, 3) := by decide +kernel
theorem d_X12_init_151 : decode (D_X12_init).2.1 151 = .ok (.aload_n 0, 1) := by decide +kernel
theorem d_X12_init_152 : decode (D_X12_init).2.1 152 = .ok (.sipush 256, 3) := by decide +kernel
theorem d_X12_init_155 : decode (D_X12_init).2.1 155 = .ok (.newarray .int, 2) := by decide +kernel
theorem d_X12_init_157 : decode (D_X12_init).2.1 157 = .ok (.putfield 65, 3) := by decide +kernel
theorem d_X12_init_160 : decode (D_X12_init).2.1 160 = .ok (.aload_n 0, 1) := by decide +kernel
theorem d_X12_init_161 : decode (D_X12_init).2.1 161 = .ok (.bipush 80, 2) := by decide +kernel
theorem d_X12_init_163 : decode (D_X12_init).2.1 163 = .ok (.newarray .int, 2) := by decide +kernel
theorem d_X12_init_165 : decode (D_X12_init).2.1 165 = .ok (.putfield 68, 3) := by decide +kernel
theorem d_X12_init_168 : decode (D_X12_init).2.1 168 = .ok (.aload_n 0, 1) := by decide +kernel
theorem d_X12_init_169 : decode (D_X12_init).2.1 169 = .ok (.iconst 5, 1) := by decide +kernel
theorem d_X12_init_170 : decode (D_X12_init).2.1 170 = .ok (.newarray .int, 2) := by decide +kernel
theorem d_X12_init_172 : decode (D_X12_init).2.1 172 = .ok (.putfield 71, 3) := by decide +kernel
theorem d_X12_init_175 : decode (D_X12_init).2.1 175 = .ok (.aload_n 0, 1) := by decide +kernel
theorem d_X12_init_176 : decode (D_X12_init).2.1 176 = .ok (.iconst 5, 1) := by decide +kernel
theorem d_X12_init_177 : decode (D_X12_init).2.1 177 = .ok (.newarray .int, 2) := by decide +kernel
theorem d_X12_init_179 : decode (D_X12_init).2.1 179 = .ok (.putfield 74, 3) := by decide +kernel
theorem d_X12_init_182 : decode (D_X12_init).2.1 182 = .ok (.aload_n 0, 1) := by decide +kernel
theorem d_X12_init_183 : decode (D_X12_init).2.1 183 = .ok (.iconst 0, 1) := by decide +kernel
theorem d_X12_init_184 : decode (D_X12_init).2.1 184 = .ok (.invokevirtual 77, 3) := by decide +kernel
def cM_X12 (M : JMem) : JMem := (jz (jz (jz (jz (jz (jz (jz (jz (jz (jz (jz (jup (jup (jz (jz (jz (jup (jup (jup (jup (jz (jz (jup (jz (jz M 168) 169) 167 4 1) 170) 171) 171 (jw 0).toNat (-1)) 171 (jw 1).toNat (-1)) 171 (jw 2).toNat (-1)) 171 (jw 3).toNat (-1)) 172) 173) 174) 167 16 (-1)) 167 17 (-1)) 175) 176) 177) 178) 179) 180) 181) 182) 183) 184) 185)
def cR_X12 (ρ : JRho) : JRho := (jsr (jzr (jsr (jzr (jsr (jzr (jsr (jzr (jsr (jzr (jsr (jzr (jsr (jzr (jsr (jzr (jsr (jzr (jsr (jzr (jsr (jzr (jsr (jzr (jsr (jzr (jsr (jzr (jsr (jzr (jsr (jzr (jsr (jzr (jsr (jzr ρ 168) 167 0 168) 169) 167 1 169) 170) 167 5 170) 171) 167 6 171) 172) 167 7 172) 173) 167 8 173) 174) 167 9 174) 175) 167 21 175) 176) 167 24 176) 177) 167 25 177) 178) 167 26 178) 179) 167 28 179) 180) 167 29 180) 181) 167 30 181) 182) 167 31 182) 183) 167 34 183) 184) 167 35 184) 185) 167 36 185)
theorem d_X12_init_187 : decode (D_X12_init).2.1 187 = .ok (.return_, 1) := by decide +kernel
theorem cw_X12 (ρ : JRho) (w0 : jwf 168 ρ) : jwf 186 (cR_X12 ρ) := by
  unfold cR_X12
  have w1 := jwf_new w0
  have w2 := jwf_set (a := 167) (k := 0) (b := 168) w1 (by omega) (by decide)
  have w3 := jwf_new w2
  have w4 := jwf_set (a := 167) (k := 1) (b := 169) w3 (by omega) (by decide)
  have w5 := jwf_new w4
  have w6 := jwf_set (a := 167) (k := 5) (b := 170) w5 (by omega) (by decide)
  have w7 := jwf_new w6
  have w8 := jwf_set (a := 167) (k := 6) (b := 171) w7 (by omega) (by decide)
  have w9 := jwf_new w8
  have w10 := jwf_set (a := 167) (k := 7) (b := 172) w9 (by omega) (by decide)
  have w11 := jwf_new w10
  have w12 := jwf_set (a := 167) (k := 8) (b := 173) w11 (by omega) (by decide)
  have w13 := jwf_new w12
  have w14 := jwf_set (a := 167) (k := 9) (b := 174) w13 (by omega) (by decide)
  have w15 := jwf_new w14
  have w16 := jwf_set (a := 167) (k := 21) (b := 175) w15 (by omega) (by decide)
  have w17 := jwf_new w16
  have w18 := jwf_set (a := 167) (k := 24) (b := 176) w17 (by omega) (by decide)
  have w19 := jwf_new w18
  have w20 := jwf_set (a := 167) (k := 25) (b := 177) w19 (by omega) (by decide)
  have w21 := jwf_new w20
  have w22 := jwf_set (a := 167) (k := 26) (b := 178) w21 (by omega) (by decide)
  have w23 := jwf_new w22
  have w24 := jwf_set (a := 167) (k := 28) (b := 179) w23 (by omega) (by decide)
  have w25 := jwf_new w24
  have w26 := jwf_set (a := 167) (k := 29) (b := 180) w25 (by omega) (by decide)
  have w27 := jwf_new w26
  have w28 := jwf_set (a := 167) (k := 30) (b := 181) w27 (by omega) (by decide)
  have w29 := jwf_new w28
  have w30 := jwf_set (a := 167) (k := 31) (b := 182) w29 (by omega) (by decide)
  have w31 := jwf_new w30
  have w32 := jwf_set (a := 167) (k := 34) (b := 183) w31 (by omega) (by decide)
  have w33 := jwf_new w32
  have w34 := jwf_set (a := 167) (k := 35) (b := 184) w33 (by omega) (by decide)
  have w35 := jwf_new w34
  have w36 := jwf_set (a := 167) (k := 36) (b := 185) w35 (by omega) (by decide)
  exact w36
set_option maxRecDepth 8000 in
theorem c_X12 {g : JG} {r : Int} {M1 : JMem} (ρ : JRho) (M : JMem) (w0 : jwf 168 ρ) (hR : ∀ a, a < 186 → ∀ k, k < 40 → jR a k = cR_X12 ρ a k) (hf : f_X12_plain 600 0 (cM_X12 M) = some (r, M1)) : jMetC g D_X12_init yX12_init [.ref 167] 168 186 ρ jR M M1 := by
  have hj : jNN = 186 := rfl
  refine jMetC.of (lo0 := [some (.ref 167)]) (by decide) rfl rfl (fun ad => (Nat.le_of_ble_eq_true rfl)) (And.intro rfl True.intro) (fun ad0 s0 => ?_)
  have g0 : jag 168 ad0 ad0 := jag.rf
  unfold cM_X12 at hf
  refine jo_aload 0 d_X12_init_0 rfl rfl ?_
  refine jo_obj lm_X12_1 (Nat.le_of_ble_eq_true rfl) (Nat.le_of_ble_eq_true rfl) d_X12_init_1 ?_
  refine jo_aload 0 d_X12_init_4 rfl rfl ?_
  refine jo_sipush 3160 d_X12_init_5 (by decide) ?_
  refine jo_newI (N := 3160) (a0 := 167) (by decide +kernel : jG 168 = (1, 3160)) (by omega) (by omega) w0 ar_int (by decide +kernel) (by decide +kernel) (Nat.le_of_ble_eq_true rfl) (And.intro (jvo_lt (by omega)) True.intro) (And.intro (jvo_lt (by omega)) True.intro) (And.intro (Nat.le_of_ble_eq_true rfl) (Nat.le_of_ble_eq_true rfl)) d_X12_init_8 (fun ad1 h1 => ?_)
  have g1 := g0.tr h1 (by omega)
  have s1 := s0.ag h1
  have w1 := jwf_new w0
  refine jo_putR (k := 0) cl_12 (Nat.le_of_ble_eq_true rfl) lk_X12_7 rfl rfl rfl rfl (And.intro (by omega) (by decide +kernel : jG 167 = (0, 12))) d_X12_init_10 ?_
  have w2 := jwf_set (a := 167) (k := 0) (b := 168) w1 (by omega) (by decide)
  refine jo_aload 0 d_X12_init_13 rfl rfl ?_
  refine jo_sipush 132 d_X12_init_14 (by decide) ?_
  refine jo_newL (N := 132) (a0 := 167) (by decide +kernel : jG 169 = (2, 132)) (by omega) (by omega) w2 ar_long (by decide +kernel) (by decide +kernel) (Nat.le_of_ble_eq_true rfl) (And.intro (jvo_lt (by omega)) True.intro) (And.intro (jvo_lt (by omega)) True.intro) (And.intro (Nat.le_of_ble_eq_true rfl) (Nat.le_of_ble_eq_true rfl)) d_X12_init_17 (fun ad2 h2 => ?_)
  have g2 := g1.tr h2 (by omega)
  have s2 := s1.ag h2
  have w3 := jwf_new w2
  refine jo_putR (k := 1) cl_12 (Nat.le_of_ble_eq_true rfl) lk_X12_13 rfl rfl rfl rfl (And.intro (by omega) (by decide +kernel : jG 167 = (0, 12))) d_X12_init_19 ?_
  have w4 := jwf_set (a := 167) (k := 1) (b := 169) w3 (by omega) (by decide)
  refine jo_aload 0 d_X12_init_22 rfl rfl ?_
  refine jo_lconst1 d_X12_init_23 ?_
  refine jo_putLC (k := 4) cl_12 (Nat.le_of_ble_eq_true rfl) lk_X12_17 rfl rfl (And.intro (by omega) (by decide +kernel : jG 167 = (0, 12))) d_X12_init_24 ?_
  refine jo_aload 0 d_X12_init_27 rfl rfl ?_
  refine jo_iconst 4 d_X12_init_28 ?_
  refine jo_newI (N := 4) (a0 := 167) (by decide +kernel : jG 170 = (1, 4)) (by omega) (by omega) w4 ar_int (by decide +kernel) (by decide +kernel) (Nat.le_of_ble_eq_true rfl) (And.intro (jvo_lt (by omega)) True.intro) (And.intro (jvo_lt (by omega)) True.intro) (And.intro (Nat.le_of_ble_eq_true rfl) (Nat.le_of_ble_eq_true rfl)) d_X12_init_29 (fun ad3 h3 => ?_)
  have g3 := g2.tr h3 (by omega)
  have s3 := s2.ag h3
  have w5 := jwf_new w4
  refine jo_putR (k := 5) cl_12 (Nat.le_of_ble_eq_true rfl) lk_X12_21 rfl rfl rfl rfl (And.intro (by omega) (by decide +kernel : jG 167 = (0, 12))) d_X12_init_31 ?_
  have w6 := jwf_set (a := 167) (k := 5) (b := 170) w5 (by omega) (by decide)
  refine jo_aload 0 d_X12_init_34 rfl rfl ?_
  refine jo_iconst 4 d_X12_init_35 ?_
  refine jo_newI (N := 4) (a0 := 167) (by decide +kernel : jG 171 = (1, 4)) (by omega) (by omega) w6 ar_int (by decide +kernel) (by decide +kernel) (Nat.le_of_ble_eq_true rfl) (And.intro (jvo_lt (by omega)) True.intro) (And.intro (jvo_lt (by omega)) True.intro) (And.intro (Nat.le_of_ble_eq_true rfl) (Nat.le_of_ble_eq_true rfl)) d_X12_init_36 (fun ad4 h4 => ?_)
  have g4 := g3.tr h4 (by omega)
  have s4 := s3.ag h4
  have w7 := jwf_new w6
  refine jo_dup d_X12_init_38 rfl ?_
  refine jo_iconst 0 d_X12_init_39 ?_
  refine jo_iconst (-1) d_X12_init_40 ?_
  refine jo_iastC (N := 4) (And.intro (by omega) (by decide +kernel : jG 171 = (1, 4))) (by decide) d_X12_init_41 ?_
  refine jo_dup d_X12_init_42 rfl ?_
  refine jo_iconst 1 d_X12_init_43 ?_
  refine jo_iconst (-1) d_X12_init_44 ?_
  refine jo_iastC (N := 4) (And.intro (by omega) (by decide +kernel : jG 171 = (1, 4))) (by decide) d_X12_init_45 ?_
  refine jo_dup d_X12_init_46 rfl ?_
  refine jo_iconst 2 d_X12_init_47 ?_
  refine jo_iconst (-1) d_X12_init_48 ?_
  refine jo_iastC (N := 4) (And.intro (by omega) (by decide +kernel : jG 171 = (1, 4))) (by decide) d_X12_init_49 ?_
  refine jo_dup d_X12_init_50 rfl ?_
  refine jo_iconst 3 d_X12_init_51 ?_
  refine jo_iconst (-1) d_X12_init_52 ?_
  refine jo_iastC (N := 4) (And.intro (by omega) (by decide +kernel : jG 171 = (1, 4))) (by decide) d_X12_init_53 ?_
  refine jo_putR (k := 6) cl_12 (Nat.le_of_ble_eq_true rfl) lk_X12_24 rfl rfl rfl rfl (And.intro (by omega) (by decide +kernel : jG 167 = (0, 12))) d_X12_init_54 ?_
  have w8 := jwf_set (a := 167) (k := 6) (b := 171) w7 (by omega) (by decide)
  refine jo_aload 0 d_X12_init_57 rfl rfl ?_
  refine jo_sipush 240 d_X12_init_58 (by decide) ?_
  refine jo_newL (N := 240) (a0 := 167) (by decide +kernel : jG 172 = (2, 240)) (by omega) (by omega) w8 ar_long (by decide +kernel) (by decide +kernel) (Nat.le_of_ble_eq_true rfl) (And.intro (jvo_lt (by omega)) True.intro) (And.intro (jvo_lt (by omega)) True.intro) (And.intro (Nat.le_of_ble_eq_true rfl) (Nat.le_of_ble_eq_true rfl)) d_X12_init_61 (fun ad5 h5 => ?_)
  have g5 := g4.tr h5 (by omega)
  have s5 := s4.ag h5
  have w9 := jwf_new w8
  refine jo_putR (k := 7) cl_12 (Nat.le_of_ble_eq_true rfl) lk_X12_27 rfl rfl rfl rfl (And.intro (by omega) (by decide +kernel : jG 167 = (0, 12))) d_X12_init_63 ?_
  have w10 := jwf_set (a := 167) (k := 7) (b := 172) w9 (by omega) (by decide)
  refine jo_aload 0 d_X12_init_66 rfl rfl ?_
  refine jo_sipush 900 d_X12_init_67 (by decide) ?_
  refine jo_newB (N := 900) (a0 := 167) (by decide +kernel : jG 173 = (3, 900)) (by omega) (by omega) w10 ar_byte (by decide +kernel) (by decide +kernel) (Nat.le_of_ble_eq_true rfl) (And.intro (jvo_lt (by omega)) True.intro) (And.intro (jvo_lt (by omega)) True.intro) (And.intro (Nat.le_of_ble_eq_true rfl) (Nat.le_of_ble_eq_true rfl)) d_X12_init_70 (fun ad6 h6 => ?_)
  have g6 := g5.tr h6 (by omega)
  have s6 := s5.ag h6
  have w11 := jwf_new w10
  refine jo_putR (k := 8) cl_12 (Nat.le_of_ble_eq_true rfl) lk_X12_30 rfl rfl rfl rfl (And.intro (by omega) (by decide +kernel : jG 167 = (0, 12))) d_X12_init_72 ?_
  have w12 := jwf_set (a := 167) (k := 8) (b := 173) w11 (by omega) (by decide)
  refine jo_aload 0 d_X12_init_75 rfl rfl ?_
  refine jo_sipush 900 d_X12_init_76 (by decide) ?_
  refine jo_newB (N := 900) (a0 := 167) (by decide +kernel : jG 174 = (3, 900)) (by omega) (by omega) w12 ar_byte (by decide +kernel) (by decide +kernel) (Nat.le_of_ble_eq_true rfl) (And.intro (jvo_lt (by omega)) True.intro) (And.intro (jvo_lt (by omega)) True.intro) (And.intro (Nat.le_of_ble_eq_true rfl) (Nat.le_of_ble_eq_true rfl)) d_X12_init_79 (fun ad7 h7 => ?_)
  have g7 := g6.tr h7 (by omega)
  have s7 := s6.ag h7
  have w13 := jwf_new w12
  refine jo_putR (k := 9) cl_12 (Nat.le_of_ble_eq_true rfl) lk_X12_34 rfl rfl rfl rfl (And.intro (by omega) (by decide +kernel : jG 167 = (0, 12))) d_X12_init_81 ?_
  have w14 := jwf_set (a := 167) (k := 9) (b := 174) w13 (by omega) (by decide)
  refine jo_aload 0 d_X12_init_84 rfl rfl ?_
  refine jo_iconst (-1) d_X12_init_85 ?_
  refine jo_putIC (k := 16) cl_12 (Nat.le_of_ble_eq_true rfl) lk_X12_37 rfl rfl (And.intro (by omega) (by decide +kernel : jG 167 = (0, 12))) d_X12_init_86 ?_
  refine jo_aload 0 d_X12_init_89 rfl rfl ?_
  refine jo_iconst (-1) d_X12_init_90 ?_
  refine jo_putIC (k := 17) cl_12 (Nat.le_of_ble_eq_true rfl) lk_X12_41 rfl rfl (And.intro (by omega) (by decide +kernel : jG 167 = (0, 12))) d_X12_init_91 ?_
  refine jo_aload 0 d_X12_init_94 rfl rfl ?_
  refine jo_iconst 3 d_X12_init_95 ?_
  refine jo_newI (N := 3) (a0 := 167) (by decide +kernel : jG 175 = (1, 3)) (by omega) (by omega) w14 ar_int (by decide +kernel) (by decide +kernel) (Nat.le_of_ble_eq_true rfl) (And.intro (jvo_lt (by omega)) True.intro) (And.intro (jvo_lt (by omega)) True.intro) (And.intro (Nat.le_of_ble_eq_true rfl) (Nat.le_of_ble_eq_true rfl)) d_X12_init_96 (fun ad8 h8 => ?_)
  have g8 := g7.tr h8 (by omega)
  have s8 := s7.ag h8
  have w15 := jwf_new w14
  refine jo_putR (k := 21) cl_12 (Nat.le_of_ble_eq_true rfl) lk_X12_44 rfl rfl rfl rfl (And.intro (by omega) (by decide +kernel : jG 167 = (0, 12))) d_X12_init_98 ?_
  have w16 := jwf_set (a := 167) (k := 21) (b := 175) w15 (by omega) (by decide)
  refine jo_aload 0 d_X12_init_101 rfl rfl ?_
  refine jo_sipush 520 d_X12_init_102 (by decide) ?_
  refine jo_newI (N := 520) (a0 := 167) (by decide +kernel : jG 176 = (1, 520)) (by omega) (by omega) w16 ar_int (by decide +kernel) (by decide +kernel) (Nat.le_of_ble_eq_true rfl) (And.intro (jvo_lt (by omega)) True.intro) (And.intro (jvo_lt (by omega)) True.intro) (And.intro (Nat.le_of_ble_eq_true rfl) (Nat.le_of_ble_eq_true rfl)) d_X12_init_105 (fun ad9 h9 => ?_)
  have g9 := g8.tr h9 (by omega)
  have s9 := s8.ag h9
  have w17 := jwf_new w16
  refine jo_putR (k := 24) cl_12 (Nat.le_of_ble_eq_true rfl) lk_X12_47 rfl rfl rfl rfl (And.intro (by omega) (by decide +kernel : jG 167 = (0, 12))) d_X12_init_107 ?_
  have w18 := jwf_set (a := 167) (k := 24) (b := 176) w17 (by omega) (by decide)
  refine jo_aload 0 d_X12_init_110 rfl rfl ?_
  refine jo_bipush 8 d_X12_init_111 (by decide) ?_
  refine jo_newI (N := 8) (a0 := 167) (by decide +kernel : jG 177 = (1, 8)) (by omega) (by omega) w18 ar_int (by decide +kernel) (by decide +kernel) (Nat.le_of_ble_eq_true rfl) (And.intro (jvo_lt (by omega)) True.intro) (And.intro (jvo_lt (by omega)) True.intro) (And.intro (Nat.le_of_ble_eq_true rfl) (Nat.le_of_ble_eq_true rfl)) d_X12_init_113 (fun ad10 h10 => ?_)
  have g10 := g9.tr h10 (by omega)
  have s10 := s9.ag h10
  have w19 := jwf_new w18
  refine jo_putR (k := 25) cl_12 (Nat.le_of_ble_eq_true rfl) lk_X12_50 rfl rfl rfl rfl (And.intro (by omega) (by decide +kernel : jG 167 = (0, 12))) d_X12_init_115 ?_
  have w20 := jwf_set (a := 167) (k := 25) (b := 177) w19 (by omega) (by decide)
  refine jo_aload 0 d_X12_init_118 rfl rfl ?_
  refine jo_bipush 8 d_X12_init_119 (by decide) ?_
  refine jo_newI (N := 8) (a0 := 167) (by decide +kernel : jG 178 = (1, 8)) (by omega) (by omega) w20 ar_int (by decide +kernel) (by decide +kernel) (Nat.le_of_ble_eq_true rfl) (And.intro (jvo_lt (by omega)) True.intro) (And.intro (jvo_lt (by omega)) True.intro) (And.intro (Nat.le_of_ble_eq_true rfl) (Nat.le_of_ble_eq_true rfl)) d_X12_init_121 (fun ad11 h11 => ?_)
  have g11 := g10.tr h11 (by omega)
  have s11 := s10.ag h11
  have w21 := jwf_new w20
  refine jo_putR (k := 26) cl_12 (Nat.le_of_ble_eq_true rfl) lk_X12_53 rfl rfl rfl rfl (And.intro (by omega) (by decide +kernel : jG 167 = (0, 12))) d_X12_init_123 ?_
  have w22 := jwf_set (a := 167) (k := 26) (b := 178) w21 (by omega) (by decide)
  refine jo_aload 0 d_X12_init_126 rfl rfl ?_
  refine jo_bipush 6 d_X12_init_127 (by decide) ?_
  refine jo_newI (N := 6) (a0 := 167) (by decide +kernel : jG 179 = (1, 6)) (by omega) (by omega) w22 ar_int (by decide +kernel) (by decide +kernel) (Nat.le_of_ble_eq_true rfl) (And.intro (jvo_lt (by omega)) True.intro) (And.intro (jvo_lt (by omega)) True.intro) (And.intro (Nat.le_of_ble_eq_true rfl) (Nat.le_of_ble_eq_true rfl)) d_X12_init_129 (fun ad12 h12 => ?_)
  have g12 := g11.tr h12 (by omega)
  have s12 := s11.ag h12
  have w23 := jwf_new w22
  refine jo_putR (k := 28) cl_12 (Nat.le_of_ble_eq_true rfl) lk_X12_56 rfl rfl rfl rfl (And.intro (by omega) (by decide +kernel : jG 167 = (0, 12))) d_X12_init_131 ?_
  have w24 := jwf_set (a := 167) (k := 28) (b := 179) w23 (by omega) (by decide)
  refine jo_aload 0 d_X12_init_134 rfl rfl ?_
  refine jo_bipush 9 d_X12_init_135 (by decide) ?_
  refine jo_newL (N := 9) (a0 := 167) (by decide +kernel : jG 180 = (2, 9)) (by omega) (by omega) w24 ar_long (by decide +kernel) (by decide +kernel) (Nat.le_of_ble_eq_true rfl) (And.intro (jvo_lt (by omega)) True.intro) (And.intro (jvo_lt (by omega)) True.intro) (And.intro (Nat.le_of_ble_eq_true rfl) (Nat.le_of_ble_eq_true rfl)) d_X12_init_137 (fun ad13 h13 => ?_)
  have g13 := g12.tr h13 (by omega)
  have s13 := s12.ag h13
  have w25 := jwf_new w24
  refine jo_putR (k := 29) cl_12 (Nat.le_of_ble_eq_true rfl) lk_X12_59 rfl rfl rfl rfl (And.intro (by omega) (by decide +kernel : jG 167 = (0, 12))) d_X12_init_139 ?_
  have w26 := jwf_set (a := 167) (k := 29) (b := 180) w25 (by omega) (by decide)
  refine jo_aload 0 d_X12_init_142 rfl rfl ?_
  refine jo_sipush 256 d_X12_init_143 (by decide) ?_
  refine jo_newI (N := 256) (a0 := 167) (by decide +kernel : jG 181 = (1, 256)) (by omega) (by omega) w26 ar_int (by decide +kernel) (by decide +kernel) (Nat.le_of_ble_eq_true rfl) (And.intro (jvo_lt (by omega)) True.intro) (And.intro (jvo_lt (by omega)) True.intro) (And.intro (Nat.le_of_ble_eq_true rfl) (Nat.le_of_ble_eq_true rfl)) d_X12_init_146 (fun ad14 h14 => ?_)
  have g14 := g13.tr h14 (by omega)
  have s14 := s13.ag h14
  have w27 := jwf_new w26
  refine jo_putR (k := 30) cl_12 (Nat.le_of_ble_eq_true rfl) lk_X12_62 rfl rfl rfl rfl (And.intro (by omega) (by decide +kernel : jG 167 = (0, 12))) d_X12_init_148 ?_
  have w28 := jwf_set (a := 167) (k := 30) (b := 181) w27 (by omega) (by decide)
  refine jo_aload 0 d_X12_init_151 rfl rfl ?_
  refine jo_sipush 256 d_X12_init_152 (by decide) ?_
  refine jo_newI (N := 256) (a0 := 167) (by decide +kernel : jG 182 = (1, 256)) (by omega) (by omega) w28 ar_int (by decide +kernel) (by decide +kernel) (Nat.le_of_ble_eq_true rfl) (And.intro (jvo_lt (by omega)) True.intro) (And.intro (jvo_lt (by omega)) True.intro) (And.intro (Nat.le_of_ble_eq_true rfl) (Nat.le_of_ble_eq_true rfl)) d_X12_init_155 (fun ad15 h15 => ?_)
  have g15 := g14.tr h15 (by omega)
  have s15 := s14.ag h15
  have w29 := jwf_new w28
  refine jo_putR (k := 31) cl_12 (Nat.le_of_ble_eq_true rfl) lk_X12_65 rfl rfl rfl rfl (And.intro (by omega) (by decide +kernel : jG 167 = (0, 12))) d_X12_init_157 ?_
  have w30 := jwf_set (a := 167) (k := 31) (b := 182) w29 (by omega) (by decide)
  refine jo_aload 0 d_X12_init_160 rfl rfl ?_
  refine jo_bipush 80 d_X12_init_161 (by decide) ?_
  refine jo_newI (N := 80) (a0 := 167) (by decide +kernel : jG 183 = (1, 80)) (by omega) (by omega) w30 ar_int (by decide +kernel) (by decide +kernel) (Nat.le_of_ble_eq_true rfl) (And.intro (jvo_lt (by omega)) True.intro) (And.intro (jvo_lt (by omega)) True.intro) (And.intro (Nat.le_of_ble_eq_true rfl) (Nat.le_of_ble_eq_true rfl)) d_X12_init_163 (fun ad16 h16 => ?_)
  have g16 := g15.tr h16 (by omega)
  have s16 := s15.ag h16
  have w31 := jwf_new w30
  refine jo_putR (k := 34) cl_12 (Nat.le_of_ble_eq_true rfl) lk_X12_68 rfl rfl rfl rfl (And.intro (by omega) (by decide +kernel : jG 167 = (0, 12))) d_X12_init_165 ?_
  have w32 := jwf_set (a := 167) (k := 34) (b := 183) w31 (by omega) (by decide)
  refine jo_aload 0 d_X12_init_168 rfl rfl ?_
  refine jo_iconst 5 d_X12_init_169 ?_
  refine jo_newI (N := 5) (a0 := 167) (by decide +kernel : jG 184 = (1, 5)) (by omega) (by omega) w32 ar_int (by decide +kernel) (by decide +kernel) (Nat.le_of_ble_eq_true rfl) (And.intro (jvo_lt (by omega)) True.intro) (And.intro (jvo_lt (by omega)) True.intro) (And.intro (Nat.le_of_ble_eq_true rfl) (Nat.le_of_ble_eq_true rfl)) d_X12_init_170 (fun ad17 h17 => ?_)
  have g17 := g16.tr h17 (by omega)
  have s17 := s16.ag h17
  have w33 := jwf_new w32
  refine jo_putR (k := 35) cl_12 (Nat.le_of_ble_eq_true rfl) lk_X12_71 rfl rfl rfl rfl (And.intro (by omega) (by decide +kernel : jG 167 = (0, 12))) d_X12_init_172 ?_
  have w34 := jwf_set (a := 167) (k := 35) (b := 184) w33 (by omega) (by decide)
  refine jo_aload 0 d_X12_init_175 rfl rfl ?_
  refine jo_iconst 5 d_X12_init_176 ?_
  refine jo_newI (N := 5) (a0 := 167) (by decide +kernel : jG 185 = (1, 5)) (by omega) (by omega) w34 ar_int (by decide +kernel) (by decide +kernel) (Nat.le_of_ble_eq_true rfl) (And.intro (jvo_lt (by omega)) True.intro) (And.intro (jvo_lt (by omega)) True.intro) (And.intro (Nat.le_of_ble_eq_true rfl) (Nat.le_of_ble_eq_true rfl)) d_X12_init_177 (fun ad18 h18 => ?_)
  have g18 := g17.tr h18 (by omega)
  have s18 := s17.ag h18
  have w35 := jwf_new w34
  refine jo_putR (k := 36) cl_12 (Nat.le_of_ble_eq_true rfl) lk_X12_74 rfl rfl rfl rfl (And.intro (by omega) (by decide +kernel : jG 167 = (0, 12))) d_X12_init_179 ?_
  have w36 := jwf_set (a := 167) (k := 36) (b := 185) w35 (by omega) (by decide)
  refine jo_aload 0 d_X12_init_182 rfl rfl ?_
  refine jo_iconst 0 d_X12_init_183 ?_
  refine jo_rho (ρ' := jR) (jrho_eq (cw_X12 ρ w0) hR) ?_
  refine jo_tail (o2 := bnd (f_X12_plain 600 0 _) (fun _ M2 => some (0, M2))) (r := 0) (M' := M1) (by rw [hf]; rfl) ?_
  refine jo_callV (st := []) (m_X12_plain (g := g) s18 600 0 _) ok_X12_plain (And.intro (Nat.le_of_ble_eq_true rfl) (Nat.le_of_ble_eq_true rfl)) lm_X12_77 in_X12_plain se_X12_plain rfl kc_167 rfl rfl (And.intro (Nat.le_of_ble_eq_true rfl) (Nat.le_of_ble_eq_true rfl)) rfl (Nat.le_of_ble_eq_true rfl) d_X12_init_184 (fun _ M2 => ?_)
  exact jo_tret g18 rfl d_X12_init_187 (And.intro (Nat.le_refl _) (Nat.le_refl _))
end JCTOR2

section JROWS
variable {α : Type} {g : JG} {d : JD} {Qf : JQ α} {cs : Nat × Nat} {n : Nat} {ad : Nat → Nat} {ρ : JRho} {pc : Nat} {lo : List (Option Value)} {st : List Value} {M : JMem} {o : Option α}
theorem jtoI (x : Int32) : Int32.ofInt x.toInt = x := Int32.ofInt_toInt x
theorem jtoL (x : Int64) : Int64.ofInt x.toInt = x := Int64.ofInt_toInt x
theorem jbyte (x : Int) : (Int32.ofInt x).toInt8.toInt32 = Int32.ofInt (jw8 x) := by
  rw [← Int32.toInt_inj, Int8.toInt_toInt32, Int32.toInt_toInt8, jw_i, jw_i]
  unfold jw jw8
  rw [Int.bmod_bmod_of_dvd (by decide)]
  rw [Int.bmod_eq_of_le (n := x.bmod (2 ^ 8)) (m := 2 ^ 32)]
  · have := @Int.le_bmod x (2 ^ 8) (by decide)
    omega
  · have := @Int.bmod_lt x (2 ^ 8) (by decide)
    omega
theorem jshort (x : Int) : (Int32.ofInt x).toInt16.toInt32 = Int32.ofInt (jw16 x) := by
  rw [← Int32.toInt_inj, Int16.toInt_toInt32, Int32.toInt_toInt16, jw_i, jw_i]
  unfold jw jw16
  rw [Int.bmod_bmod_of_dvd (by decide)]
  rw [Int.bmod_eq_of_le (n := x.bmod (2 ^ 16)) (m := 2 ^ 32)]
  · have := @Int.le_bmod x (2 ^ 16) (by decide)
    omega
  · have := @Int.bmod_lt x (2 ^ 16) (by decide)
    omega
theorem jo_iadd {x y : Int} (hd : decode d.2.1 pc = .ok (.iadd, 1)) (k : jO g d Qf cs n ad ρ (pc + 1) lo (ji (x + y) :: st) M o) : jO g d Qf cs n ad ρ pc lo (ji y :: ji x :: st) M o :=
  k.row fun p e s m args below meth c H locs ls Q C hl kk => lv_iadd C.1 C.2.1 hd (by rw [← Int32.ofInt_add]; exact kk)
theorem jo_isub {x y : Int} (hd : decode d.2.1 pc = .ok (.isub, 1)) (k : jO g d Qf cs n ad ρ (pc + 1) lo (ji (x - y) :: st) M o) : jO g d Qf cs n ad ρ pc lo (ji y :: ji x :: st) M o :=
  k.row fun p e s m args below meth c H locs ls Q C hl kk => lv_isub C.1 C.2.1 hd (by rw [← Int32.ofInt_sub]; exact kk)
theorem jo_imul {x y : Int} (hd : decode d.2.1 pc = .ok (.imul, 1)) (k : jO g d Qf cs n ad ρ (pc + 1) lo (ji (x * y) :: st) M o) : jO g d Qf cs n ad ρ pc lo (ji y :: ji x :: st) M o :=
  k.row fun p e s m args below meth c H locs ls Q C hl kk => lv_imul C.1 C.2.1 hd (by rw [← Int32.ofInt_mul]; exact kk)
theorem jo_ineg {x : Int} (hd : decode d.2.1 pc = .ok (.ineg, 1)) (k : jO g d Qf cs n ad ρ (pc + 1) lo (ji (-x) :: st) M o) : jO g d Qf cs n ad ρ pc lo (ji x :: st) M o :=
  k.row fun p e s m args below meth c H locs ls Q C hl kk => lv_ineg C.1 C.2.1 hd (by rw [← Int32.ofInt_neg]; exact kk)
theorem jo_iand {x y : Int} (hd : decode d.2.1 pc = .ok (.iand, 1)) (k : jO g d Qf cs n ad ρ (pc + 1) lo (ji (jand x y) :: st) M o) : jO g d Qf cs n ad ρ pc lo (ji y :: ji x :: st) M o :=
  k.row fun p e s m args below meth c H locs ls Q C hl kk => lv_iand C.1 C.2.1 hd (by rw [← jtoI (_ &&& _)]; exact kk)
theorem jo_ior {x y : Int} (hd : decode d.2.1 pc = .ok (.ior, 1)) (k : jO g d Qf cs n ad ρ (pc + 1) lo (ji (jor x y) :: st) M o) : jO g d Qf cs n ad ρ pc lo (ji y :: ji x :: st) M o :=
  k.row fun p e s m args below meth c H locs ls Q C hl kk => lv_ior C.1 C.2.1 hd (by rw [← jtoI (_ ||| _)]; exact kk)
theorem jo_ixor {x y : Int} (hd : decode d.2.1 pc = .ok (.ixor, 1)) (k : jO g d Qf cs n ad ρ (pc + 1) lo (ji (jxor x y) :: st) M o) : jO g d Qf cs n ad ρ pc lo (ji y :: ji x :: st) M o :=
  k.row fun p e s m args below meth c H locs ls Q C hl kk => lv_ixor C.1 C.2.1 hd (by rw [← jtoI (_ ^^^ _)]; exact kk)
theorem jo_ishl {x y : Int} (hd : decode d.2.1 pc = .ok (.ishl, 1)) (k : jO g d Qf cs n ad ρ (pc + 1) lo (ji (jshl x y) :: st) M o) : jO g d Qf cs n ad ρ pc lo (ji y :: ji x :: st) M o :=
  k.row fun p e s m args below meth c H locs ls Q C hl kk => lv_ishl C.1 C.2.1 hd (by rw [← jtoI (_ <<< _)]; exact kk)
theorem jo_ishr {x y : Int} (hd : decode d.2.1 pc = .ok (.ishr, 1)) (k : jO g d Qf cs n ad ρ (pc + 1) lo (ji (jshr x y) :: st) M o) : jO g d Qf cs n ad ρ pc lo (ji y :: ji x :: st) M o :=
  k.row fun p e s m args below meth c H locs ls Q C hl kk => lv_ishr C.1 C.2.1 hd (by rw [← jtoI (_ >>> _)]; exact kk)
theorem jo_iushr {x y : Int} (hd : decode d.2.1 pc = .ok (.iushr, 1)) (k : jO g d Qf cs n ad ρ (pc + 1) lo (ji (jushr x y) :: st) M o) : jO g d Qf cs n ad ρ pc lo (ji y :: ji x :: st) M o :=
  k.row fun p e s m args below meth c H locs ls Q C hl kk => lv_iushr (v := Int32.ofInt (jushr x y)) C.1 C.2.1 hd (jtoI _).symm kk
theorem jo_idiv {x y : Int} (hd : decode d.2.1 pc = .ok (.idiv, 1)) (hy : ¬ Int32.ofInt y = 0) (k : jO g d Qf cs n ad ρ (pc + 1) lo (ji (jdiv x y) :: st) M o) : jO g d Qf cs n ad ρ pc lo (ji y :: ji x :: st) M o :=
  k.row fun p e s m args below meth c H locs ls Q C hl kk => lv_idiv C.1 C.2.1 hd hy (by rw [← jtoI (_ / _)]; exact kk)
theorem jo_irem {x y : Int} (hd : decode d.2.1 pc = .ok (.irem, 1)) (hy : ¬ Int32.ofInt y = 0) (k : jO g d Qf cs n ad ρ (pc + 1) lo (ji (jrem x y) :: st) M o) : jO g d Qf cs n ad ρ pc lo (ji y :: ji x :: st) M o :=
  k.row fun p e s m args below meth c H locs ls Q C hl kk => lv_irem C.1 C.2.1 hd hy (by rw [← jtoI (_ - _)]; exact kk)
theorem jo_idivq {x y : Int} (hd : decode d.2.1 pc = .ok (.idiv, 1)) (k : jO g d Qf cs n ad ρ (pc + 1) lo (ji (jdiv x y) :: st) M o) : jO g d Qf cs n ad ρ pc lo (ji y :: ji x :: st) M (chk (¬ jw y = 0) o) := by
  intro v hv
  by_cases hc : ¬ jw y = 0
  · rw [chk_pos hc] at hv
    exact jo_idiv hd (fun h => hc (by rw [show (0 : Int32) = Int32.ofInt 0 from rfl, ji_eq, jw_0] at h; exact h)) k v hv
  · rw [chk, if_neg hc] at hv
    cases hv
theorem jo_iremq {x y : Int} (hd : decode d.2.1 pc = .ok (.irem, 1)) (k : jO g d Qf cs n ad ρ (pc + 1) lo (ji (jrem x y) :: st) M o) : jO g d Qf cs n ad ρ pc lo (ji y :: ji x :: st) M (chk (¬ jw y = 0) o) := by
  intro v hv
  by_cases hc : ¬ jw y = 0
  · rw [chk_pos hc] at hv
    exact jo_irem hd (fun h => hc (by rw [show (0 : Int32) = Int32.ofInt 0 from rfl, ji_eq, jw_0] at h; exact h)) k v hv
  · rw [chk, if_neg hc] at hv
    cases hv
theorem jwl_0 : jwl 0 = 0 := by decide
theorem jl_eq {x y : Int} : Int64.ofInt x = Int64.ofInt y ↔ jwl x = jwl y := by rw [← Int64.toInt_inj, jw_l, jw_l]
theorem jo_ldivq {x y : Int} (hd : decode d.2.1 pc = .ok (.ldiv, 1)) (k : jO g d Qf cs n ad ρ (pc + 1) lo (jl (jldiv x y) :: st) M o) : jO g d Qf cs n ad ρ pc lo (jl y :: jl x :: st) M (chk (¬ jwl y = 0) o) := by
  intro v hv
  by_cases hc : ¬ jwl y = 0
  · rw [chk_pos hc] at hv
    exact jO.row k (fun p e s m args below meth c H locs ls Q C hl kk => lv_ldiv C.1 C.2.1 hd (fun h => hc (by rw [show (0 : Int64) = Int64.ofInt 0 from rfl, jl_eq, jwl_0] at h; exact h)) (by rw [← jtoL (_ / _)]; exact kk)) v hv
  · rw [chk, if_neg hc] at hv
    cases hv
theorem jo_lremq {x y : Int} (hd : decode d.2.1 pc = .ok (.lrem, 1)) (k : jO g d Qf cs n ad ρ (pc + 1) lo (jl (jlrem x y) :: st) M o) : jO g d Qf cs n ad ρ pc lo (jl y :: jl x :: st) M (chk (¬ jwl y = 0) o) := by
  intro v hv
  by_cases hc : ¬ jwl y = 0
  · rw [chk_pos hc] at hv
    exact jO.row k (fun p e s m args below meth c H locs ls Q C hl kk => lv_lrem C.1 C.2.1 hd (fun h => hc (by rw [show (0 : Int64) = Int64.ofInt 0 from rfl, jl_eq, jwl_0] at h; exact h)) (by rw [← jtoL (_ - _)]; exact kk)) v hv
  · rw [chk, if_neg hc] at hv
    cases hv
theorem jo_ladd {x y : Int} (hd : decode d.2.1 pc = .ok (.ladd, 1)) (k : jO g d Qf cs n ad ρ (pc + 1) lo (jl (x + y) :: st) M o) : jO g d Qf cs n ad ρ pc lo (jl y :: jl x :: st) M o :=
  k.row fun p e s m args below meth c H locs ls Q C hl kk => lv_ladd C.1 C.2.1 hd (by rw [← Int64.ofInt_add]; exact kk)
theorem jo_lsub {x y : Int} (hd : decode d.2.1 pc = .ok (.lsub, 1)) (k : jO g d Qf cs n ad ρ (pc + 1) lo (jl (x - y) :: st) M o) : jO g d Qf cs n ad ρ pc lo (jl y :: jl x :: st) M o :=
  k.row fun p e s m args below meth c H locs ls Q C hl kk => lv_lsub C.1 C.2.1 hd (by rw [← Int64.ofInt_sub]; exact kk)
theorem jo_lmul {x y : Int} (hd : decode d.2.1 pc = .ok (.lmul, 1)) (k : jO g d Qf cs n ad ρ (pc + 1) lo (jl (x * y) :: st) M o) : jO g d Qf cs n ad ρ pc lo (jl y :: jl x :: st) M o :=
  k.row fun p e s m args below meth c H locs ls Q C hl kk => lv_lmul C.1 C.2.1 hd (by rw [← Int64.ofInt_mul]; exact kk)
theorem jo_land {x y : Int} (hd : decode d.2.1 pc = .ok (.land, 1)) (k : jO g d Qf cs n ad ρ (pc + 1) lo (jl (jland x y) :: st) M o) : jO g d Qf cs n ad ρ pc lo (jl y :: jl x :: st) M o :=
  k.row fun p e s m args below meth c H locs ls Q C hl kk => lv_land C.1 C.2.1 hd (by rw [← jtoL (_ &&& _)]; exact kk)
theorem jo_lor {x y : Int} (hd : decode d.2.1 pc = .ok (.lor, 1)) (k : jO g d Qf cs n ad ρ (pc + 1) lo (jl (jlor x y) :: st) M o) : jO g d Qf cs n ad ρ pc lo (jl y :: jl x :: st) M o :=
  k.row fun p e s m args below meth c H locs ls Q C hl kk => lv_lor C.1 C.2.1 hd (by rw [← jtoL (_ ||| _)]; exact kk)
theorem jo_lshl {x y : Int} (hd : decode d.2.1 pc = .ok (.lshl, 1)) (k : jO g d Qf cs n ad ρ (pc + 1) lo (jl (jlshl x y) :: st) M o) : jO g d Qf cs n ad ρ pc lo (ji y :: jl x :: st) M o :=
  k.row fun p e s m args below meth c H locs ls Q C hl kk => lv_lshl (v := Int64.ofInt (jlshl x y)) C.1 C.2.1 hd (jtoL _).symm kk
theorem jo_lcmp {x y : Int} (hd : decode d.2.1 pc = .ok (.lcmp, 1)) (k : jO g d Qf cs n ad ρ (pc + 1) lo (ji (jcmp x y) :: st) M o) : jO g d Qf cs n ad ρ pc lo (jl y :: jl x :: st) M o :=
  k.row fun p e s m args below meth c H locs ls Q C hl kk => W.lcmp C.1 C.2.1 hd (by rw [← jtoI (lg_cmp _ _)]; exact kk)
theorem jo_i2l {x : Int} (hd : decode d.2.1 pc = .ok (.i2l, 1)) (k : jO g d Qf cs n ad ρ (pc + 1) lo (jl (jw x) :: st) M o) : jO g d Qf cs n ad ρ pc lo (ji x :: st) M o :=
  k.row fun p e s m args below meth c H locs ls Q C hl kk => lv_i2l (v := Int64.ofInt (jw x)) C.1 C.2.1 hd (by
    rw [← jw_i, ← Int32.toInt_toInt64, jtoL]) kk
theorem jo_l2i {x : Int} (hd : decode d.2.1 pc = .ok (.l2i, 1)) (k : jO g d Qf cs n ad ρ (pc + 1) lo (ji x :: st) M o) : jO g d Qf cs n ad ρ pc lo (jl x :: st) M o :=
  k.row fun p e s m args below meth c H locs ls Q C hl kk => lv_l2i (v := Int32.ofInt x) C.1 C.2.1 hd Int64.toInt32_ofInt kk
theorem jo_i2b {x : Int} (hd : decode d.2.1 pc = .ok (.i2b, 1)) (k : jO g d Qf cs n ad ρ (pc + 1) lo (ji (jw8 x) :: st) M o) : jO g d Qf cs n ad ρ pc lo (ji x :: st) M o :=
  k.row fun p e s m args below meth c H locs ls Q C hl kk => lv_i2b (v := Int32.ofInt (jw8 x)) C.1 C.2.1 hd (jbyte x) kk
theorem jo_i2s {x : Int} (hd : decode d.2.1 pc = .ok (.i2s, 1)) (k : jO g d Qf cs n ad ρ (pc + 1) lo (ji (jw16 x) :: st) M o) : jO g d Qf cs n ad ρ pc lo (ji x :: st) M o :=
  k.row fun p e s m args below meth c H locs ls Q C hl kk => lv_i2s (v := Int32.ofInt (jw16 x)) C.1 C.2.1 hd (jshort x) kk
theorem jo_iconst (v : Int) (hd : decode d.2.1 pc = .ok (.iconst v, 1)) (k : jO g d Qf cs n ad ρ (pc + 1) lo (ji v :: st) M o) : jO g d Qf cs n ad ρ pc lo st M o :=
  k.row fun p e s m args below meth c H locs ls Q C hl kk => lv_iconst C.1 C.2.1 hd rfl kk
theorem jo_bipush (v : Int) (hd : decode d.2.1 pc = .ok (.bipush v, 2)) (hv : (Int8.ofInt v).toInt32 = Int32.ofInt v) (k : jO g d Qf cs n ad ρ (pc + 2) lo (ji v :: st) M o) : jO g d Qf cs n ad ρ pc lo st M o :=
  k.row fun p e s m args below meth c H locs ls Q C hl kk => lv_bipush C.1 C.2.1 hd hv kk
theorem jo_sipush (v : Int) (hd : decode d.2.1 pc = .ok (.sipush v, 3)) (hv : (Int16.ofInt v).toInt32 = Int32.ofInt v) (k : jO g d Qf cs n ad ρ (pc + 3) lo (ji v :: st) M o) : jO g d Qf cs n ad ρ pc lo st M o :=
  k.row fun p e s m args below meth c H locs ls Q C hl kk => lv_sipush C.1 C.2.1 hd hv kk
theorem jo_lconst (v : Fin 2) (hd : decode d.2.1 pc = .ok (.lconst v, 1)) (k : jO g d Qf cs n ad ρ (pc + 1) lo (jl ((v : Nat) : Int) :: st) M o) : jO g d Qf cs n ad ρ pc lo st M o :=
  k.row fun p e s m args below meth c H locs ls Q C hl kk => lv_lconst (v := Int64.ofInt ((v : Nat) : Int)) C.1 C.2.1 hd Int64.ofInt_eq_ofNat.symm kk
theorem jo_ldc {idx : Nat} (v : Int) (hc : Cond.constant d.1 idx (Int32.ofInt v) ∈ jTW) (hd : decode d.2.1 pc = .ok (.ldc idx, 2)) (k : jO g d Qf cs n ad ρ (pc + 2) lo (ji v :: st) M o) : jO g d Qf cs n ad ρ pc lo st M o :=
  k.row fun p e s m args below meth c H locs ls Q C hl kk => lv_ldc C.1 C.2.1 C.2.2.2.2.2.2.1 (C.2.2.2.2.2.2.2.1 _ hc) hd kk
theorem jo_ldcw {idx : Nat} (v : Int) (hc : Cond.constant d.1 idx (Int32.ofInt v) ∈ jTW) (hd : decode d.2.1 pc = .ok (.ldc_w idx, 3)) (k : jO g d Qf cs n ad ρ (pc + 3) lo (ji v :: st) M o) : jO g d Qf cs n ad ρ pc lo st M o :=
  k.row fun p e s m args below meth c H locs ls Q C hl kk => lv_ldcw C.1 C.2.1 C.2.2.2.2.2.2.1 (C.2.2.2.2.2.2.2.1 _ hc) hd kk
theorem jo_ldc2 {idx : Nat} (v : Int) (hc : Cond.constantLong d.1 idx (Int64.ofInt v) ∈ jTW) (hd : decode d.2.1 pc = .ok (.ldc2_w idx, 3)) (k : jO g d Qf cs n ad ρ (pc + 3) lo (jl v :: st) M o) : jO g d Qf cs n ad ρ pc lo st M o :=
  k.row fun p e s m args below meth c H locs ls Q C hl kk => lv_ldc2 C.1 C.2.1 C.2.2.2.2.2.2.1 (C.2.2.2.2.2.2.2.1 _ hc) hd kk
theorem jo_goto {off : Int} (tgt : Nat) (hd : decode d.2.1 pc = .ok (.goto off, 3)) (ht : (pc : Int) + off = (tgt : Int)) (k : jO g d Qf cs n ad ρ tgt lo st M o) : jO g d Qf cs n ad ρ pc lo st M o :=
  k.row fun p e s m args below meth c H locs ls Q C hl kk => lv_goto C.1 C.2.1 hd ht kk
theorem jo_pop {v : Value} (hd : decode d.2.1 pc = .ok (.pop, 1)) (hv : v.category = 1) (k : jO g d Qf cs n ad ρ (pc + 1) lo st M o) : jO g d Qf cs n ad ρ pc lo (v :: st) M o :=
  k.row fun p e s m args below meth c H locs ls Q C hl kk => lv_pop C.1 C.2.1 hd ((jmv_cat ad v).trans hv) kk
theorem jo_dup {v : Value} (hd : decode d.2.1 pc = .ok (.dup, 1)) (hv : v.category = 1) (k : jO g d Qf cs n ad ρ (pc + 1) lo (v :: v :: st) M o) : jO g d Qf cs n ad ρ pc lo (v :: st) M o :=
  k.row fun p e s m args below meth c H locs ls Q C hl kk => lv_dup C.1 C.2.1 hd ((jmv_cat ad v).trans hv) kk
theorem jo_dup2 {v w : Value} (hd : decode d.2.1 pc = .ok (.dup2, 1)) (hv : v.category = 1) (hw : w.category = 1) (k : jO g d Qf cs n ad ρ (pc + 1) lo (v :: w :: v :: w :: st) M o) : jO g d Qf cs n ad ρ pc lo (v :: w :: st) M o :=
  k.row fun p e s m args below meth c H locs ls Q C hl kk => lv_dup2_11 C.1 C.2.1 hd ((jmv_cat ad v).trans hv) ((jmv_cat ad w).trans hw) kk
theorem jo_iload (i : Nat) {j : Fin 4} {x : Int} (hd : decode d.2.1 pc = .ok (.iload_n j, 1)) (hj : (j : Nat) = i) (hl0 : lo[i]? = some (some (ji x))) (k : jO g d Qf cs n ad ρ (pc + 1) lo (ji x :: st) M o) : jO g d Qf cs n ad ρ pc lo st M o :=
  k.row fun p e s m args below meth c H locs ls Q C hl kk => lv_iload_n C.1 C.2.1 hd hj (hl.2.2 i _ hl0) kk
theorem jo_iloadW (i : Nat) {x : Int} (hd : decode d.2.1 pc = .ok (.iload i, 2)) (hl0 : lo[i]? = some (some (ji x))) (k : jO g d Qf cs n ad ρ (pc + 2) lo (ji x :: st) M o) : jO g d Qf cs n ad ρ pc lo st M o :=
  k.row fun p e s m args below meth c H locs ls Q C hl kk => lv_iload C.1 C.2.1 hd (hl.2.2 i _ hl0) kk
theorem jo_lload (i : Nat) {j : Fin 4} {x : Int} (hd : decode d.2.1 pc = .ok (.lload_n j, 1)) (hj : (j : Nat) = i) (hl0 : lo[i]? = some (some (jl x))) (k : jO g d Qf cs n ad ρ (pc + 1) lo (jl x :: st) M o) : jO g d Qf cs n ad ρ pc lo st M o :=
  k.row fun p e s m args below meth c H locs ls Q C hl kk => lv_lload_n C.1 C.2.1 hd hj (hl.2.2 i _ hl0) kk
theorem jo_lloadW (i : Nat) {x : Int} (hd : decode d.2.1 pc = .ok (.lload i, 2)) (hl0 : lo[i]? = some (some (jl x))) (k : jO g d Qf cs n ad ρ (pc + 2) lo (jl x :: st) M o) : jO g d Qf cs n ad ρ pc lo st M o :=
  k.row fun p e s m args below meth c H locs ls Q C hl kk => lv_lload C.1 C.2.1 hd (hl.2.2 i _ hl0) kk
theorem jo_aload (i : Nat) {j : Fin 4} {x : Nat} (hd : decode d.2.1 pc = .ok (.aload_n j, 1)) (hj : (j : Nat) = i) (hl0 : lo[i]? = some (some (.ref x))) (k : jO g d Qf cs n ad ρ (pc + 1) lo (.ref x :: st) M o) : jO g d Qf cs n ad ρ pc lo st M o :=
  k.row fun p e s m args below meth c H locs ls Q C hl kk => lv_aload_n C.1 C.2.1 hd hj (hl.2.2 i _ hl0) kk
theorem jo_aloadW (i : Nat) {x : Nat} (hd : decode d.2.1 pc = .ok (.aload i, 2)) (hl0 : lo[i]? = some (some (.ref x))) (k : jO g d Qf cs n ad ρ (pc + 2) lo (.ref x :: st) M o) : jO g d Qf cs n ad ρ pc lo st M o :=
  k.row fun p e s m args below meth c H locs ls Q C hl kk => lv_aload C.1 C.2.1 hd (hl.2.2 i _ hl0) kk
/-! stores into locals -/
def jc2 : Option Value → Bool
  | some (.long _) => true
  | some (.double _) => true
  | _ => false
theorem jc2_cat {v : Value} (h : v.category = 2) : jc2 (some v) = true := by cases v <;> first | rfl | cases h
/-- place i gets v, what reaches into it from the place ahead goes -/
def jst1 : List (Option Value) → Nat → Value → List (Option Value)
  | [], _, _ => []
  | _ :: l, 0, v => some v :: l
  | a :: l, 1, v => (if jc2 a then none else a) :: jst1 l 0 v
  | a :: l, i + 2, v => a :: jst1 l (i + 1) v
def jst2 : List (Option Value) → Nat → Value → List (Option Value)
  | [], _, _ => []
  | [_], 0, _ => [none]
  | _ :: _ :: l, 0, v => some v :: none :: l
  | a :: l, 1, v => (if jc2 a then none else a) :: jst2 l 0 v
  | a :: l, i + 2, v => a :: jst2 l (i + 1) v
theorem jst1_at : ∀ (lo : List (Option Value)) (i : Nat) (v : Value) (j : Nat) (u : Value), (jst1 lo i v)[j]? = some (some u) → (j = i ∧ u = v) ∨ (j ≠ i ∧ lo[j]? = some (some u) ∧ ¬ (j + 1 = i ∧ u.category = 2))
  | [], _, _, j, u, h => by simp [jst1] at h
  | a :: l, 0, v, j, u, h => by
    cases j with
    | zero => simp [jst1] at h; exact Or.inl ⟨rfl, h.symm⟩
    | succ j => exact Or.inr ⟨by omega, by simpa [jst1] using h, by omega⟩
  | a :: l, 1, v, j, u, h => by
    cases j with
    | zero =>
      by_cases hc : jc2 a = true
      · simp [jst1, hc] at h
      · simp [jst1, hc] at h
        subst h
        exact Or.inr ⟨by omega, by simp, fun q => hc (jc2_cat q.2)⟩
    | succ j =>
      have h2 : (jst1 l 0 v)[j]? = some (some u) := by simpa [jst1] using h
      rcases jst1_at l 0 v j u h2 with ⟨e, e2⟩ | ⟨e, e2, e3⟩
      · exact Or.inl ⟨by omega, e2⟩
      · exact Or.inr ⟨by omega, by simpa using e2, by omega⟩
  | a :: l, i + 2, v, j, u, h => by
    cases j with
    | zero => exact Or.inr ⟨by omega, by simpa [jst1] using h, by omega⟩
    | succ j =>
      have h2 : (jst1 l (i + 1) v)[j]? = some (some u) := by simpa [jst1] using h
      rcases jst1_at l (i + 1) v j u h2 with ⟨e, e2⟩ | ⟨e, e2, e3⟩
      · exact Or.inl ⟨by omega, e2⟩
      · exact Or.inr ⟨by omega, by simpa using e2, fun q => e3 ⟨by omega, q.2⟩⟩
theorem jst2_at : ∀ (lo : List (Option Value)) (i : Nat) (v : Value) (j : Nat) (u : Value), (jst2 lo i v)[j]? = some (some u) → (j = i ∧ u = v) ∨ (j ≠ i ∧ j ≠ i + 1 ∧ lo[j]? = some (some u) ∧ ¬ (j + 1 = i ∧ u.category = 2))
  | [], _, _, j, u, h => by simp [jst2] at h
  | [a], 0, v, j, u, h => by
    cases j <;> simp [jst2] at h
  | a :: b :: l, 0, v, j, u, h => by
    match j, h with
    | 0, h => simp [jst2] at h; exact Or.inl ⟨rfl, h.symm⟩
    | 1, h => simp [jst2] at h
    | j + 2, h => exact Or.inr ⟨by omega, by omega, by simpa [jst2] using h, by omega⟩
  | a :: l, 1, v, j, u, h => by
    cases j with
    | zero =>
      by_cases hc : jc2 a = true
      · simp [jst2, hc] at h
      · simp [jst2, hc] at h
        subst h
        exact Or.inr ⟨by omega, by omega, by simp, fun q => hc (jc2_cat q.2)⟩
    | succ j =>
      have h2 : (jst2 l 0 v)[j]? = some (some u) := by simpa [jst2] using h
      rcases jst2_at l 0 v j u h2 with ⟨e, e2⟩ | ⟨e, e1, e2, e3⟩
      · exact Or.inl ⟨by omega, e2⟩
      · exact Or.inr ⟨by omega, by omega, by simpa using e2, by omega⟩
  | a :: l, i + 2, v, j, u, h => by
    cases j with
    | zero => exact Or.inr ⟨by omega, by omega, by simpa [jst2] using h, by omega⟩
    | succ j =>
      have h2 : (jst2 l (i + 1) v)[j]? = some (some u) := by simpa [jst2] using h
      rcases jst2_at l (i + 1) v j u h2 with ⟨e, e2⟩ | ⟨e, e1, e2, e3⟩
      · exact Or.inl ⟨by omega, e2⟩
      · exact Or.inr ⟨by omega, by omega, by simpa using e2, fun q => e3 ⟨by omega, q.2⟩⟩
/-- the locals as the kit lists them -/
def jtoLv (ad : Nat → Nat) (lo : List (Option Value)) : List (Nat × Value) := (List.range lo.length).filterMap (fun i => match lo[i]? with
  | some (some v) => some (i, jmv ad v)
  | _ => none)
theorem jtoLv_mem {ad : Nat → Nat} {lo : List (Option Value)} {i : Nat} {v : Value} (h : lo[i]? = some (some v)) : (i, jmv ad v) ∈ jtoLv ad lo := by
  refine List.mem_filterMap.mpr ⟨i, List.mem_range.mpr (List.getElem?_eq_some_iff.mp h).1, ?_⟩
  rw [h]
theorem jhas_lv {ad : Nat → Nat} {ls : Array Slot} {nL : Nat} {lo : List (Option Value)} (h : jhas ad ls nL lo) : lv_has ls nL (jtoLv ad lo) := by
  refine ⟨h.1, h.2.1, fun q hq => ?_⟩
  obtain ⟨i, -, hi⟩ := List.mem_filterMap.mp hq
  split at hi
  · rename_i v hv
    cases hi
    exact h.2.2 i v hv
  · cases hi
theorem jhas_st1 {ad : Nat → Nat} {ls : Array Slot} {nL i : Nat} {lo : List (Option Value)} {v : Value} (h : lv_has ls nL ((i, jmv ad v) :: (jtoLv ad lo).filter (fun q => !(q.1 == i) && !(q.1 + 1 == i && q.2.category == 2)))) : jhas ad ls nL (jst1 lo i v) := by
  refine ⟨h.1, h.2.1, fun j u hu => ?_⟩
  rcases jst1_at lo i v j u hu with ⟨rfl, rfl⟩ | ⟨e1, e2, e3⟩
  · exact h.2.2 _ List.mem_cons_self
  · refine h.2.2 (j, jmv ad u) (List.mem_cons_of_mem _ (List.mem_filter.mpr ⟨jtoLv_mem e2, ?_⟩))
    simp only [Bool.and_eq_true, Bool.not_eq_true', beq_eq_false_iff_ne, Bool.and_eq_false_iff]
    refine ⟨e1, ?_⟩
    by_cases h1 : j + 1 = i
    · exact Or.inr (fun q => e3 ⟨h1, by rw [← jmv_cat ad u]; exact q⟩)
    · exact Or.inl h1
theorem jhas_st2 {ad : Nat → Nat} {ls : Array Slot} {nL i : Nat} {lo : List (Option Value)} {v : Value} (h : lv_has ls nL ((i, jmv ad v) :: (jtoLv ad lo).filter (fun q => !(q.1 == i) && (!(q.1 == i + 1) && !(q.1 + 1 == i && q.2.category == 2))))) : jhas ad ls nL (jst2 lo i v) := by
  refine ⟨h.1, h.2.1, fun j u hu => ?_⟩
  rcases jst2_at lo i v j u hu with ⟨rfl, rfl⟩ | ⟨e1, e0, e2, e3⟩
  · exact h.2.2 _ List.mem_cons_self
  · refine h.2.2 (j, jmv ad u) (List.mem_cons_of_mem _ (List.mem_filter.mpr ⟨jtoLv_mem e2, ?_⟩))
    simp only [Bool.and_eq_true, Bool.not_eq_true', beq_eq_false_iff_ne, Bool.and_eq_false_iff]
    refine ⟨e1, e0, ?_⟩
    by_cases h1 : j + 1 = i
    · exact Or.inr (fun q => e3 ⟨h1, by rw [← jmv_cat ad u]; exact q⟩)
    · exact Or.inl h1
theorem jO.rowL {st' : List Value} {pc' : Nat} {lo' : List (Option Value)} (k : jO g d Qf cs n ad ρ pc' lo' st' M o)
    (h : ∀ (p : Program) (e : Env) (s : State) (m : MethodId) (args : Array Value) (below : List Frame) (meth : Method) (c : Code) (H : Heap) (locs : List Loc) (ls : Array Slot) (Q : State → Prop), jCx g d p s m args meth c → jhas ad ls d.2.2.1 lo →
      (∀ ls', jhas ad ls' d.2.2.1 lo' → W p g.2.2.2.1 e d.2.2.2.2.2 s m args below meth c H locs cs.1 cs.2 Q (F0 m pc' ls' (st'.map (jmv ad)))) → W p g.2.2.2.1 e d.2.2.2.2.2 s m args below meth c H locs cs.1 cs.2 Q (F0 m pc ls (st.map (jmv ad)))) : jO g d Qf cs n ad ρ pc lo st M o := by
  intro x hx p e s m args below meth c H locs ls C hH hS hl
  exact h p e s m args below meth c H locs ls _ C hl (fun ls' hl' => k x hx p e s m args below meth c H locs ls' C hH hS hl')
theorem jo_istore {f : Int → Option α} (i : Nat) {j : Fin 4} {x : Int} (hd : decode d.2.1 pc = .ok (.istore_n j, 1)) (hj : (j : Nat) = i) (hn : i < d.2.2.1) (k : ∀ y : Int, jO g d Qf cs n ad ρ (pc + 1) (jst1 lo i (ji y)) st M (f y)) : jO g d Qf cs n ad ρ pc lo (ji x :: st) M (letv x f) :=
  jO.rowL (k x) fun p e s m args below meth c H locs ls Q C hl kk => lv_istore_n C.1 C.2.1 hd hj (jhas_lv hl) hn rfl (fun ls' h' => kk ls' (jhas_st1 h'))
theorem jo_istoreW {f : Int → Option α} (i : Nat) {x : Int} (hd : decode d.2.1 pc = .ok (.istore i, 2)) (hn : i < d.2.2.1) (k : ∀ y : Int, jO g d Qf cs n ad ρ (pc + 2) (jst1 lo i (ji y)) st M (f y)) : jO g d Qf cs n ad ρ pc lo (ji x :: st) M (letv x f) :=
  jO.rowL (k x) fun p e s m args below meth c H locs ls Q C hl kk => lv_istore C.1 C.2.1 hd (jhas_lv hl) hn rfl (fun ls' h' => kk ls' (jhas_st1 h'))
theorem jo_lstore {f : Int → Option α} (i : Nat) {j : Fin 4} {x : Int} (hd : decode d.2.1 pc = .ok (.lstore_n j, 1)) (hj : (j : Nat) = i) (hn : i + 1 < d.2.2.1) (k : ∀ y : Int, jO g d Qf cs n ad ρ (pc + 1) (jst2 lo i (jl y)) st M (f y)) : jO g d Qf cs n ad ρ pc lo (jl x :: st) M (letv x f) :=
  jO.rowL (k x) fun p e s m args below meth c H locs ls Q C hl kk => lv_lstore_n C.1 C.2.1 hd hj (jhas_lv hl) hn rfl (fun ls' h' => kk ls' (jhas_st2 h'))
theorem jo_lstoreW {f : Int → Option α} (i : Nat) {x : Int} (hd : decode d.2.1 pc = .ok (.lstore i, 2)) (hn : i + 1 < d.2.2.1) (k : ∀ y : Int, jO g d Qf cs n ad ρ (pc + 2) (jst2 lo i (jl y)) st M (f y)) : jO g d Qf cs n ad ρ pc lo (jl x :: st) M (letv x f) :=
  jO.rowL (k x) fun p e s m args below meth c H locs ls Q C hl kk => lv_lstore C.1 C.2.1 hd (jhas_lv hl) hn rfl (fun ls' h' => kk ls' (jhas_st2 h'))
theorem jo_astore (i : Nat) {j : Fin 4} {x : Nat} (hd : decode d.2.1 pc = .ok (.astore_n j, 1)) (hj : (j : Nat) = i) (hn : i < d.2.2.1) (k : jO g d Qf cs n ad ρ (pc + 1) (jst1 lo i (.ref x)) st M o) : jO g d Qf cs n ad ρ pc lo (.ref x :: st) M o :=
  jO.rowL k fun p e s m args below meth c H locs ls Q C hl kk => lv_astore_n C.1 C.2.1 hd hj (jhas_lv hl) hn rfl (fun ls' h' => kk ls' (jhas_st1 h'))
theorem jo_iinc {f : Int → Option α} (i : Nat) {v : Int} {x : Int} (hd : decode d.2.1 pc = .ok (.iinc i v, 3)) (hl0 : lo[i]? = some (some (ji x))) (hn : i < d.2.2.1) (k : ∀ y : Int, jO g d Qf cs n ad ρ (pc + 3) (jst1 lo i (ji y)) st M (f y)) : jO g d Qf cs n ad ρ pc lo st M (letv (x + v) f) := by
  refine jO.rowL (k (x + v)) fun p e s m args below meth c H locs ls Q C hl kk => ?_
  obtain ⟨kk0, hkk0⟩ := List.getElem?_of_mem (jtoLv_mem (ad := ad) hl0)
  exact lv_iinc (v := Int32.ofInt (x + v)) C.1 C.2.1 hd (jhas_lv hl) hkk0 (Int32.ofInt_add x v).symm hn rfl (fun ls' h' => kk ls' (jhas_st1 h'))
/-! branches -/
theorem jo_if {P : Prop} [Decidable P] {o1 o2 : Option α} (k1 : P → jO g d Qf cs n ad ρ pc lo st M o1) (k2 : ¬ P → jO g d Qf cs n ad ρ pc lo st M o2) : jO g d Qf cs n ad ρ pc lo st M (if P then o1 else o2) := by
  by_cases h : P
  · rw [if_pos h]; exact k1 h
  · rw [if_neg h]; exact k2 h
theorem jO.row2 {P : Prop} [Decidable P] {o1 o2 : Option α} {pc1 pc2 : Nat} {st' : List Value} (k1 : jO g d Qf cs n ad ρ pc1 lo st' M o1) (k2 : jO g d Qf cs n ad ρ pc2 lo st' M o2)
    (h : ∀ (p : Program) (e : Env) (s : State) (m : MethodId) (args : Array Value) (below : List Frame) (meth : Method) (c : Code) (H : Heap) (locs : List Loc) (ls : Array Slot) (Q : State → Prop), jCx g d p s m args meth c →
      (P → W p g.2.2.2.1 e d.2.2.2.2.2 s m args below meth c H locs cs.1 cs.2 Q (F0 m pc1 ls (st'.map (jmv ad)))) → (¬ P → W p g.2.2.2.1 e d.2.2.2.2.2 s m args below meth c H locs cs.1 cs.2 Q (F0 m pc2 ls (st'.map (jmv ad)))) → W p g.2.2.2.1 e d.2.2.2.2.2 s m args below meth c H locs cs.1 cs.2 Q (F0 m pc ls (st.map (jmv ad)))) : jO g d Qf cs n ad ρ pc lo st M (if P then o1 else o2) := by
  intro x hx p e s m args below meth c H locs ls C hH hS hl
  refine h p e s m args below meth c H locs ls _ C (fun hp => ?_) (fun hp => ?_)
  · rw [if_pos hp] at hx
    exact k1 x hx p e s m args below meth c H locs ls C hH hS hl
  · rw [if_neg hp] at hx
    exact k2 x hx p e s m args below meth c H locs ls C hH hS hl
theorem ji_z {x : Int} : Int32.ofInt x = 0 ↔ jw x = 0 := by rw [show (0 : Int32) = Int32.ofInt 0 from rfl, ji_eq, jw_0]
theorem ji_zlt {x : Int} : Int32.ofInt x < 0 ↔ jw x < 0 := by rw [show (0 : Int32) = Int32.ofInt 0 from rfl, ji_lt, jw_0]
theorem ji_ltz {x : Int} : 0 < Int32.ofInt x ↔ 0 < jw x := by rw [show (0 : Int32) = Int32.ofInt 0 from rfl, ji_lt, jw_0]
theorem ji_zle {x : Int} : Int32.ofInt x ≤ 0 ↔ jw x ≤ 0 := by rw [show (0 : Int32) = Int32.ofInt 0 from rfl, ji_le, jw_0]
theorem ji_lez {x : Int} : 0 ≤ Int32.ofInt x ↔ 0 ≤ jw x := by rw [show (0 : Int32) = Int32.ofInt 0 from rfl, ji_le, jw_0]
section BR
variable {o1 o2 : Option α} {off : Int} (tgt : Nat) {x y : Int}
theorem jo_icmp_eq (hd : decode d.2.1 pc = .ok (.if_icmp .eq off, 3)) (ht : (pc : Int) + off = (tgt : Int)) (k1 : jO g d Qf cs n ad ρ tgt lo st M o1) (k2 : jO g d Qf cs n ad ρ (pc + 3) lo st M o2) : jO g d Qf cs n ad ρ pc lo (ji y :: ji x :: st) M (if jw x = jw y then o1 else o2) :=
  jO.row2 k1 k2 fun p e s m args below meth c H locs ls Q C h1 h2 => lv_icmp_eq C.1 C.2.1 hd ht (fun q => h1 (ji_eq.mp q)) (fun q => h2 (fun z => q (ji_eq.mpr z)))
theorem jo_icmp_ne (hd : decode d.2.1 pc = .ok (.if_icmp .ne off, 3)) (ht : (pc : Int) + off = (tgt : Int)) (k1 : jO g d Qf cs n ad ρ tgt lo st M o1) (k2 : jO g d Qf cs n ad ρ (pc + 3) lo st M o2) : jO g d Qf cs n ad ρ pc lo (ji y :: ji x :: st) M (if jw x = jw y then o2 else o1) := by
  refine jO.row2 k2 k1 fun p e s m args below meth c H locs ls Q C h1 h2 => lv_icmp_ne C.1 C.2.1 hd ht (fun q => h2 (fun z => q (ji_eq.mpr z))) (fun q => h1 (ji_eq.mp q))
theorem jo_icmp_lt (hd : decode d.2.1 pc = .ok (.if_icmp .lt off, 3)) (ht : (pc : Int) + off = (tgt : Int)) (k1 : jO g d Qf cs n ad ρ tgt lo st M o1) (k2 : jO g d Qf cs n ad ρ (pc + 3) lo st M o2) : jO g d Qf cs n ad ρ pc lo (ji y :: ji x :: st) M (if jw x < jw y then o1 else o2) :=
  jO.row2 k1 k2 fun p e s m args below meth c H locs ls Q C h1 h2 => lv_icmp_lt C.1 C.2.1 hd ht (fun q => h1 (ji_lt.mp q)) (fun q => h2 (fun z => q (ji_lt.mpr z)))
theorem jo_icmp_ge (hd : decode d.2.1 pc = .ok (.if_icmp .ge off, 3)) (ht : (pc : Int) + off = (tgt : Int)) (k1 : jO g d Qf cs n ad ρ tgt lo st M o1) (k2 : jO g d Qf cs n ad ρ (pc + 3) lo st M o2) : jO g d Qf cs n ad ρ pc lo (ji y :: ji x :: st) M (if jw y ≤ jw x then o1 else o2) :=
  jO.row2 k1 k2 fun p e s m args below meth c H locs ls Q C h1 h2 => lv_icmp_ge C.1 C.2.1 hd ht (fun q => h1 (ji_le.mp q)) (fun q => h2 (fun z => q (ji_le.mpr z)))
theorem jo_icmp_gt (hd : decode d.2.1 pc = .ok (.if_icmp .gt off, 3)) (ht : (pc : Int) + off = (tgt : Int)) (k1 : jO g d Qf cs n ad ρ tgt lo st M o1) (k2 : jO g d Qf cs n ad ρ (pc + 3) lo st M o2) : jO g d Qf cs n ad ρ pc lo (ji y :: ji x :: st) M (if jw y < jw x then o1 else o2) :=
  jO.row2 k1 k2 fun p e s m args below meth c H locs ls Q C h1 h2 => lv_icmp_gt C.1 C.2.1 hd ht (fun q => h1 (ji_lt.mp q)) (fun q => h2 (fun z => q (ji_lt.mpr z)))
theorem jo_icmp_le (hd : decode d.2.1 pc = .ok (.if_icmp .le off, 3)) (ht : (pc : Int) + off = (tgt : Int)) (k1 : jO g d Qf cs n ad ρ tgt lo st M o1) (k2 : jO g d Qf cs n ad ρ (pc + 3) lo st M o2) : jO g d Qf cs n ad ρ pc lo (ji y :: ji x :: st) M (if jw x ≤ jw y then o1 else o2) :=
  jO.row2 k1 k2 fun p e s m args below meth c H locs ls Q C h1 h2 => lv_icmp_le C.1 C.2.1 hd ht (fun q => h1 (ji_le.mp q)) (fun q => h2 (fun z => q (ji_le.mpr z)))
theorem jo_if_eq (hd : decode d.2.1 pc = .ok (.ifCond .eq off, 3)) (ht : (pc : Int) + off = (tgt : Int)) (k1 : jO g d Qf cs n ad ρ tgt lo st M o1) (k2 : jO g d Qf cs n ad ρ (pc + 3) lo st M o2) : jO g d Qf cs n ad ρ pc lo (ji x :: st) M (if jw x = 0 then o1 else o2) :=
  jO.row2 k1 k2 fun p e s m args below meth c H locs ls Q C h1 h2 => lv_if_eq C.1 C.2.1 hd ht (fun q => h1 (ji_z.mp q)) (fun q => h2 (fun z => q (ji_z.mpr z)))
theorem jo_if_ne (hd : decode d.2.1 pc = .ok (.ifCond .ne off, 3)) (ht : (pc : Int) + off = (tgt : Int)) (k1 : jO g d Qf cs n ad ρ tgt lo st M o1) (k2 : jO g d Qf cs n ad ρ (pc + 3) lo st M o2) : jO g d Qf cs n ad ρ pc lo (ji x :: st) M (if jw x = 0 then o2 else o1) :=
  jO.row2 k2 k1 fun p e s m args below meth c H locs ls Q C h1 h2 => lv_if_ne C.1 C.2.1 hd ht (fun q => h2 (fun z => q (ji_z.mpr z))) (fun q => h1 (ji_z.mp q))
theorem jo_if_lt (hd : decode d.2.1 pc = .ok (.ifCond .lt off, 3)) (ht : (pc : Int) + off = (tgt : Int)) (k1 : jO g d Qf cs n ad ρ tgt lo st M o1) (k2 : jO g d Qf cs n ad ρ (pc + 3) lo st M o2) : jO g d Qf cs n ad ρ pc lo (ji x :: st) M (if jw x < 0 then o1 else o2) :=
  jO.row2 k1 k2 fun p e s m args below meth c H locs ls Q C h1 h2 => lv_if_lt C.1 C.2.1 hd ht (fun q => h1 (ji_zlt.mp q)) (fun q => h2 (fun z => q (ji_zlt.mpr z)))
theorem jo_if_ge (hd : decode d.2.1 pc = .ok (.ifCond .ge off, 3)) (ht : (pc : Int) + off = (tgt : Int)) (k1 : jO g d Qf cs n ad ρ tgt lo st M o1) (k2 : jO g d Qf cs n ad ρ (pc + 3) lo st M o2) : jO g d Qf cs n ad ρ pc lo (ji x :: st) M (if 0 ≤ jw x then o1 else o2) :=
  jO.row2 k1 k2 fun p e s m args below meth c H locs ls Q C h1 h2 => lv_if_ge C.1 C.2.1 hd ht (fun q => h1 (ji_lez.mp q)) (fun q => h2 (fun z => q (ji_lez.mpr z)))
theorem jo_if_gt (hd : decode d.2.1 pc = .ok (.ifCond .gt off, 3)) (ht : (pc : Int) + off = (tgt : Int)) (k1 : jO g d Qf cs n ad ρ tgt lo st M o1) (k2 : jO g d Qf cs n ad ρ (pc + 3) lo st M o2) : jO g d Qf cs n ad ρ pc lo (ji x :: st) M (if 0 < jw x then o1 else o2) :=
  jO.row2 k1 k2 fun p e s m args below meth c H locs ls Q C h1 h2 => lv_if_gt C.1 C.2.1 hd ht (fun q => h1 (ji_ltz.mp q)) (fun q => h2 (fun z => q (ji_ltz.mpr z)))
theorem jo_if_le (hd : decode d.2.1 pc = .ok (.ifCond .le off, 3)) (ht : (pc : Int) + off = (tgt : Int)) (k1 : jO g d Qf cs n ad ρ tgt lo st M o1) (k2 : jO g d Qf cs n ad ρ (pc + 3) lo st M o2) : jO g d Qf cs n ad ρ pc lo (ji x :: st) M (if jw x ≤ 0 then o1 else o2) :=
  jO.row2 k1 k2 fun p e s m args below meth c H locs ls Q C h1 h2 => lv_if_le C.1 C.2.1 hd ht (fun q => h1 (ji_zle.mp q)) (fun q => h2 (fun z => q (ji_zle.mpr z)))
theorem jo_tabIn {dflt lo0 hi : Int} {offs : Array Int} {len : Nat} (hd : decode d.2.1 pc = .ok (.tableswitch dflt lo0 hi offs, len)) (v : Int) (hx : jw x = v) (h1 : ¬ v < lo0) (h2 : ¬ hi < v) (ho : offs[(v - lo0).toNat]? = some off) (ht : (pc : Int) + off = (tgt : Int)) (k : jO g d Qf cs n ad ρ tgt lo st M o) : jO g d Qf cs n ad ρ pc lo (ji x :: st) M o :=
  k.row fun p e s m args below meth c H locs ls Q C hl kk => lv_tableIn C.1 C.2.1 hd (by rw [jw_i, hx]; exact h1) (by rw [jw_i, hx]; exact h2) (by rw [jw_i, hx]; exact ho) ht kk
theorem jo_tabOut {dflt lo0 hi : Int} {offs : Array Int} {len : Nat} (hd : decode d.2.1 pc = .ok (.tableswitch dflt lo0 hi offs, len)) (h : jw x < lo0 ∨ hi < jw x) (ht : (pc : Int) + dflt = (tgt : Int)) (k : jO g d Qf cs n ad ρ tgt lo st M o) : jO g d Qf cs n ad ρ pc lo (ji x :: st) M o :=
  k.row fun p e s m args below meth c H locs ls Q C hl kk => lv_tableOut C.1 C.2.1 hd (by rw [jw_i]; exact h) ht kk
theorem jo_lookup {dflt : Int} {ps : Array (Int × Int)} {len : Nat} (hd : decode d.2.1 pc = .ok (.lookupswitch dflt ps, len)) (hp : (ps.toList.zip (ps.toList.drop 1)).all (fun (a, next) => a.1 < next.1) = true) (ho : Op.lookupswitch.offset ps.toList dflt (jw x) = off) (ht : (pc : Int) + off = (tgt : Int)) (k : jO g d Qf cs n ad ρ tgt lo st M o) : jO g d Qf cs n ad ρ pc lo (ji x :: st) M o :=
  k.row fun p e s m args below meth c H locs ls Q C hl kk => lv_lookup C.1 C.2.1 hd hp (by rw [jw_i]; exact ho) ht kk
end BR
end JROWS

section JMORE
/-- the judgement for a method's body, the world laid out -/
abbrev jB (g : JG) (d : JD) (ad : Nat → Nat) (pc : Nat) (lo : List (Option Value)) (st : List Value) (M : JMem) (o : Option (Int × JMem)) : Prop := jO g d (jMQ g jNN ad jR d.2.2.2.1) (0, 0) jNN ad jR pc lo st M o
/-- where the texts lie -/
def jStr (g : JG) (ad : Nat → Nat) : Prop := ad 1000 = g.2.2.2.2.1 0 ∧ ad 1001 = g.2.2.2.2.1 1 ∧ ad 1002 = g.2.2.2.2.2.1 0 ∧ ad 1003 = g.2.2.2.2.2.1 1 ∧ ad 1004 = g.2.2.2.2.2.1 2
variable {α : Type} {g : JG} {d : JD} {Qf : JQ α} {cs : Nat × Nat} {n : Nat} {ad : Nat → Nat} {ρ : JRho} {pc : Nat} {lo : List (Option Value)} {st : List Value} {M : JMem} {o : Option α}
theorem jo_lconst0 (hd : decode d.2.1 pc = .ok (.lconst 0, 1)) (k : jO g d Qf cs n ad ρ (pc + 1) lo (jl 0 :: st) M o) : jO g d Qf cs n ad ρ pc lo st M o := jo_lconst 0 hd k
theorem jo_lconst1 (hd : decode d.2.1 pc = .ok (.lconst 1, 1)) (k : jO g d Qf cs n ad ρ (pc + 1) lo (jl 1 :: st) M o) : jO g d Qf cs n ad ρ pc lo st M o := jo_lconst 1 hd k
theorem jo_ldcS (hs : jStr g ad) (hd : decode d.2.1 pc = .ok (.ldc 180, 2)) (k : jO g d Qf cs n ad ρ (pc + 2) lo (.ref 1001 :: st) M o) (hown : d.1 = RX12 := by rfl) : jO g d Qf cs n ad ρ pc lo st M o :=
  k.row fun p e s m args below meth c H locs ls Q C hl kk => va_ldcS C.1 C.2.1 C.2.2.2.2.2.2.1 (by rw [hown]; exact C.2.2.2.2.2.2.2.2.2.2.2.1) hd (by
    have e1 : (Value.ref 1001 :: st).map (jmv ad) = .ref (ad 1001) :: st.map (jmv ad) := rfl
    rw [e1, hs.2.1] at kk
    exact kk)
/-! Math.min -/
def jmin (x y : Int) : Int := if jw y < jw x then y else x
theorem st_min : Cond.static Lib.Math.min.name ∈ jTW := jTW_mem (k := 1260) (by decide +kernel) rfl
theorem ini_min : Cond.initialized "java/lang/Math" ∈ jTW := jTW_mem (k := 153) (by decide +kernel) rfl
theorem code_min : Cond.code Lib.Math.min.name Lib.Math.min.code 2 (some .int) ∈ jTW := jTW_mem (k := 1261) (by decide +kernel) rfl
theorem jo_mmin {idx : Nat} {x y : Int} (hlink : Cond.methodLink d.1 idx Lib.Math.min.name ∈ jTW) (hf : 1 ≤ d.2.2.2.2.2.frames) (hlo : (st.map fun v => v.category).sum + 13 ≤ d.2.2.2.2.2.locals) (hcs : cs.1 ≤ d.2.2.2.2.2.cells ∧ cs.2 ≤ d.2.2.2.2.2.slots) (hd : decode d.2.1 pc = .ok (.invokestatic idx, 3))
    (k : jO g d Qf cs n ad ρ (pc + 3) lo (ji (jmin x y) :: st) M o) : jO g d Qf cs n ad ρ pc lo (ji y :: ji x :: st) M o :=
  k.row fun p e s m args below meth c H locs ls Q C hl kk => va_mmin C.1 C.2.1 (C.2.2.1.trans hl.1.symm) C.2.2.2.2.2.2.1 (C.2.2.2.2.2.2.2.1 _ hlink) (C.2.2.2.2.2.2.2.1 _ st_min) (C.2.2.2.2.2.2.2.1 _ ini_min) (C.2.2.2.2.2.2.2.1 _ code_min) hf (by rw [jcat]; exact hlo) hcs.1 hcs.2 hd (by
    have e1 : (if Int32.ofInt y < Int32.ofInt x then Int32.ofInt y else Int32.ofInt x) = Int32.ofInt (jmin x y) := by
      unfold jmin
      by_cases h : jw y < jw x
      · rw [if_pos h, if_pos (ji_lt.mpr h)]
      · rw [if_neg h, if_neg (fun q => h (ji_lt.mp q))]
    rw [e1]
    exact kk)
/-! System.arraycopy -/
theorem nat_cpy : Cond.native arraycopyName ∈ jTW := jTW_mem (k := 739) (by decide +kernel) rfl
theorem st_cpy : Cond.static arraycopyName ∈ jTW := jTW_mem (k := 738) (by decide +kernel) rfl
theorem ini_cpy : Cond.initialized "java/lang/System" ∈ jTW := jTW_mem (k := 152) (by decide +kernel) rfl
abbrev jcpok (sp dp ln : Int) (n0 n1 : Nat) : Prop := 0 ≤ jw sp ∧ 0 ≤ jw dp ∧ 0 ≤ jw ln ∧ jw sp + jw ln ≤ n0 ∧ jw dp + jw ln ≤ n1
/-- so many numbers of one row come to another one's (or its own) place on -/
def jcpy (M : JMem) (a : Nat) (sp : Int) (b : Nat) (dp ln : Int) : JMem := jrow M b (va_cpy (M a) (M b) (jw sp).toNat (jw dp).toNat (jw ln).toNat)
theorem jnn {x : Int} (h : 0 ≤ jw x) : ¬ Int32.ofInt x < 0 := fun q => by have := ji_zlt.mp q; omega
theorem jo_cpyI {idx : Nat} {a0 a n0 n1 : Nat} {sp dp ln : Int} {f : JMem → Option α} (hlink : Cond.methodLink d.1 idx arraycopyName ∈ jTW) (ha0 : jK n (1, n0) a0) (ha : jK n (1, n1) a) (hf : 1 ≤ d.2.2.2.2.2.frames) (hlo : (st.map fun v => v.category).sum + (nativeFrameWords "java/lang/System" "arraycopy" 5 + 11) ≤ d.2.2.2.2.2.locals) (hd : decode d.2.1 pc = .ok (.invokestatic idx, 3))
    (k : ∀ M', jO g d Qf cs n ad ρ (pc + 3) lo st M' (f M')) : jO g d Qf cs n ad ρ pc lo (ji ln :: ji dp :: .ref a :: ji sp :: .ref a0 :: st) M (chk (jcpok sp dp ln n0 n1) (letm (jcpy M a0 sp a dp ln) f)) := by
  refine jchk fun hc => ?_
  obtain ⟨h1, h2, h3, h4, h5⟩ := hc
  intro z hz p e s m args below meth c H locs ls Cx hH hS hl
  obtain ⟨hx1, hb, hml, hr, hlk, hnm, hown, hts, hT, hX⟩ := id Cx
  refine va_copyi hx1 hb (hml.trans hl.1.symm) hown (hts _ hlink) (hts _ nat_cpy) (hts _ st_cpy) (hts _ ini_cpy) hT.2 hH.1 hH.2 hS a0 a 0 0 (jat ha0) (jat ha) jty0 jty0 rfl (jnn h1) (jnn h2) (jnn h3) (by rw [ji_nat, ji_nat]; omega) (by rw [ji_nat, ji_nat]; omega) (fun i hi => rfl) hf (by rw [jcat]; exact hlo) hd (fun H1 locs1 hP hD hS1 => ?_)
  have he : (jWl g.2.1 n ad ρ M).set a (ad a, .inl (g.2.1 0, n1, .inl (va_cpy (fun j => Int32.ofInt (M a0 j)) (fun j => Int32.ofInt (M a j)) (Int32.ofInt sp).toNatClampNeg (Int32.ofInt dp).toNatClampNeg (Int32.ofInt ln).toNatClampNeg))) = jWl g.2.1 n ad ρ (jcpy M a0 sp a dp ln) := by
    have e2 : va_cpy (fun j => Int32.ofInt (M a0 j)) (fun j => Int32.ofInt (M a j)) (Int32.ofInt sp).toNatClampNeg (Int32.ofInt dp).toNatClampNeg (Int32.ofInt ln).toNatClampNeg = fun j => Int32.ofInt (jcpy M a0 sp a dp ln a j) := by
      funext j
      simp only [va_cpy, jcpy, jrow, if_true, ji_nat]
      split <;> rfl
    rw [e2]
    have e3 : (jE g.2.1 ad (1, n1) (jcpy M a0 sp a dp ln a) (ρ a)) = .inl (g.2.1 0, n1, .inl (fun j => Int32.ofInt (jcpy M a0 sp a dp ln a j))) := rfl
    rw [← e3, ← ha.2]
    exact jWl_set (fun b hb => funext fun j => if_neg hb) (fun b _ => rfl)
  exact k _ z hz p e s m args below meth c H1 locs1 ls Cx ⟨by rw [← he]; exact hP, by rw [← he]; exact hD⟩ hS1 hl
theorem jo_cpyL {idx : Nat} {a0 a n0 n1 : Nat} {sp dp ln : Int} {f : JMem → Option α} (hlink : Cond.methodLink d.1 idx arraycopyName ∈ jTW) (ha0 : jK n (2, n0) a0) (ha : jK n (2, n1) a) (hf : 1 ≤ d.2.2.2.2.2.frames) (hlo : (st.map fun v => v.category).sum + (nativeFrameWords "java/lang/System" "arraycopy" 5 + 11) ≤ d.2.2.2.2.2.locals) (hd : decode d.2.1 pc = .ok (.invokestatic idx, 3))
    (k : ∀ M', jO g d Qf cs n ad ρ (pc + 3) lo st M' (f M')) : jO g d Qf cs n ad ρ pc lo (ji ln :: ji dp :: .ref a :: ji sp :: .ref a0 :: st) M (chk (jcpok sp dp ln n0 n1) (letm (jcpy M a0 sp a dp ln) f)) := by
  refine jchk fun hc => ?_
  obtain ⟨h1, h2, h3, h4, h5⟩ := hc
  intro z hz p e s m args below meth c H locs ls Cx hH hS hl
  obtain ⟨hx1, hb, hml, hr, hlk, hnm, hown, hts, hT, hX⟩ := id Cx
  refine va_copyl hx1 hb (hml.trans hl.1.symm) hown (hts _ hlink) (hts _ nat_cpy) (hts _ st_cpy) (hts _ ini_cpy) hT.2 hH.1 hH.2 hS a0 a 1 1 (jat ha0) (jat ha) jty1 jty1 rfl (jnn h1) (jnn h2) (jnn h3) (by rw [ji_nat, ji_nat]; omega) (by rw [ji_nat, ji_nat]; omega) (fun i hi => rfl) hf (by rw [jcat]; exact hlo) hd (fun H1 locs1 hP hD hS1 => ?_)
  have he : (jWl g.2.1 n ad ρ M).set a (ad a, .inl (g.2.1 1, n1, .inr (.inl (va_cpy (fun j => Int64.ofInt (M a0 j)) (fun j => Int64.ofInt (M a j)) (Int32.ofInt sp).toNatClampNeg (Int32.ofInt dp).toNatClampNeg (Int32.ofInt ln).toNatClampNeg)))) = jWl g.2.1 n ad ρ (jcpy M a0 sp a dp ln) := by
    have e2 : va_cpy (fun j => Int64.ofInt (M a0 j)) (fun j => Int64.ofInt (M a j)) (Int32.ofInt sp).toNatClampNeg (Int32.ofInt dp).toNatClampNeg (Int32.ofInt ln).toNatClampNeg = fun j => Int64.ofInt (jcpy M a0 sp a dp ln a j) := by
      funext j
      simp only [va_cpy, jcpy, jrow, if_true, ji_nat]
      split <;> rfl
    rw [e2]
    have e3 : (jE g.2.1 ad (2, n1) (jcpy M a0 sp a dp ln a) (ρ a)) = .inl (g.2.1 1, n1, .inr (.inl (fun j => Int64.ofInt (jcpy M a0 sp a dp ln a j)))) := rfl
    rw [← e3, ← ha.2]
    exact jWl_set (fun b hb => funext fun j => if_neg hb) (fun b _ => rfl)
  exact k _ z hz p e s m args below meth c H1 locs1 ls Cx ⟨by rw [← he]; exact hP, by rw [← he]; exact hD⟩ hS1 hl
/-! arrays of references -/
theorem jo_aaldq {t0 t a N : Nat} {C : String} {i : Int} {b : Nat → Nat} (ht : (jtys g)[t0]? = some (g.2.1 (t + 4), .object C)) (ha : jK n (t + 4, N) a) (hb : ∀ k, k < N → ρ a k = some (b k)) (hd : decode d.2.1 pc = .ok (.aaload, 1)) (kk : jin i N → jO g d Qf cs n ad ρ (pc + 1) lo (.ref (b (jw i).toNat) :: st) M o) : jO g d Qf cs n ad ρ pc lo (ji i :: .ref a :: st) M (chk (jin i N) o) := by
  refine jchk fun hc => ?_
  intro z hz p e s m args below meth c H locs ls Cx hH hS hl
  refine va_aldq Cx.1 Cx.2.1 Cx.2.2.2.2.2.2.2.2.1.2 hH.1 a t0 (jat ha) ht (jvp_in hc) hd ?_
  show W p _ e _ s m args below meth c H locs _ _ _ (F0 m (pc + 1) ls (va_rf ((ρ a (Int32.ofInt i).toNatClampNeg).map ad) :: st.map (jmv ad)))
  rw [ji_nat, hb _ (by have := hc.1; have := hc.2; omega)]
  exact kk hc z hz p e s m args below meth c H locs ls Cx hH hS hl
theorem jo_aaldl {a N : Nat} {i : Int} {b : Nat → Nat} (ha : jK n (4, N) a) (hb : ∀ k, k < N → ρ a k = some (b k)) (hd : decode d.2.1 pc = .ok (.aaload, 1)) (kk : jin i N → jO g d Qf cs n ad ρ (pc + 1) lo (.ref (b (jw i).toNat) :: st) M o) : jO g d Qf cs n ad ρ pc lo (ji i :: .ref a :: st) M (chk (jin i N) o) := by
  refine jchk fun hc => ?_
  intro z hz p e s m args below meth c H locs ls Cx hH hS hl
  have hlt : (Int32.ofInt i).toNatClampNeg < N := by
    rw [ji_nat]
    have := hc.1
    have := hc.2
    omega
  refine W.aald (v := va_rf ((ρ a (Int32.ofInt i).toNatClampNeg).map ad)) (ty := .array .long) Cx.1 Cx.2.1 (hH.1 a _ (jat ha)) ((Cx.2.2.2.2.2.2.2.2.1.2.2 3 (g.2.1 4, .array .long) rfl).1 N (fun j => va_rf ((ρ a j).map ad))) rfl (fun q => by cases q) (by show ¬ (_ ∨ (arrV _ _ _).slots.size ≤ _); rw [arrV_size]; exact jvp_in hc) (by show (arrV _ _ _).slots[_]? = _; rw [arrV_read _ _ hlt]) rfl rfl hd ?_
  show W p _ e _ s m args below meth c H locs _ _ _ (F0 m (pc + 1) ls (va_rf ((ρ a (Int32.ofInt i).toNatClampNeg).map ad) :: st.map (jmv ad)))
  rw [ji_nat] at hlt ⊢
  rw [hb _ hlt]
  exact kk hc z hz p e s m args below meth c H locs ls Cx hH hS hl
theorem jo_tabAny {dflt lo0 hi : Int} {offs : Array Int} {len : Nat} {x : Int} (tgt : Nat) (hd : decode d.2.1 pc = .ok (.tableswitch dflt lo0 hi offs, len)) (h : (jw x < lo0 ∨ hi < jw x) ∨ ∃ v, jw x = v ∧ ¬ v < lo0 ∧ ¬ hi < v ∧ offs[(v - lo0).toNat]? = some dflt) (ht : (pc : Int) + dflt = (tgt : Int)) (k : jO g d Qf cs n ad ρ tgt lo st M o) : jO g d Qf cs n ad ρ pc lo (ji x :: st) M o := by
  rcases h with h | ⟨v, h1, h2, h3, h4⟩
  · exact jo_tabOut tgt hd h ht k
  · exact jo_tabIn tgt hd v h1 h2 h3 h4 ht k
theorem jo_alenL {a N : Nat} (ha : jK n (2, N) a) (hd : decode d.2.1 pc = .ok (.arraylength, 1)) (kk : jO g d Qf cs n ad ρ (pc + 1) lo (ji (N : Int) :: st) M o) : jO g d Qf cs n ad ρ pc lo (.ref a :: st) M o := by
  intro z hz p e s m args below meth c H locs ls Cx hH hS hl
  exact va_alen (v := Int32.ofInt (N : Int)) Cx.1 Cx.2.1 Cx.2.2.2.2.2.2.2.2.1.2 hH.1 a 1 (jat ha) jty1 Int32.ofInt_eq_ofNat.symm hd (kk z hz p e s m args below meth c H locs ls Cx hH hS hl)
theorem jK_dec (n : Nat) (kd : Nat × Nat) (a : Nat) (h : (decide (a < n) && decide (jG a = kd)) = true) : jK n kd a := by simpa [jK] using h
theorem kc_0 : jK jNN (0, 11) 0 := jK_dec _ _ _ (by decide +kernel)
theorem kc_1 : jK jNN (0, 7) 1 := jK_dec _ _ _ (by decide +kernel)
theorem kc_2 : jK jNN (4, 4) 2 := jK_dec _ _ _ (by decide +kernel)
theorem kc_3 : jK jNN (2, 60) 3 := jK_dec _ _ _ (by decide +kernel)
theorem kc_4 : jK jNN (2, 60) 4 := jK_dec _ _ _ (by decide +kernel)
theorem kc_5 : jK jNN (2, 60) 5 := jK_dec _ _ _ (by decide +kernel)
theorem kc_6 : jK jNN (2, 60) 6 := jK_dec _ _ _ (by decide +kernel)
theorem kc_7 : jK jNN (1, 4) 7 := jK_dec _ _ _ (by decide +kernel)
theorem kc_8 : jK jNN (1, 4) 8 := jK_dec _ _ _ (by decide +kernel)
theorem kc_9 : jK jNN (0, 6) 9 := jK_dec _ _ _ (by decide +kernel)
theorem kc_10 : jK jNN (3, 900) 10 := jK_dec _ _ _ (by decide +kernel)
theorem kc_11 : jK jNN (2, 27) 11 := jK_dec _ _ _ (by decide +kernel)
theorem kc_12 : jK jNN (0, 2) 12 := jK_dec _ _ _ (by decide +kernel)
theorem kc_13 : jK jNN (0, 4) 13 := jK_dec _ _ _ (by decide +kernel)
theorem kc_14 : jK jNN (2, 22) 14 := jK_dec _ _ _ (by decide +kernel)
theorem kc_15 : jK jNN (1, 22) 15 := jK_dec _ _ _ (by decide +kernel)
theorem kc_16 : jK jNN (1, 22) 16 := jK_dec _ _ _ (by decide +kernel)
theorem kc_17 : jK jNN (1, 8) 17 := jK_dec _ _ _ (by decide +kernel)
theorem kc_18 : jK jNN (1, 8) 18 := jK_dec _ _ _ (by decide +kernel)
theorem kc_19 : jK jNN (1, 8) 19 := jK_dec _ _ _ (by decide +kernel)
theorem kc_20 : jK jNN (1, 8) 20 := jK_dec _ _ _ (by decide +kernel)
theorem kc_21 : jK jNN (1, 8) 21 := jK_dec _ _ _ (by decide +kernel)
theorem kc_22 : jK jNN (1, 8) 22 := jK_dec _ _ _ (by decide +kernel)
theorem kc_23 : jK jNN (1, 8) 23 := jK_dec _ _ _ (by decide +kernel)
theorem kc_24 : jK jNN (1, 8) 24 := jK_dec _ _ _ (by decide +kernel)
theorem kc_25 : jK jNN (0, 1) 25 := jK_dec _ _ _ (by decide +kernel)
theorem kc_26 : jK jNN (1, 8) 26 := jK_dec _ _ _ (by decide +kernel)
theorem kc_27 : jK jNN (1, 8) 27 := jK_dec _ _ _ (by decide +kernel)
theorem kc_28 : jK jNN (1, 6) 28 := jK_dec _ _ _ (by decide +kernel)
theorem kc_29 : jK jNN (1, 8) 29 := jK_dec _ _ _ (by decide +kernel)
theorem kc_30 : jK jNN (1, 8) 30 := jK_dec _ _ _ (by decide +kernel)
theorem kc_31 : jK jNN (1, 8) 31 := jK_dec _ _ _ (by decide +kernel)
theorem kc_32 : jK jNN (1, 8) 32 := jK_dec _ _ _ (by decide +kernel)
theorem kc_33 : jK jNN (0, 10) 33 := jK_dec _ _ _ (by decide +kernel)
theorem kc_34 : jK jNN (0, 9) 34 := jK_dec _ _ _ (by decide +kernel)
theorem kc_35 : jK jNN (1, 60) 35 := jK_dec _ _ _ (by decide +kernel)
theorem kc_36 : jK jNN (1, 60) 36 := jK_dec _ _ _ (by decide +kernel)
theorem kc_37 : jK jNN (1, 60) 37 := jK_dec _ _ _ (by decide +kernel)
theorem kc_38 : jK jNN (1, 60) 38 := jK_dec _ _ _ (by decide +kernel)
theorem kc_39 : jK jNN (1, 3) 39 := jK_dec _ _ _ (by decide +kernel)
theorem kc_40 : jK jNN (0, 4) 40 := jK_dec _ _ _ (by decide +kernel)
theorem kc_41 : jK jNN (2, 22) 41 := jK_dec _ _ _ (by decide +kernel)
theorem kc_42 : jK jNN (1, 22) 42 := jK_dec _ _ _ (by decide +kernel)
theorem kc_43 : jK jNN (1, 22) 43 := jK_dec _ _ _ (by decide +kernel)
theorem kc_44 : jK jNN (1, 8) 44 := jK_dec _ _ _ (by decide +kernel)
theorem kc_45 : jK jNN (1, 8) 45 := jK_dec _ _ _ (by decide +kernel)
theorem kc_46 : jK jNN (1, 8) 46 := jK_dec _ _ _ (by decide +kernel)
theorem kc_47 : jK jNN (1, 8) 47 := jK_dec _ _ _ (by decide +kernel)
theorem kc_48 : jK jNN (1, 8) 48 := jK_dec _ _ _ (by decide +kernel)
theorem kc_49 : jK jNN (1, 8) 49 := jK_dec _ _ _ (by decide +kernel)
theorem kc_50 : jK jNN (1, 8) 50 := jK_dec _ _ _ (by decide +kernel)
theorem kc_51 : jK jNN (1, 8) 51 := jK_dec _ _ _ (by decide +kernel)
theorem kc_52 : jK jNN (0, 1) 52 := jK_dec _ _ _ (by decide +kernel)
theorem kc_53 : jK jNN (1, 8) 53 := jK_dec _ _ _ (by decide +kernel)
theorem kc_54 : jK jNN (1, 8) 54 := jK_dec _ _ _ (by decide +kernel)
theorem kc_55 : jK jNN (1, 6) 55 := jK_dec _ _ _ (by decide +kernel)
theorem kc_56 : jK jNN (1, 8) 56 := jK_dec _ _ _ (by decide +kernel)
theorem kc_57 : jK jNN (1, 8) 57 := jK_dec _ _ _ (by decide +kernel)
theorem kc_58 : jK jNN (1, 8) 58 := jK_dec _ _ _ (by decide +kernel)
theorem kc_59 : jK jNN (1, 8) 59 := jK_dec _ _ _ (by decide +kernel)
theorem kc_60 : jK jNN (0, 9) 60 := jK_dec _ _ _ (by decide +kernel)
theorem kc_61 : jK jNN (1, 60) 61 := jK_dec _ _ _ (by decide +kernel)
theorem kc_62 : jK jNN (1, 60) 62 := jK_dec _ _ _ (by decide +kernel)
theorem kc_63 : jK jNN (1, 60) 63 := jK_dec _ _ _ (by decide +kernel)
theorem kc_64 : jK jNN (1, 60) 64 := jK_dec _ _ _ (by decide +kernel)
theorem kc_65 : jK jNN (5, 3) 65 := jK_dec _ _ _ (by decide +kernel)
theorem kc_66 : jK jNN (6, 3) 66 := jK_dec _ _ _ (by decide +kernel)
theorem kc_67 : jK jNN (7, 3) 67 := jK_dec _ _ _ (by decide +kernel)
theorem kc_68 : jK jNN (0, 1) 68 := jK_dec _ _ _ (by decide +kernel)
theorem kc_69 : jK jNN (1, 8) 69 := jK_dec _ _ _ (by decide +kernel)
theorem kc_70 : jK jNN (1, 8) 70 := jK_dec _ _ _ (by decide +kernel)
theorem kc_71 : jK jNN (1, 6) 71 := jK_dec _ _ _ (by decide +kernel)
theorem kc_72 : jK jNN (1, 8) 72 := jK_dec _ _ _ (by decide +kernel)
theorem kc_73 : jK jNN (1, 8) 73 := jK_dec _ _ _ (by decide +kernel)
theorem kc_74 : jK jNN (1, 8) 74 := jK_dec _ _ _ (by decide +kernel)
theorem kc_75 : jK jNN (1, 8) 75 := jK_dec _ _ _ (by decide +kernel)
theorem kc_76 : jK jNN (0, 8) 76 := jK_dec _ _ _ (by decide +kernel)
theorem kc_77 : jK jNN (1, 6) 77 := jK_dec _ _ _ (by decide +kernel)
theorem kc_78 : jK jNN (1, 8) 78 := jK_dec _ _ _ (by decide +kernel)
theorem kc_79 : jK jNN (0, 5) 79 := jK_dec _ _ _ (by decide +kernel)
theorem kc_80 : jK jNN (1, 256) 80 := jK_dec _ _ _ (by decide +kernel)
theorem kc_81 : jK jNN (1, 256) 81 := jK_dec _ _ _ (by decide +kernel)
theorem kc_82 : jK jNN (0, 3) 82 := jK_dec _ _ _ (by decide +kernel)
theorem kc_83 : jK jNN (1, 20) 83 := jK_dec _ _ _ (by decide +kernel)
theorem kc_84 : jK jNN (1, 20) 84 := jK_dec _ _ _ (by decide +kernel)
theorem kc_85 : jK jNN (1, 20) 85 := jK_dec _ _ _ (by decide +kernel)
theorem kc_86 : jK jNN (0, 0) 86 := jK_dec _ _ _ (by decide +kernel)
theorem kc_87 : jK jNN (1, 5) 87 := jK_dec _ _ _ (by decide +kernel)
theorem kc_88 : jK jNN (1, 60) 88 := jK_dec _ _ _ (by decide +kernel)
theorem kc_89 : jK jNN (0, 0) 89 := jK_dec _ _ _ (by decide +kernel)
theorem kc_90 : jK jNN (1, 5) 90 := jK_dec _ _ _ (by decide +kernel)
theorem kc_91 : jK jNN (1, 60) 91 := jK_dec _ _ _ (by decide +kernel)
theorem kc_92 : jK jNN (0, 4) 92 := jK_dec _ _ _ (by decide +kernel)
theorem kc_93 : jK jNN (2, 22) 93 := jK_dec _ _ _ (by decide +kernel)
theorem kc_94 : jK jNN (1, 22) 94 := jK_dec _ _ _ (by decide +kernel)
theorem kc_95 : jK jNN (1, 22) 95 := jK_dec _ _ _ (by decide +kernel)
theorem kc_96 : jK jNN (1, 8) 96 := jK_dec _ _ _ (by decide +kernel)
theorem kc_97 : jK jNN (1, 8) 97 := jK_dec _ _ _ (by decide +kernel)
theorem kc_98 : jK jNN (1, 8) 98 := jK_dec _ _ _ (by decide +kernel)
theorem kc_99 : jK jNN (1, 8) 99 := jK_dec _ _ _ (by decide +kernel)
theorem kc_100 : jK jNN (1, 8) 100 := jK_dec _ _ _ (by decide +kernel)
theorem kc_101 : jK jNN (1, 8) 101 := jK_dec _ _ _ (by decide +kernel)
theorem kc_102 : jK jNN (1, 8) 102 := jK_dec _ _ _ (by decide +kernel)
theorem kc_103 : jK jNN (1, 8) 103 := jK_dec _ _ _ (by decide +kernel)
theorem kc_104 : jK jNN (0, 1) 104 := jK_dec _ _ _ (by decide +kernel)
theorem kc_105 : jK jNN (1, 8) 105 := jK_dec _ _ _ (by decide +kernel)
theorem kc_106 : jK jNN (1, 8) 106 := jK_dec _ _ _ (by decide +kernel)
theorem kc_107 : jK jNN (1, 6) 107 := jK_dec _ _ _ (by decide +kernel)
theorem kc_108 : jK jNN (1, 8) 108 := jK_dec _ _ _ (by decide +kernel)
theorem kc_109 : jK jNN (1, 8) 109 := jK_dec _ _ _ (by decide +kernel)
theorem kc_110 : jK jNN (1, 8) 110 := jK_dec _ _ _ (by decide +kernel)
theorem kc_111 : jK jNN (1, 8) 111 := jK_dec _ _ _ (by decide +kernel)
theorem kc_112 : jK jNN (0, 9) 112 := jK_dec _ _ _ (by decide +kernel)
theorem kc_113 : jK jNN (1, 60) 113 := jK_dec _ _ _ (by decide +kernel)
theorem kc_114 : jK jNN (1, 60) 114 := jK_dec _ _ _ (by decide +kernel)
theorem kc_115 : jK jNN (1, 60) 115 := jK_dec _ _ _ (by decide +kernel)
theorem kc_116 : jK jNN (1, 60) 116 := jK_dec _ _ _ (by decide +kernel)
theorem kc_117 : jK jNN (0, 4) 117 := jK_dec _ _ _ (by decide +kernel)
theorem kc_118 : jK jNN (2, 22) 118 := jK_dec _ _ _ (by decide +kernel)
theorem kc_119 : jK jNN (1, 22) 119 := jK_dec _ _ _ (by decide +kernel)
theorem kc_120 : jK jNN (1, 22) 120 := jK_dec _ _ _ (by decide +kernel)
theorem kc_121 : jK jNN (1, 8) 121 := jK_dec _ _ _ (by decide +kernel)
theorem kc_122 : jK jNN (1, 8) 122 := jK_dec _ _ _ (by decide +kernel)
theorem kc_123 : jK jNN (1, 8) 123 := jK_dec _ _ _ (by decide +kernel)
theorem kc_124 : jK jNN (1, 8) 124 := jK_dec _ _ _ (by decide +kernel)
theorem kc_125 : jK jNN (1, 8) 125 := jK_dec _ _ _ (by decide +kernel)
theorem kc_126 : jK jNN (1, 8) 126 := jK_dec _ _ _ (by decide +kernel)
theorem kc_127 : jK jNN (1, 8) 127 := jK_dec _ _ _ (by decide +kernel)
theorem kc_128 : jK jNN (1, 8) 128 := jK_dec _ _ _ (by decide +kernel)
theorem kc_129 : jK jNN (0, 1) 129 := jK_dec _ _ _ (by decide +kernel)
theorem kc_130 : jK jNN (1, 8) 130 := jK_dec _ _ _ (by decide +kernel)
theorem kc_131 : jK jNN (1, 8) 131 := jK_dec _ _ _ (by decide +kernel)
theorem kc_132 : jK jNN (1, 6) 132 := jK_dec _ _ _ (by decide +kernel)
theorem kc_133 : jK jNN (1, 8) 133 := jK_dec _ _ _ (by decide +kernel)
theorem kc_134 : jK jNN (1, 8) 134 := jK_dec _ _ _ (by decide +kernel)
theorem kc_135 : jK jNN (1, 8) 135 := jK_dec _ _ _ (by decide +kernel)
theorem kc_136 : jK jNN (1, 8) 136 := jK_dec _ _ _ (by decide +kernel)
theorem kc_137 : jK jNN (0, 9) 137 := jK_dec _ _ _ (by decide +kernel)
theorem kc_138 : jK jNN (1, 60) 138 := jK_dec _ _ _ (by decide +kernel)
theorem kc_139 : jK jNN (1, 60) 139 := jK_dec _ _ _ (by decide +kernel)
theorem kc_140 : jK jNN (1, 60) 140 := jK_dec _ _ _ (by decide +kernel)
theorem kc_141 : jK jNN (1, 60) 141 := jK_dec _ _ _ (by decide +kernel)
theorem kc_142 : jK jNN (0, 4) 142 := jK_dec _ _ _ (by decide +kernel)
theorem kc_143 : jK jNN (2, 22) 143 := jK_dec _ _ _ (by decide +kernel)
theorem kc_144 : jK jNN (1, 22) 144 := jK_dec _ _ _ (by decide +kernel)
theorem kc_145 : jK jNN (1, 22) 145 := jK_dec _ _ _ (by decide +kernel)
theorem kc_146 : jK jNN (1, 8) 146 := jK_dec _ _ _ (by decide +kernel)
theorem kc_147 : jK jNN (1, 8) 147 := jK_dec _ _ _ (by decide +kernel)
theorem kc_148 : jK jNN (1, 8) 148 := jK_dec _ _ _ (by decide +kernel)
theorem kc_149 : jK jNN (1, 8) 149 := jK_dec _ _ _ (by decide +kernel)
theorem kc_150 : jK jNN (1, 8) 150 := jK_dec _ _ _ (by decide +kernel)
theorem kc_151 : jK jNN (1, 8) 151 := jK_dec _ _ _ (by decide +kernel)
theorem kc_152 : jK jNN (1, 8) 152 := jK_dec _ _ _ (by decide +kernel)
theorem kc_153 : jK jNN (1, 8) 153 := jK_dec _ _ _ (by decide +kernel)
theorem kc_154 : jK jNN (0, 1) 154 := jK_dec _ _ _ (by decide +kernel)
theorem kc_155 : jK jNN (1, 8) 155 := jK_dec _ _ _ (by decide +kernel)
theorem kc_156 : jK jNN (1, 8) 156 := jK_dec _ _ _ (by decide +kernel)
theorem kc_157 : jK jNN (1, 6) 157 := jK_dec _ _ _ (by decide +kernel)
theorem kc_158 : jK jNN (1, 8) 158 := jK_dec _ _ _ (by decide +kernel)
theorem kc_159 : jK jNN (1, 8) 159 := jK_dec _ _ _ (by decide +kernel)
theorem kc_160 : jK jNN (1, 8) 160 := jK_dec _ _ _ (by decide +kernel)
theorem kc_161 : jK jNN (1, 8) 161 := jK_dec _ _ _ (by decide +kernel)
theorem kc_162 : jK jNN (0, 9) 162 := jK_dec _ _ _ (by decide +kernel)
theorem kc_163 : jK jNN (1, 60) 163 := jK_dec _ _ _ (by decide +kernel)
theorem kc_164 : jK jNN (1, 60) 164 := jK_dec _ _ _ (by decide +kernel)
theorem kc_165 : jK jNN (1, 60) 165 := jK_dec _ _ _ (by decide +kernel)
theorem kc_166 : jK jNN (1, 60) 166 := jK_dec _ _ _ (by decide +kernel)
theorem kc_167 : jK jNN (0, 12) 167 := jK_dec _ _ _ (by decide +kernel)
theorem kc_168 : jK jNN (1, 3160) 168 := jK_dec _ _ _ (by decide +kernel)
theorem kc_169 : jK jNN (2, 132) 169 := jK_dec _ _ _ (by decide +kernel)
theorem kc_170 : jK jNN (1, 4) 170 := jK_dec _ _ _ (by decide +kernel)
theorem kc_171 : jK jNN (1, 4) 171 := jK_dec _ _ _ (by decide +kernel)
theorem kc_172 : jK jNN (2, 240) 172 := jK_dec _ _ _ (by decide +kernel)
theorem kc_173 : jK jNN (3, 900) 173 := jK_dec _ _ _ (by decide +kernel)
theorem kc_174 : jK jNN (3, 900) 174 := jK_dec _ _ _ (by decide +kernel)
theorem kc_175 : jK jNN (1, 3) 175 := jK_dec _ _ _ (by decide +kernel)
theorem kc_176 : jK jNN (1, 520) 176 := jK_dec _ _ _ (by decide +kernel)
theorem kc_177 : jK jNN (1, 8) 177 := jK_dec _ _ _ (by decide +kernel)
theorem kc_178 : jK jNN (1, 8) 178 := jK_dec _ _ _ (by decide +kernel)
theorem kc_179 : jK jNN (1, 6) 179 := jK_dec _ _ _ (by decide +kernel)
theorem kc_180 : jK jNN (2, 9) 180 := jK_dec _ _ _ (by decide +kernel)
theorem kc_181 : jK jNN (1, 256) 181 := jK_dec _ _ _ (by decide +kernel)
theorem kc_182 : jK jNN (1, 256) 182 := jK_dec _ _ _ (by decide +kernel)
theorem kc_183 : jK jNN (1, 80) 183 := jK_dec _ _ _ (by decide +kernel)
theorem kc_184 : jK jNN (1, 5) 184 := jK_dec _ _ _ (by decide +kernel)
theorem kc_185 : jK jNN (1, 5) 185 := jK_dec _ _ _ (by decide +kernel)
theorem kr_0_3 : jR 0 3 = some 1 := by decide +kernel
theorem kr_0_4 : jR 0 4 = some 9 := by decide +kernel
theorem kr_0_5 : jR 0 5 = some 12 := by decide +kernel
theorem kr_0_6 : jR 0 6 = some 33 := by decide +kernel
theorem kr_0_7 : jR 0 7 = some 40 := by decide +kernel
theorem kr_0_8 : jR 0 8 = some 52 := by decide +kernel
theorem kr_0_9 : jR 0 9 = some 60 := by decide +kernel
theorem kr_0_10 : jR 0 10 = some 65 := by decide +kernel
theorem kr_0_11 : jR 0 11 = some 66 := by decide +kernel
theorem kr_0_12 : jR 0 12 = some 67 := by decide +kernel
theorem kr_0_14 : jR 0 14 = some 68 := by decide +kernel
theorem kr_0_15 : jR 0 15 = some 76 := by decide +kernel
theorem kr_0_16 : jR 0 16 = some 79 := by decide +kernel
theorem kr_0_17 : jR 0 17 = some 82 := by decide +kernel
theorem kr_0_18 : jR 0 18 = some 86 := by decide +kernel
theorem kr_0_19 : jR 0 19 = some 89 := by decide +kernel
theorem kr_1_0 : jR 1 0 = some 2 := by decide +kernel
theorem kr_1_1 : jR 1 1 = some 7 := by decide +kernel
theorem kr_1_2 : jR 1 2 = some 8 := by decide +kernel
theorem kr_9_0 : jR 9 0 = some 10 := by decide +kernel
theorem kr_9_10 : jR 9 10 = some 11 := by decide +kernel
theorem kr_12_0 : jR 12 0 = some 9 := by decide +kernel
theorem kr_12_1 : jR 12 1 = some 13 := by decide +kernel
theorem kr_12_2 : jR 12 2 = some 25 := by decide +kernel
theorem kr_33_0 : jR 33 0 = some 9 := by decide +kernel
theorem kr_33_1 : jR 33 1 = some 34 := by decide +kernel
theorem kr_33_2 : jR 33 2 = some 39 := by decide +kernel
theorem kr_76_0 : jR 76 0 = some 77 := by decide +kernel
theorem kr_76_1 : jR 76 1 = some 78 := by decide +kernel
theorem kr_79_0 : jR 79 0 = some 80 := by decide +kernel
theorem kr_79_1 : jR 79 1 = some 81 := by decide +kernel
theorem kr_82_1 : jR 82 1 = some 83 := by decide +kernel
theorem kr_82_2 : jR 82 2 = some 84 := by decide +kernel
theorem kr_82_3 : jR 82 3 = some 85 := by decide +kernel
theorem kr_167_0 : jR 167 0 = some 168 := by decide +kernel
theorem kr_167_1 : jR 167 1 = some 169 := by decide +kernel
theorem kr_167_5 : jR 167 5 = some 170 := by decide +kernel
theorem kr_167_6 : jR 167 6 = some 171 := by decide +kernel
theorem kr_167_7 : jR 167 7 = some 172 := by decide +kernel
theorem kr_167_8 : jR 167 8 = some 173 := by decide +kernel
theorem kr_167_9 : jR 167 9 = some 174 := by decide +kernel
theorem kr_167_21 : jR 167 21 = some 175 := by decide +kernel
theorem kr_167_24 : jR 167 24 = some 176 := by decide +kernel
theorem kr_167_25 : jR 167 25 = some 177 := by decide +kernel
theorem kr_167_26 : jR 167 26 = some 178 := by decide +kernel
theorem kr_167_28 : jR 167 28 = some 179 := by decide +kernel
theorem kr_167_29 : jR 167 29 = some 180 := by decide +kernel
theorem kr_167_30 : jR 167 30 = some 181 := by decide +kernel
theorem kr_167_31 : jR 167 31 = some 182 := by decide +kernel
theorem kr_167_34 : jR 167 34 = some 183 := by decide +kernel
theorem kr_167_35 : jR 167 35 = some 184 := by decide +kernel
theorem kr_167_36 : jR 167 36 = some 185 := by decide +kernel
theorem kq_Plan_5 : ∀ a, a < jNN → jG a = (0, 4) → jR a 5 = some (a + 1) ∧ a + 1 < jNN ∧ jG (a + 1) = (2, 22) := by decide +kernel
theorem kr_Plan_5 {a : Nat} (h : jK jNN (0, 4) a) : jR a 5 = some (a + 1) := (kq_Plan_5 a h.1 h.2).1
theorem ka_Plan_5 {a : Nat} (h : jK jNN (0, 4) a) : jK jNN (2, 22) (a + 1) := (kq_Plan_5 a h.1 h.2).2
theorem kq_Plan_6 : ∀ a, a < jNN → jG a = (0, 4) → jR a 6 = some (a + 2) ∧ a + 2 < jNN ∧ jG (a + 2) = (1, 22) := by decide +kernel
theorem kr_Plan_6 {a : Nat} (h : jK jNN (0, 4) a) : jR a 6 = some (a + 2) := (kq_Plan_6 a h.1 h.2).1
theorem ka_Plan_6 {a : Nat} (h : jK jNN (0, 4) a) : jK jNN (1, 22) (a + 2) := (kq_Plan_6 a h.1 h.2).2
theorem kq_Plan_7 : ∀ a, a < jNN → jG a = (0, 4) → jR a 7 = some (a + 3) ∧ a + 3 < jNN ∧ jG (a + 3) = (1, 22) := by decide +kernel
theorem kr_Plan_7 {a : Nat} (h : jK jNN (0, 4) a) : jR a 7 = some (a + 3) := (kq_Plan_7 a h.1 h.2).1
theorem ka_Plan_7 {a : Nat} (h : jK jNN (0, 4) a) : jK jNN (1, 22) (a + 3) := (kq_Plan_7 a h.1 h.2).2
theorem kq_Plan_8 : ∀ a, a < jNN → jG a = (0, 4) → jR a 8 = some (a + 4) ∧ a + 4 < jNN ∧ jG (a + 4) = (1, 8) := by decide +kernel
theorem kr_Plan_8 {a : Nat} (h : jK jNN (0, 4) a) : jR a 8 = some (a + 4) := (kq_Plan_8 a h.1 h.2).1
theorem ka_Plan_8 {a : Nat} (h : jK jNN (0, 4) a) : jK jNN (1, 8) (a + 4) := (kq_Plan_8 a h.1 h.2).2
theorem kq_Plan_9 : ∀ a, a < jNN → jG a = (0, 4) → jR a 9 = some (a + 5) ∧ a + 5 < jNN ∧ jG (a + 5) = (1, 8) := by decide +kernel
theorem kr_Plan_9 {a : Nat} (h : jK jNN (0, 4) a) : jR a 9 = some (a + 5) := (kq_Plan_9 a h.1 h.2).1
theorem ka_Plan_9 {a : Nat} (h : jK jNN (0, 4) a) : jK jNN (1, 8) (a + 5) := (kq_Plan_9 a h.1 h.2).2
theorem kq_Plan_10 : ∀ a, a < jNN → jG a = (0, 4) → jR a 10 = some (a + 6) ∧ a + 6 < jNN ∧ jG (a + 6) = (1, 8) := by decide +kernel
theorem kr_Plan_10 {a : Nat} (h : jK jNN (0, 4) a) : jR a 10 = some (a + 6) := (kq_Plan_10 a h.1 h.2).1
theorem ka_Plan_10 {a : Nat} (h : jK jNN (0, 4) a) : jK jNN (1, 8) (a + 6) := (kq_Plan_10 a h.1 h.2).2
theorem kq_Plan_11 : ∀ a, a < jNN → jG a = (0, 4) → jR a 11 = some (a + 7) ∧ a + 7 < jNN ∧ jG (a + 7) = (1, 8) := by decide +kernel
theorem kr_Plan_11 {a : Nat} (h : jK jNN (0, 4) a) : jR a 11 = some (a + 7) := (kq_Plan_11 a h.1 h.2).1
theorem ka_Plan_11 {a : Nat} (h : jK jNN (0, 4) a) : jK jNN (1, 8) (a + 7) := (kq_Plan_11 a h.1 h.2).2
theorem kq_Plan_12 : ∀ a, a < jNN → jG a = (0, 4) → jR a 12 = some (a + 8) ∧ a + 8 < jNN ∧ jG (a + 8) = (1, 8) := by decide +kernel
theorem kr_Plan_12 {a : Nat} (h : jK jNN (0, 4) a) : jR a 12 = some (a + 8) := (kq_Plan_12 a h.1 h.2).1
theorem ka_Plan_12 {a : Nat} (h : jK jNN (0, 4) a) : jK jNN (1, 8) (a + 8) := (kq_Plan_12 a h.1 h.2).2
theorem kq_Plan_13 : ∀ a, a < jNN → jG a = (0, 4) → jR a 13 = some (a + 9) ∧ a + 9 < jNN ∧ jG (a + 9) = (1, 8) := by decide +kernel
theorem kr_Plan_13 {a : Nat} (h : jK jNN (0, 4) a) : jR a 13 = some (a + 9) := (kq_Plan_13 a h.1 h.2).1
theorem ka_Plan_13 {a : Nat} (h : jK jNN (0, 4) a) : jK jNN (1, 8) (a + 9) := (kq_Plan_13 a h.1 h.2).2
theorem kq_Plan_14 : ∀ a, a < jNN → jG a = (0, 4) → jR a 14 = some (a + 10) ∧ a + 10 < jNN ∧ jG (a + 10) = (1, 8) := by decide +kernel
theorem kr_Plan_14 {a : Nat} (h : jK jNN (0, 4) a) : jR a 14 = some (a + 10) := (kq_Plan_14 a h.1 h.2).1
theorem ka_Plan_14 {a : Nat} (h : jK jNN (0, 4) a) : jK jNN (1, 8) (a + 10) := (kq_Plan_14 a h.1 h.2).2
theorem kq_Plan_15 : ∀ a, a < jNN → jG a = (0, 4) → jR a 15 = some (a + 11) ∧ a + 11 < jNN ∧ jG (a + 11) = (1, 8) := by decide +kernel
theorem kr_Plan_15 {a : Nat} (h : jK jNN (0, 4) a) : jR a 15 = some (a + 11) := (kq_Plan_15 a h.1 h.2).1
theorem ka_Plan_15 {a : Nat} (h : jK jNN (0, 4) a) : jK jNN (1, 8) (a + 11) := (kq_Plan_15 a h.1 h.2).2
theorem kq_Now_5 : ∀ a, a < jNN → jG a = (0, 1) → jR a 5 = some (a + 1) ∧ a + 1 < jNN ∧ jG (a + 1) = (1, 8) := by decide +kernel
theorem kr_Now_5 {a : Nat} (h : jK jNN (0, 1) a) : jR a 5 = some (a + 1) := (kq_Now_5 a h.1 h.2).1
theorem ka_Now_5 {a : Nat} (h : jK jNN (0, 1) a) : jK jNN (1, 8) (a + 1) := (kq_Now_5 a h.1 h.2).2
theorem kq_Now_6 : ∀ a, a < jNN → jG a = (0, 1) → jR a 6 = some (a + 2) ∧ a + 2 < jNN ∧ jG (a + 2) = (1, 8) := by decide +kernel
theorem kr_Now_6 {a : Nat} (h : jK jNN (0, 1) a) : jR a 6 = some (a + 2) := (kq_Now_6 a h.1 h.2).1
theorem ka_Now_6 {a : Nat} (h : jK jNN (0, 1) a) : jK jNN (1, 8) (a + 2) := (kq_Now_6 a h.1 h.2).2
theorem kq_Now_7 : ∀ a, a < jNN → jG a = (0, 1) → jR a 7 = some (a + 3) ∧ a + 3 < jNN ∧ jG (a + 3) = (1, 6) := by decide +kernel
theorem kr_Now_7 {a : Nat} (h : jK jNN (0, 1) a) : jR a 7 = some (a + 3) := (kq_Now_7 a h.1 h.2).1
theorem ka_Now_7 {a : Nat} (h : jK jNN (0, 1) a) : jK jNN (1, 6) (a + 3) := (kq_Now_7 a h.1 h.2).2
theorem kq_Now_8 : ∀ a, a < jNN → jG a = (0, 1) → jR a 8 = some (a + 4) ∧ a + 4 < jNN ∧ jG (a + 4) = (1, 8) := by decide +kernel
theorem kr_Now_8 {a : Nat} (h : jK jNN (0, 1) a) : jR a 8 = some (a + 4) := (kq_Now_8 a h.1 h.2).1
theorem ka_Now_8 {a : Nat} (h : jK jNN (0, 1) a) : jK jNN (1, 8) (a + 4) := (kq_Now_8 a h.1 h.2).2
theorem kq_Now_9 : ∀ a, a < jNN → jG a = (0, 1) → jR a 9 = some (a + 5) ∧ a + 5 < jNN ∧ jG (a + 5) = (1, 8) := by decide +kernel
theorem kr_Now_9 {a : Nat} (h : jK jNN (0, 1) a) : jR a 9 = some (a + 5) := (kq_Now_9 a h.1 h.2).1
theorem ka_Now_9 {a : Nat} (h : jK jNN (0, 1) a) : jK jNN (1, 8) (a + 5) := (kq_Now_9 a h.1 h.2).2
theorem kq_Now_10 : ∀ a, a < jNN → jG a = (0, 1) → jR a 10 = some (a + 6) ∧ a + 6 < jNN ∧ jG (a + 6) = (1, 8) := by decide +kernel
theorem kr_Now_10 {a : Nat} (h : jK jNN (0, 1) a) : jR a 10 = some (a + 6) := (kq_Now_10 a h.1 h.2).1
theorem ka_Now_10 {a : Nat} (h : jK jNN (0, 1) a) : jK jNN (1, 8) (a + 6) := (kq_Now_10 a h.1 h.2).2
theorem kq_Now_11 : ∀ a, a < jNN → jG a = (0, 1) → jR a 11 = some (a + 7) ∧ a + 7 < jNN ∧ jG (a + 7) = (1, 8) := by decide +kernel
theorem kr_Now_11 {a : Nat} (h : jK jNN (0, 1) a) : jR a 11 = some (a + 7) := (kq_Now_11 a h.1 h.2).1
theorem ka_Now_11 {a : Nat} (h : jK jNN (0, 1) a) : jK jNN (1, 8) (a + 7) := (kq_Now_11 a h.1 h.2).2
theorem kq_Weeks_3 : ∀ a, a < jNN → jG a = (0, 9) → jR a 3 = some (a + 1) ∧ a + 1 < jNN ∧ jG (a + 1) = (1, 60) := by decide +kernel
theorem kr_Weeks_3 {a : Nat} (h : jK jNN (0, 9) a) : jR a 3 = some (a + 1) := (kq_Weeks_3 a h.1 h.2).1
theorem ka_Weeks_3 {a : Nat} (h : jK jNN (0, 9) a) : jK jNN (1, 60) (a + 1) := (kq_Weeks_3 a h.1 h.2).2
theorem kq_Weeks_4 : ∀ a, a < jNN → jG a = (0, 9) → jR a 4 = some (a + 2) ∧ a + 2 < jNN ∧ jG (a + 2) = (1, 60) := by decide +kernel
theorem kr_Weeks_4 {a : Nat} (h : jK jNN (0, 9) a) : jR a 4 = some (a + 2) := (kq_Weeks_4 a h.1 h.2).1
theorem ka_Weeks_4 {a : Nat} (h : jK jNN (0, 9) a) : jK jNN (1, 60) (a + 2) := (kq_Weeks_4 a h.1 h.2).2
theorem kq_Weeks_5 : ∀ a, a < jNN → jG a = (0, 9) → jR a 5 = some (a + 3) ∧ a + 3 < jNN ∧ jG (a + 3) = (1, 60) := by decide +kernel
theorem kr_Weeks_5 {a : Nat} (h : jK jNN (0, 9) a) : jR a 5 = some (a + 3) := (kq_Weeks_5 a h.1 h.2).1
theorem ka_Weeks_5 {a : Nat} (h : jK jNN (0, 9) a) : jK jNN (1, 60) (a + 3) := (kq_Weeks_5 a h.1 h.2).2
theorem kq_Weeks_6 : ∀ a, a < jNN → jG a = (0, 9) → jR a 6 = some (a + 4) ∧ a + 4 < jNN ∧ jG (a + 4) = (1, 60) := by decide +kernel
theorem kr_Weeks_6 {a : Nat} (h : jK jNN (0, 9) a) : jR a 6 = some (a + 4) := (kq_Weeks_6 a h.1 h.2).1
theorem ka_Weeks_6 {a : Nat} (h : jK jNN (0, 9) a) : jK jNN (1, 60) (a + 4) := (kq_Weeks_6 a h.1 h.2).2
theorem kq_Life_1 : ∀ a, a < jNN → jG a = (0, 0) → jR a 1 = some (a + 1) ∧ a + 1 < jNN ∧ jG (a + 1) = (1, 5) := by decide +kernel
theorem kr_Life_1 {a : Nat} (h : jK jNN (0, 0) a) : jR a 1 = some (a + 1) := (kq_Life_1 a h.1 h.2).1
theorem ka_Life_1 {a : Nat} (h : jK jNN (0, 0) a) : jK jNN (1, 5) (a + 1) := (kq_Life_1 a h.1 h.2).2
theorem kq_Life_4 : ∀ a, a < jNN → jG a = (0, 0) → jR a 4 = some (a + 2) ∧ a + 2 < jNN ∧ jG (a + 2) = (1, 60) := by decide +kernel
theorem kr_Life_4 {a : Nat} (h : jK jNN (0, 0) a) : jR a 4 = some (a + 2) := (kq_Life_4 a h.1 h.2).1
theorem ka_Life_4 {a : Nat} (h : jK jNN (0, 0) a) : jK jNN (1, 60) (a + 2) := (kq_Life_4 a h.1 h.2).2
def jRn (a k : Nat) : Nat := (jR a k).getD 0
theorem kn_2 : ∀ k, k < 4 → jR 2 k = some (jRn 2 k) ∧ jRn 2 k < jNN ∧ jG (jRn 2 k) = (2, 60) := by decide +kernel
theorem kn_65 : ∀ k, k < 3 → jR 65 k = some (jRn 65 k) ∧ jRn 65 k < jNN ∧ jG (jRn 65 k) = (0, 4) := by decide +kernel
theorem kn_66 : ∀ k, k < 3 → jR 66 k = some (jRn 66 k) ∧ jRn 66 k < jNN ∧ jG (jRn 66 k) = (0, 1) := by decide +kernel
theorem kn_67 : ∀ k, k < 3 → jR 67 k = some (jRn 67 k) ∧ jRn 67 k < jNN ∧ jG (jRn 67 k) = (0, 9) := by decide +kernel
theorem jN_0 : jN 0 = 5 := rfl
theorem cl_0 : jCl 0 RX0 TX0 5 := ⟨rfl, fun w h => List.mem_filter.mpr ⟨inX0 w h, by
    have h2 : ∀ w ∈ u_ws RX0 TX0 5, goodWord w = true := by decide +kernel
    exact h2 w h⟩, tyX0_ok, nmX0, rfl⟩
theorem jN_1 : jN 1 = 12 := rfl
theorem cl_1 : jCl 1 RX1 TX1 12 := ⟨rfl, fun w h => List.mem_filter.mpr ⟨inX1 w h, by
    have h2 : ∀ w ∈ u_ws RX1 TX1 12, goodWord w = true := by decide +kernel
    exact h2 w h⟩, tyX1_ok, nmX1, rfl⟩
theorem jN_2 : jN 2 = 4 := rfl
theorem cl_2 : jCl 2 RX2 TX2 4 := ⟨rfl, fun w h => List.mem_filter.mpr ⟨inX2 w h, by
    have h2 : ∀ w ∈ u_ws RX2 TX2 4, goodWord w = true := by decide +kernel
    exact h2 w h⟩, tyX2_ok, nmX2, rfl⟩
theorem jN_3 : jN 3 = 4 := rfl
theorem cl_3 : jCl 3 RX3 TX3 4 := ⟨rfl, fun w h => List.mem_filter.mpr ⟨inX3 w h, by
    have h2 : ∀ w ∈ u_ws RX3 TX3 4, goodWord w = true := by decide +kernel
    exact h2 w h⟩, tyX3_ok, nmX3, rfl⟩
theorem jN_4 : jN 4 = 16 := rfl
theorem cl_4 : jCl 4 RX4 TX4 16 := ⟨rfl, fun w h => List.mem_filter.mpr ⟨inX4 w h, by
    have h2 : ∀ w ∈ u_ws RX4 TX4 16, goodWord w = true := by decide +kernel
    exact h2 w h⟩, tyX4_ok, nmX4, rfl⟩
theorem jN_5 : jN 5 = 2 := rfl
theorem cl_5 : jCl 5 RX5 TX5 2 := ⟨rfl, fun w h => List.mem_filter.mpr ⟨inX5 w h, by
    have h2 : ∀ w ∈ u_ws RX5 TX5 2, goodWord w = true := by decide +kernel
    exact h2 w h⟩, tyX5_ok, nmX5, rfl⟩
theorem jN_6 : jN 6 = 11 := rfl
theorem cl_6 : jCl 6 RX6 TX6 11 := ⟨rfl, fun w h => List.mem_filter.mpr ⟨inX6 w h, by
    have h2 : ∀ w ∈ u_ws RX6 TX6 11, goodWord w = true := by decide +kernel
    exact h2 w h⟩, tyX6_ok, nmX6, rfl⟩
theorem jN_7 : jN 7 = 3 := rfl
theorem cl_7 : jCl 7 RX7 TX7 3 := ⟨rfl, fun w h => List.mem_filter.mpr ⟨inX7 w h, by
    have h2 : ∀ w ∈ u_ws RX7 TX7 3, goodWord w = true := by decide +kernel
    exact h2 w h⟩, tyX7_ok, nmX7, rfl⟩
theorem jN_8 : jN 8 = 2 := rfl
theorem cl_8 : jCl 8 RX8 TX8 2 := ⟨rfl, fun w h => List.mem_filter.mpr ⟨inX8 w h, by
    have h2 : ∀ w ∈ u_ws RX8 TX8 2, goodWord w = true := by decide +kernel
    exact h2 w h⟩, tyX8_ok, nmX8, rfl⟩
theorem jN_9 : jN 9 = 7 := rfl
theorem cl_9 : jCl 9 RX9 TX9 7 := ⟨rfl, fun w h => List.mem_filter.mpr ⟨inX9 w h, by
    have h2 : ∀ w ∈ u_ws RX9 TX9 7, goodWord w = true := by decide +kernel
    exact h2 w h⟩, tyX9_ok, nmX9, rfl⟩
theorem jN_10 : jN 10 = 4 := rfl
theorem cl_10 : jCl 10 RX10 TX10 4 := ⟨rfl, fun w h => List.mem_filter.mpr ⟨inX10 w h, by
    have h2 : ∀ w ∈ u_ws RX10 TX10 4, goodWord w = true := by decide +kernel
    exact h2 w h⟩, tyX10_ok, nmX10, rfl⟩
theorem jN_11 : jN 11 = 20 := rfl
theorem cl_11 : jCl 11 RX11 TX11 20 := ⟨rfl, fun w h => List.mem_filter.mpr ⟨inX11 w h, by
    have h2 : ∀ w ∈ u_ws RX11 TX11 20, goodWord w = true := by decide +kernel
    exact h2 w h⟩, tyX11_ok, nmX11, rfl⟩
theorem jN_12 : jN 12 = 39 := rfl
theorem cl_12 : jCl 12 RX12 TX12 39 := ⟨rfl, fun w h => List.mem_filter.mpr ⟨inX12 w h, by
    have h2 : ∀ w ∈ u_ws RX12 TX12 39, goodWord w = true := by decide +kernel
    exact h2 w h⟩, tyX12_ok, nmX12, rfl⟩
theorem jo_aald_2 {i : Int} (hd : decode d.2.1 pc = .ok (.aaload, 1)) (kk : jK jNN (2, 60) (jRn 2 (jw i).toNat) → jO g d Qf cs jNN ad jR (pc + 1) lo (.ref (jRn 2 (jw i).toNat) :: st) M o) : jO g d Qf cs jNN ad jR pc lo (ji i :: .ref 2 :: st) M (chk (jin i 4) o) :=
  jo_aaldl kc_2 (fun k h => (kn_2 k h).1) hd fun hc => kk (kn_2 _ (by have := hc.1; have := hc.2; omega)).2
theorem jo_aald_65 {i : Int} (hd : decode d.2.1 pc = .ok (.aaload, 1)) (kk : jK jNN (0, 4) (jRn 65 (jw i).toNat) → jO g d Qf cs jNN ad jR (pc + 1) lo (.ref (jRn 65 (jw i).toNat) :: st) M o) : jO g d Qf cs jNN ad jR pc lo (ji i :: .ref 65 :: st) M (chk (jin i 3) o) :=
  jo_aaldq (t0 := 4) (t := 1) rfl kc_65 (fun k h => (kn_65 k h).1) hd fun hc => kk (kn_65 _ (by have := hc.1; have := hc.2; omega)).2
theorem jo_aald_66 {i : Int} (hd : decode d.2.1 pc = .ok (.aaload, 1)) (kk : jK jNN (0, 1) (jRn 66 (jw i).toNat) → jO g d Qf cs jNN ad jR (pc + 1) lo (.ref (jRn 66 (jw i).toNat) :: st) M o) : jO g d Qf cs jNN ad jR pc lo (ji i :: .ref 66 :: st) M (chk (jin i 3) o) :=
  jo_aaldq (t0 := 5) (t := 2) rfl kc_66 (fun k h => (kn_66 k h).1) hd fun hc => kk (kn_66 _ (by have := hc.1; have := hc.2; omega)).2
theorem jo_aald_67 {i : Int} (hd : decode d.2.1 pc = .ok (.aaload, 1)) (kk : jK jNN (0, 9) (jRn 67 (jw i).toNat) → jO g d Qf cs jNN ad jR (pc + 1) lo (.ref (jRn 67 (jw i).toNat) :: st) M o) : jO g d Qf cs jNN ad jR pc lo (ji i :: .ref 67 :: st) M (chk (jin i 3) o) :=
  jo_aaldq (t0 := 6) (t := 3) rfl kc_67 (fun k h => (kn_67 k h).1) hd fun hc => kk (kn_67 _ (by have := hc.1; have := hc.2; omega)).2
end JMORE

section JSTRS
variable {α : Type} {g : JG} {d : JD} {Qf : JQ α} {cs : Nat × Nat} {n : Nat} {ad : Nat → Nat} {ρ : JRho} {pc : Nat} {lo : List (Option Value)} {st : List Value} {M : JMem} {o : Option α}
theorem jK1 {i : Nat} (hs : jStr g ad) (hi : i < 2) : ad (1000 + i) = g.2.2.2.2.1 i := by
  rcases (show i = 0 ∨ i = 1 by omega) with rfl | rfl
  · exact hs.1
  · exact hs.2.1
theorem jV1 {i : Nat} (hs : jStr g ad) (hi : i < 2) : ad (1002 + i) = g.2.2.2.2.2.1 i := by
  rcases (show i = 0 ∨ i = 1 by omega) with rfl | rfl
  · exact hs.2.2.1
  · exact hs.2.2.2.1
theorem jo_getC (hown : d.1 = RJ0) (hd : decode d.2.1 pc = .ok (.getstatic 38, 3)) (k : jO g d Qf cs n ad ρ (pc + 3) lo (ji 1 :: st) M o) : jO g d Qf cs n ad ρ pc lo st M o := by
  intro z hz p e s m args below meth c H locs ls Cx hH hS hl
  obtain ⟨hx1, hb, hml, hr, hlk, hnm, hown2, hts, hT, hX⟩ := id Cx
  exact va_gets (own := RJ0) hx1 hb hX.2.2.2.1 hS (by rw [← hown]; exact hown2) (hts _ (jTW_mem (k := 200) (by decide +kernel) rfl : Cond.fieldLink RJ0 38 "java/lang/String" "COMPACT_STRINGS" "Z" ∈ jTW)) (fun _ h => h) hd (k z hz p e s m args below meth c H locs ls Cx hH hS hl)
theorem jo_getF (hs : jStr g ad) (hown : d.1 = RJ0) (hd : decode d.2.1 pc = .ok (.getstatic 1053, 3)) (k : ∀ v : Value, (v = .null ∨ v = .ref 1004) → jO g d Qf cs n ad ρ (pc + 3) lo (v :: st) M o) : jO g d Qf cs n ad ρ pc lo st M o := by
  intro z hz p e s m args below meth c H locs ls Cx hH hS hl
  obtain ⟨hx1, hb, hml, hr, hlk, hnm, hown2, hts, hT, hX⟩ := id Cx
  rcases hX.2.2.2.2.1 with q | q
  · exact va_gets (own := RJ0) hx1 hb q hS (by rw [← hown]; exact hown2) (hts _ (jTW_mem (k := 216) (by decide +kernel) rfl : Cond.fieldLink RJ0 1053 "jdk/internal/util/Preconditions" "SIOOBE_FORMATTER" "Ljava/util/function/BiFunction;" ∈ jTW)) (fun _ h => h) hd (k .null (Or.inl rfl) z hz p e s m args below meth c H locs ls Cx hH hS hl)
  · refine va_gets (own := RJ0) hx1 hb q hS (by rw [← hown]; exact hown2) (hts _ (jTW_mem (k := 216) (by decide +kernel) rfl : Cond.fieldLink RJ0 1053 "jdk/internal/util/Preconditions" "SIOOBE_FORMATTER" "Ljava/util/function/BiFunction;" ∈ jTW)) (fun _ h => h) hd ?_
    have kk := k (.ref 1004) (Or.inr rfl) z hz p e s m args below meth c H locs ls Cx hH hS hl
    rw [show (Value.ref 1004 :: st).map (jmv ad) = .ref (ad 1004) :: st.map (jmv ad) from rfl, hs.2.2.2.2] at kk
    exact kk
theorem jo_getSv {i : Nat} (hs : jStr g ad) (hi : i < 2) (hown : d.1 = RJ0) (hd : decode d.2.1 pc = .ok (.getfield 9, 3)) (k : jO g d Qf cs n ad ρ (pc + 3) lo (.ref (1002 + i) :: st) M o) : jO g d Qf cs n ad ρ pc lo (.ref (1000 + i) :: st) M o := by
  intro z hz p e s m args below meth c H locs ls Cx hH hS hl
  obtain ⟨hx1, hb, hml, hr, hlk, hnm, hown2, hts, hT, hX⟩ := id Cx
  have kk := k z hz p e s m args below meth c H locs ls Cx hH hS hl
  rw [show (Value.ref (1002 + i) :: st).map (jmv ad) = .ref (ad (1002 + i)) :: st.map (jmv ad) from rfl, jV1 hs hi] at kk
  show W p _ e _ s m args below meth c H locs _ _ _ (F0 m pc ls (.ref (ad (1000 + i)) :: st.map (jmv ad)))
  rw [jK1 hs hi]
  exact vk_getf (own := RJ0) hx1 hb (hX.1.1 i hi).2.2.1 hS (by rw [← hown]; exact hown2) (hts _ (jTW_mem (k := 2098) (by decide +kernel) rfl : Cond.fieldLink RJ0 9 "java/lang/String" "value" "[B" ∈ jTW)) (fun _ h => h) hd kk
theorem jo_getSc {i : Nat} (hs : jStr g ad) (hi : i < 2) (hown : d.1 = RJ0) (hd : decode d.2.1 pc = .ok (.getfield 15, 3)) (k : jO g d Qf cs n ad ρ (pc + 3) lo (ji 0 :: st) M o) : jO g d Qf cs n ad ρ pc lo (.ref (1000 + i) :: st) M o := by
  intro z hz p e s m args below meth c H locs ls Cx hH hS hl
  obtain ⟨hx1, hb, hml, hr, hlk, hnm, hown2, hts, hT, hX⟩ := id Cx
  have kk := k z hz p e s m args below meth c H locs ls Cx hH hS hl
  show W p _ e _ s m args below meth c H locs _ _ _ (F0 m pc ls (.ref (ad (1000 + i)) :: st.map (jmv ad)))
  rw [jK1 hs hi]
  exact vk_getf (own := RJ0) hx1 hb (hX.1.1 i hi).2.1 hS (by rw [← hown]; exact hown2) (hts _ (jTW_mem (k := 2099) (by decide +kernel) rfl : Cond.fieldLink RJ0 15 "java/lang/String" "coder" "B" ∈ jTW)) (fun _ h => h) hd kk
theorem jo_alenS {i : Nat} (hs : jStr g ad) (hi : i < 2) (hd : decode d.2.1 pc = .ok (.arraylength, 1)) (k : jO g d Qf cs n ad ρ (pc + 1) lo (ji ((jLen.getD i 0 : Nat) : Int) :: st) M o) : jO g d Qf cs n ad ρ pc lo (.ref (1002 + i) :: st) M o := by
  intro z hz p e s m args below meth c H locs ls Cx hH hS hl
  obtain ⟨hx1, hb, hml, hr, hlk, hnm, hown2, hts, hT, hX⟩ := id Cx
  have kk := k z hz p e s m args below meth c H locs ls Cx hH hS hl
  show W p _ e _ s m args below meth c H locs _ _ _ (F0 m pc ls (.ref (ad (1002 + i)) :: st.map (jmv ad)))
  rw [jV1 hs hi]
  exact va_tlen hx1 hb (hX.1.1 i hi).2.2.2 hS Int32.ofInt_eq_ofNat.symm hd kk
/-- a text's sign -/
def jSb (i k : Nat) : Int := ((jByt.getD i []).getD k 0).toInt
theorem jo_baldS {i : Nat} {x : Int} (hs : jStr g ad) (hi : i < 2) (hin : jin x (jLen.getD i 0)) (hd : decode d.2.1 pc = .ok (.baload, 1)) (k : jO g d Qf cs n ad ρ (pc + 1) lo (ji (jSb i (jw x).toNat) :: st) M o) : jO g d Qf cs n ad ρ pc lo (ji x :: .ref (1002 + i) :: st) M o := by
  intro z hz p e s m args below meth c H locs ls Cx hH hS hl
  obtain ⟨hx1, hb, hml, hr, hlk, hnm, hown2, hts, hT, hX⟩ := id Cx
  have kk := k z hz p e s m args below meth c H locs ls Cx hH hS hl
  show W p _ e _ s m args below meth c H locs _ _ _ (F0 m pc ls (.int (Int32.ofInt x) :: .ref (ad (1002 + i)) :: st.map (jmv ad)))
  rw [jV1 hs hi]
  exact va_tb hx1 hb (hX.1.1 i hi).2.2.2 hS (jvp_in hin) (by rw [ji_nat]; show _ = Value.int (Int32.ofInt (jSb i _)); unfold jSb; rw [jtoI]) hd kk
theorem jo_i2c (x : Int) (hd : decode d.2.1 pc = .ok (.i2c, 1)) (hx : ((Int32.ofInt x).toUInt32 % 65536).toInt32 = Int32.ofInt x) (k : jO g d Qf cs n ad ρ (pc + 1) lo (ji x :: st) M o) : jO g d Qf cs n ad ρ pc lo (ji x :: st) M o :=
  k.row fun p e s m args below meth c H locs ls Q C hl kk => lv_i2c C.1 C.2.1 hd hx kk
theorem jo_loadA (i : Nat) {j : Fin 4} {v : Value} (hv : v = .null ∨ v = .ref 1004) (hd : decode d.2.1 pc = .ok (.aload_n j, 1)) (hj : (j : Nat) = i) (hl0 : lo[i]? = some (some v)) (k : jO g d Qf cs n ad ρ (pc + 1) lo (v :: st) M o) : jO g d Qf cs n ad ρ pc lo st M o :=
  k.row fun p e s m args below meth c H locs ls Q C hl kk => by
    rcases hv with rfl | rfl
    · exact lv_aload_nN C.1 C.2.1 hd hj (hl.2.2 i _ hl0) kk
    · exact lv_aload_n C.1 C.2.1 hd hj (hl.2.2 i _ hl0) kk
theorem jo_xret {v : Int} {ty : FieldType} (hr0 : d.2.2.2.1 = some ty) (hn : narrow ty (.int (Int32.ofInt v)) = .int (Int32.ofInt v)) (hv : jrv (some ty) v = some (ji v)) (hd : decode d.2.1 pc = .ok (.ireturn, 1)) : jO g d (jMQ g n ad ρ d.2.2.2.1) (0, 0) n ad ρ pc lo [ji v] M (some (v, M)) := by
  intro z hz p e s m args below meth c H locs ls Cx hH hS hl
  cases hz
  exact W.zret Cx.1 Cx.2.1 (Cx.2.2.2.1.trans hr0) hn (jend Cx hH hS (by rw [hr0]; exact hv.symm)) hS.2.2 hd (hlocks := Cx.2.2.2.2.1)
/-- a call on one of the two texts -/
theorem jo_callT {d' : JD} {y : MethodName} {na idx i : Nat} {As : List Value} {st0 : List Value} {o' : Option (Int × JMem)} {f : Int → JMem → Option α} (hs : jStr g ad) (hi2 : i < 2) (hM : jMet g n ad ρ d' y (.ref (1000 + i) :: As) M o') (ok : jOk d' y na) (hfit : jFit d' d) (hlink : Cond.methodLink d.1 idx y ∈ jTW) (hi : Cond.instanceMethod y ∈ jTW) (hsl : Cond.selects y.cls y y ∈ jTW) (hn : As.length = na) (hqn : y.cls = "java/lang/String")
    (hcs : cs.1 ≤ d.2.2.2.2.2.cells ∧ cs.2 ≤ d.2.2.2.2.2.slots) (hst : st0 = As.reverse ++ .ref (1000 + i) :: st) (hw : (st.map fun v => v.category).sum ≤ 8) (hd : decode d.2.1 pc = .ok (.invokevirtual idx, 3))
    (k : ∀ (r : Int) (M' : JMem), jO g d Qf cs n ad ρ (pc + 3) lo (jres d'.2.2.2.1 r ++ st) M' (f r M')) : jO g d Qf cs n ad ρ pc lo st0 M (bnd o' f) := by
  intro z hz p e s m args below meth c H locs ls Cx hH hS hl
  cases ho : o' with
  | none => rw [ho] at hz; cases hz
  | some rM =>
    obtain ⟨r, M'⟩ := rM
    rw [ho, bnd_some] at hz
    have hM2 := hM r M' ho
    obtain ⟨hx1, hbb, hml, hr, hlk, hnm, hown, hts, hT, hX⟩ := id Cx
    subst hst
    have hstk : (As.reverse ++ .ref (1000 + i) :: st).map (jmv ad) = (As.map (jmv ad)).reverse ++ .ref (ad (1000 + i)) :: st.map (jmv ad) := by
      rw [List.map_append, List.map_reverse]
      rfl
    rw [hstk]
    refine jback (rest := st.map (jmv ad)) (va_runV (C := y.cls) (As := As.map (jmv ad)) (n := na) ⟨hx1, hbb, hml, hown, hts⟩ hM2 ⟨jcallB Cx ok hfit hlink, hts _ hi, hts _ hsl⟩ ⟨jblind, ?_, ?_⟩ rfl (by rw [List.length_map]; exact hn) hl.1 rfl (lv_room (by rw [jcat]; exact hw)) hd ⟨hcs.1, hcs.2⟩) hS (fun H1 locs1 hH1 hS1 => ?_)
    · rw [jK1 hs hi2, hqn]
      exact vk_recv hX.1 hi2 hS
    · exact jcalled Cx hH hS
    · have hk := k r M' z hz p e s m args below meth c H1 locs1 ls Cx hH1 hS1 hl
      rw [List.map_append, jres_mv] at hk
      exact hk

def D_J0_coder_7d493 : JD := (RJ0, cJ0_coder_7d493, 1, some .byte, "coder", { frames := 0, cells := 0, slots := 0, locals := 0 })
theorem ok_J0_coder_7d493 : jOk D_J0_coder_7d493 yJ0_coder_7d493 0 := ⟨jTW_mem (k := 199) (by decide +kernel) rfl, jTW_mem (k := 138) (by decide +kernel) rfl, ⟨by decide +kernel, by decide +kernel⟩, by decide +kernel, rfl, rfl⟩
theorem in_J0_coder_7d493 : Cond.instanceMethod yJ0_coder_7d493 ∈ jTW := jTW_mem (k := 197) (by decide +kernel) rfl
theorem se_J0_coder_7d493 : Cond.selects yJ0_coder_7d493.cls yJ0_coder_7d493 yJ0_coder_7d493 ∈ jTW := jTW_mem (k := 198) (by decide +kernel) rfl
theorem d_J0_coder_7d493_0 : decode (D_J0_coder_7d493).2.1 0 = .ok (.getstatic 38, 3) := by decide +kernel
theorem d_J0_coder_7d493_3 : decode (D_J0_coder_7d493).2.1 3 = .ok (.ifCond .eq 10, 3) := by decide +kernel
theorem d_J0_coder_7d493_6 : decode (D_J0_coder_7d493).2.1 6 = .ok (.aload_n 0, 1) := by decide +kernel
theorem d_J0_coder_7d493_7 : decode (D_J0_coder_7d493).2.1 7 = .ok (.getfield 15, 3) := by decide +kernel
theorem d_J0_coder_7d493_10 : decode (D_J0_coder_7d493).2.1 10 = .ok (.goto 4, 3) := by decide +kernel
theorem d_J0_coder_7d493_13 : decode (D_J0_coder_7d493).2.1 13 = .ok (.iconst 1, 1) := by decide +kernel
theorem d_J0_coder_7d493_14 : decode (D_J0_coder_7d493).2.1 14 = .ok (.ireturn, 1) := by decide +kernel
def D_J0_isLatin1_aae02 : JD := (RJ0, cJ0_isLatin1_aae02, 1, some .boolean, "isLatin1", { frames := 0, cells := 0, slots := 0, locals := 0 })
theorem ok_J0_isLatin1_aae02 : jOk D_J0_isLatin1_aae02 yJ0_isLatin1_aae02 0 := ⟨jTW_mem (k := 209) (by decide +kernel) rfl, jTW_mem (k := 138) (by decide +kernel) rfl, ⟨by decide +kernel, by decide +kernel⟩, by decide +kernel, rfl, rfl⟩
theorem in_J0_isLatin1_aae02 : Cond.instanceMethod yJ0_isLatin1_aae02 ∈ jTW := jTW_mem (k := 207) (by decide +kernel) rfl
theorem se_J0_isLatin1_aae02 : Cond.selects yJ0_isLatin1_aae02.cls yJ0_isLatin1_aae02 yJ0_isLatin1_aae02 ∈ jTW := jTW_mem (k := 208) (by decide +kernel) rfl
theorem d_J0_isLatin1_aae02_0 : decode (D_J0_isLatin1_aae02).2.1 0 = .ok (.getstatic 38, 3) := by decide +kernel
theorem d_J0_isLatin1_aae02_3 : decode (D_J0_isLatin1_aae02).2.1 3 = .ok (.ifCond .eq 14, 3) := by decide +kernel
theorem d_J0_isLatin1_aae02_6 : decode (D_J0_isLatin1_aae02).2.1 6 = .ok (.aload_n 0, 1) := by decide +kernel
theorem d_J0_isLatin1_aae02_7 : decode (D_J0_isLatin1_aae02).2.1 7 = .ok (.getfield 15, 3) := by decide +kernel
theorem d_J0_isLatin1_aae02_10 : decode (D_J0_isLatin1_aae02).2.1 10 = .ok (.ifCond .ne 7, 3) := by decide +kernel
theorem d_J0_isLatin1_aae02_13 : decode (D_J0_isLatin1_aae02).2.1 13 = .ok (.iconst 1, 1) := by decide +kernel
theorem d_J0_isLatin1_aae02_14 : decode (D_J0_isLatin1_aae02).2.1 14 = .ok (.goto 4, 3) := by decide +kernel
theorem d_J0_isLatin1_aae02_17 : decode (D_J0_isLatin1_aae02).2.1 17 = .ok (.iconst 0, 1) := by decide +kernel
theorem d_J0_isLatin1_aae02_18 : decode (D_J0_isLatin1_aae02).2.1 18 = .ok (.ireturn, 1) := by decide +kernel
def D_J0_length_8abf5 : JD := (RJ0, cJ0_length_8abf5, 1, some .int, "length", { frames := 1, cells := 0, slots := 0, locals := 20 })
theorem ok_J0_length_8abf5 : jOk D_J0_length_8abf5 yJ0_length_8abf5 0 := ⟨jTW_mem (k := 195) (by decide +kernel) rfl, jTW_mem (k := 138) (by decide +kernel) rfl, ⟨by decide +kernel, by decide +kernel⟩, by decide +kernel, rfl, rfl⟩
theorem in_J0_length_8abf5 : Cond.instanceMethod yJ0_length_8abf5 ∈ jTW := jTW_mem (k := 193) (by decide +kernel) rfl
theorem se_J0_length_8abf5 : Cond.selects yJ0_length_8abf5.cls yJ0_length_8abf5 yJ0_length_8abf5 ∈ jTW := jTW_mem (k := 194) (by decide +kernel) rfl
theorem d_J0_length_8abf5_0 : decode (D_J0_length_8abf5).2.1 0 = .ok (.aload_n 0, 1) := by decide +kernel
theorem d_J0_length_8abf5_1 : decode (D_J0_length_8abf5).2.1 1 = .ok (.getfield 9, 3) := by decide +kernel
theorem d_J0_length_8abf5_4 : decode (D_J0_length_8abf5).2.1 4 = .ok (.arraylength, 1) := by decide +kernel
theorem d_J0_length_8abf5_5 : decode (D_J0_length_8abf5).2.1 5 = .ok (.aload_n 0, 1) := by decide +kernel
theorem d_J0_length_8abf5_6 : decode (D_J0_length_8abf5).2.1 6 = .ok (.invokevirtual 335, 3) := by decide +kernel
theorem d_J0_length_8abf5_9 : decode (D_J0_length_8abf5).2.1 9 = .ok (.ishr, 1) := by decide +kernel
theorem d_J0_length_8abf5_10 : decode (D_J0_length_8abf5).2.1 10 = .ok (.ireturn, 1) := by decide +kernel
def D_J3_checkIndex_8e157 : JD := (RJ3, cJ3_checkIndex_8e157, 3, some .int, "checkIndex", { frames := 0, cells := 0, slots := 0, locals := 0 })
theorem ok_J3_checkIndex_8e157 : jOk D_J3_checkIndex_8e157 yJ3_checkIndex_8e157 3 := ⟨jTW_mem (k := 220) (by decide +kernel) rfl, jTW_mem (k := 140) (by decide +kernel) rfl, ⟨by decide +kernel, by decide +kernel⟩, by decide +kernel, rfl, rfl⟩
theorem st_J3_checkIndex_8e157 : Cond.static yJ3_checkIndex_8e157 ∈ jTW := jTW_mem (k := 219) (by decide +kernel) rfl
theorem d_J3_checkIndex_8e157_0 : decode (D_J3_checkIndex_8e157).2.1 0 = .ok (.iload_n 0, 1) := by decide +kernel
theorem d_J3_checkIndex_8e157_1 : decode (D_J3_checkIndex_8e157).2.1 1 = .ok (.ifCond .lt 8, 3) := by decide +kernel
theorem d_J3_checkIndex_8e157_4 : decode (D_J3_checkIndex_8e157).2.1 4 = .ok (.iload_n 0, 1) := by decide +kernel
theorem d_J3_checkIndex_8e157_5 : decode (D_J3_checkIndex_8e157).2.1 5 = .ok (.iload_n 1, 1) := by decide +kernel
theorem d_J3_checkIndex_8e157_6 : decode (D_J3_checkIndex_8e157).2.1 6 = .ok (.if_icmp .lt 10, 3) := by decide +kernel
theorem d_J3_checkIndex_8e157_16 : decode (D_J3_checkIndex_8e157).2.1 16 = .ok (.iload_n 0, 1) := by decide +kernel
theorem d_J3_checkIndex_8e157_17 : decode (D_J3_checkIndex_8e157).2.1 17 = .ok (.ireturn, 1) := by decide +kernel
def D_J0_checkIndex_df160 : JD := (RJ0, cJ0_checkIndex_df160, 2, none, "checkIndex", { frames := 1, cells := 0, slots := 0, locals := 22 })
theorem ok_J0_checkIndex_df160 : jOk D_J0_checkIndex_df160 yJ0_checkIndex_df160 2 := ⟨jTW_mem (k := 215) (by decide +kernel) rfl, jTW_mem (k := 138) (by decide +kernel) rfl, ⟨by decide +kernel, by decide +kernel⟩, by decide +kernel, rfl, rfl⟩
theorem st_J0_checkIndex_df160 : Cond.static yJ0_checkIndex_df160 ∈ jTW := jTW_mem (k := 214) (by decide +kernel) rfl
theorem d_J0_checkIndex_df160_0 : decode (D_J0_checkIndex_df160).2.1 0 = .ok (.iload_n 0, 1) := by decide +kernel
theorem d_J0_checkIndex_df160_1 : decode (D_J0_checkIndex_df160).2.1 1 = .ok (.iload_n 1, 1) := by decide +kernel
theorem d_J0_checkIndex_df160_2 : decode (D_J0_checkIndex_df160).2.1 2 = .ok (.getstatic 1053, 3) := by decide +kernel
theorem d_J0_checkIndex_df160_5 : decode (D_J0_checkIndex_df160).2.1 5 = .ok (.invokestatic 1059, 3) := by decide +kernel
theorem d_J0_checkIndex_df160_8 : decode (D_J0_checkIndex_df160).2.1 8 = .ok (.pop, 1) := by decide +kernel
theorem d_J0_checkIndex_df160_9 : decode (D_J0_checkIndex_df160).2.1 9 = .ok (.return_, 1) := by decide +kernel
def D_J1_charAt_3b067 : JD := (RJ1, cJ1_charAt_3b067, 2, some .char, "charAt", { frames := 2, cells := 0, slots := 0, locals := 43 })
theorem ok_J1_charAt_3b067 : jOk D_J1_charAt_3b067 yJ1_charAt_3b067 2 := ⟨jTW_mem (k := 212) (by decide +kernel) rfl, jTW_mem (k := 139) (by decide +kernel) rfl, ⟨by decide +kernel, by decide +kernel⟩, by decide +kernel, rfl, rfl⟩
theorem st_J1_charAt_3b067 : Cond.static yJ1_charAt_3b067 ∈ jTW := jTW_mem (k := 211) (by decide +kernel) rfl
theorem d_J1_charAt_3b067_0 : decode (D_J1_charAt_3b067).2.1 0 = .ok (.iload_n 1, 1) := by decide +kernel
theorem d_J1_charAt_3b067_1 : decode (D_J1_charAt_3b067).2.1 1 = .ok (.aload_n 0, 1) := by decide +kernel
theorem d_J1_charAt_3b067_2 : decode (D_J1_charAt_3b067).2.1 2 = .ok (.arraylength, 1) := by decide +kernel
theorem d_J1_charAt_3b067_3 : decode (D_J1_charAt_3b067).2.1 3 = .ok (.invokestatic 9, 3) := by decide +kernel
theorem d_J1_charAt_3b067_6 : decode (D_J1_charAt_3b067).2.1 6 = .ok (.aload_n 0, 1) := by decide +kernel
theorem d_J1_charAt_3b067_7 : decode (D_J1_charAt_3b067).2.1 7 = .ok (.iload_n 1, 1) := by decide +kernel
theorem d_J1_charAt_3b067_8 : decode (D_J1_charAt_3b067).2.1 8 = .ok (.baload, 1) := by decide +kernel
theorem d_J1_charAt_3b067_9 : decode (D_J1_charAt_3b067).2.1 9 = .ok (.sipush 255, 3) := by decide +kernel
theorem d_J1_charAt_3b067_12 : decode (D_J1_charAt_3b067).2.1 12 = .ok (.iand, 1) := by decide +kernel
theorem d_J1_charAt_3b067_13 : decode (D_J1_charAt_3b067).2.1 13 = .ok (.i2c, 1) := by decide +kernel
theorem d_J1_charAt_3b067_14 : decode (D_J1_charAt_3b067).2.1 14 = .ok (.ireturn, 1) := by decide +kernel
def D_J0_charAt_5068e : JD := (RJ0, cJ0_charAt_5068e, 2, some .char, "charAt", { frames := 3, cells := 0, slots := 0, locals := 64 })
theorem ok_J0_charAt_5068e : jOk D_J0_charAt_5068e yJ0_charAt_5068e 1 := ⟨jTW_mem (k := 205) (by decide +kernel) rfl, jTW_mem (k := 138) (by decide +kernel) rfl, ⟨by decide +kernel, by decide +kernel⟩, by decide +kernel, rfl, rfl⟩
theorem in_J0_charAt_5068e : Cond.instanceMethod yJ0_charAt_5068e ∈ jTW := jTW_mem (k := 203) (by decide +kernel) rfl
theorem se_J0_charAt_5068e : Cond.selects yJ0_charAt_5068e.cls yJ0_charAt_5068e yJ0_charAt_5068e ∈ jTW := jTW_mem (k := 204) (by decide +kernel) rfl
theorem d_J0_charAt_5068e_0 : decode (D_J0_charAt_5068e).2.1 0 = .ok (.aload_n 0, 1) := by decide +kernel
theorem d_J0_charAt_5068e_1 : decode (D_J0_charAt_5068e).2.1 1 = .ok (.invokevirtual 492, 3) := by decide +kernel
theorem d_J0_charAt_5068e_4 : decode (D_J0_charAt_5068e).2.1 4 = .ok (.ifCond .eq 12, 3) := by decide +kernel
theorem d_J0_charAt_5068e_7 : decode (D_J0_charAt_5068e).2.1 7 = .ok (.aload_n 0, 1) := by decide +kernel
theorem d_J0_charAt_5068e_8 : decode (D_J0_charAt_5068e).2.1 8 = .ok (.getfield 9, 3) := by decide +kernel
theorem d_J0_charAt_5068e_11 : decode (D_J0_charAt_5068e).2.1 11 = .ok (.iload_n 1, 1) := by decide +kernel
theorem d_J0_charAt_5068e_12 : decode (D_J0_charAt_5068e).2.1 12 = .ok (.invokestatic 495, 3) := by decide +kernel
theorem d_J0_charAt_5068e_15 : decode (D_J0_charAt_5068e).2.1 15 = .ok (.ireturn, 1) := by decide +kernel

theorem m_coder {i : Nat} (hs : jStr g ad) (hi : i < 2) : jMet g n ad ρ D_J0_coder_7d493 yJ0_coder_7d493 [.ref (1000 + i)] M (some (0, M)) := by
  refine jMet.of (lo0 := [some (.ref (1000 + i))]) (by decide) rfl rfl (Nat.le_of_ble_eq_true rfl) (And.intro rfl True.intro) ?_
  refine jo_getC rfl d_J0_coder_7d493_0 ?_
  have e : (some (0, M) : Option (Int × JMem)) = if jw 1 = 0 then none else some (0, M) := by rw [if_neg (by decide)]
  rw [e]
  refine jo_if_eq 13 d_J0_coder_7d493_3 (by decide) jO.none ?_
  refine jo_aload 0 d_J0_coder_7d493_6 rfl rfl ?_
  refine jo_getSc hs hi rfl d_J0_coder_7d493_7 ?_
  refine jo_goto 14 d_J0_coder_7d493_10 (by decide) ?_
  exact jo_xret (ty := .byte) rfl (by decide) rfl d_J0_coder_7d493_14
theorem m_isLatin1 {i : Nat} (hs : jStr g ad) (hi : i < 2) : jMet g n ad ρ D_J0_isLatin1_aae02 yJ0_isLatin1_aae02 [.ref (1000 + i)] M (some (1, M)) := by
  refine jMet.of (lo0 := [some (.ref (1000 + i))]) (by decide) rfl rfl (Nat.le_of_ble_eq_true rfl) (And.intro rfl True.intro) ?_
  refine jo_getC rfl d_J0_isLatin1_aae02_0 ?_
  have e : (some (1, M) : Option (Int × JMem)) = if jw 1 = 0 then none else (if jw 0 = 0 then some (1, M) else none) := by rw [if_neg (by decide), if_pos (by decide)]
  rw [e]
  refine jo_if_eq 17 d_J0_isLatin1_aae02_3 (by decide) jO.none ?_
  refine jo_aload 0 d_J0_isLatin1_aae02_6 rfl rfl ?_
  refine jo_getSc hs hi rfl d_J0_isLatin1_aae02_7 ?_
  refine jo_if_ne 17 d_J0_isLatin1_aae02_10 (by decide) jO.none ?_
  refine jo_iconst 1 d_J0_isLatin1_aae02_13 ?_
  refine jo_goto 18 d_J0_isLatin1_aae02_14 (by decide) ?_
  exact jo_zret rfl (by decide) d_J0_isLatin1_aae02_18
theorem m_length {i : Nat} (hs : jStr g ad) (hi : i < 2) : jMet g n ad ρ D_J0_length_8abf5 yJ0_length_8abf5 [.ref (1000 + i)] M (some (((jLen.getD i 0 : Nat) : Int), M)) := by
  refine jMet.of (lo0 := [some (.ref (1000 + i))]) (by decide) rfl rfl (Nat.le_of_ble_eq_true rfl) (And.intro rfl True.intro) ?_
  refine jo_aload 0 d_J0_length_8abf5_0 rfl rfl ?_
  refine jo_getSv hs hi rfl d_J0_length_8abf5_1 ?_
  refine jo_alenS hs hi d_J0_length_8abf5_4 ?_
  refine jo_aload 0 d_J0_length_8abf5_5 rfl rfl ?_
  have e : (some (((jLen.getD i 0 : Nat) : Int), M) : Option (Int × JMem)) = bnd (some (0, M)) (fun r M1 => some (jshr ((jLen.getD i 0 : Nat) : Int) r, M1)) := by
    rw [bnd_some]
    rcases (show i = 0 ∨ i = 1 by omega) with rfl | rfl
    · exact congrArg (fun q => some (q, M)) (by decide)
    · exact congrArg (fun q => some (q, M)) (by decide)
  rw [e]
  refine jo_callT (As := []) (st := [ji ((jLen.getD i 0 : Nat) : Int)]) hs hi (m_coder hs hi) ok_J0_coder_7d493 (And.intro (Nat.le_of_ble_eq_true rfl) (Nat.le_of_ble_eq_true rfl)) (jTW_mem (k := 196) (by decide +kernel) rfl) in_J0_coder_7d493 se_J0_coder_7d493 rfl rfl (And.intro (Nat.zero_le _) (Nat.zero_le _)) rfl (Nat.le_of_ble_eq_true rfl) d_J0_length_8abf5_6 (fun r M1 => ?_)
  refine jo_ishr d_J0_length_8abf5_9 ?_
  exact jo_iret rfl d_J0_length_8abf5_10
theorem m_pcheck {x y : Int} {v : Value} (hv : v = .null ∨ v = .ref 1004) (h1 : ¬ jw x < 0) (h2 : jw x < jw y) : jMet g n ad ρ D_J3_checkIndex_8e157 yJ3_checkIndex_8e157 [ji x, ji y, v] M (some (x, M)) := by
  refine jMet.of (lo0 := [some (ji x), some (ji y)]) (by decide) rfl rfl (by rcases hv with rfl | rfl <;> exact Nat.le_of_ble_eq_true rfl) (And.intro rfl (And.intro rfl True.intro)) ?_
  refine jo_iload 0 d_J3_checkIndex_8e157_0 rfl rfl ?_
  have e : (some (x, M) : Option (Int × JMem)) = if jw x < 0 then none else (if jw x < jw y then some (x, M) else none) := by rw [if_neg h1, if_pos h2]
  rw [e]
  refine jo_if_lt 9 d_J3_checkIndex_8e157_1 (by decide) jO.none ?_
  refine jo_iload 0 d_J3_checkIndex_8e157_4 rfl rfl ?_
  refine jo_iload 1 d_J3_checkIndex_8e157_5 rfl rfl ?_
  refine jo_icmp_lt 16 d_J3_checkIndex_8e157_6 (by decide) ?_ jO.none
  refine jo_iload 0 d_J3_checkIndex_8e157_16 rfl rfl ?_
  exact jo_iret rfl d_J3_checkIndex_8e157_17
theorem m_scheck {x y : Int} (hs : jStr g ad) (h1 : ¬ jw x < 0) (h2 : jw x < jw y) : jMet g n ad ρ D_J0_checkIndex_df160 yJ0_checkIndex_df160 [ji x, ji y] M (some (0, M)) := by
  refine jMet.of (lo0 := [some (ji x), some (ji y)]) (by decide) rfl rfl (Nat.le_of_ble_eq_true rfl) (And.intro rfl (And.intro rfl True.intro)) ?_
  refine jo_iload 0 d_J0_checkIndex_df160_0 rfl rfl ?_
  refine jo_iload 1 d_J0_checkIndex_df160_1 rfl rfl ?_
  refine jo_getF hs rfl d_J0_checkIndex_df160_2 (fun v hv => ?_)
  have e : (some (0, M) : Option (Int × JMem)) = bnd (some (x, M)) (fun r M1 => some (0, M1)) := rfl
  rw [e]
  refine jo_callS (As := [ji x, ji y, v]) (st := []) (m_pcheck hv h1 h2) ok_J3_checkIndex_8e157 (And.intro (Nat.le_of_ble_eq_true rfl) (Nat.le_of_ble_eq_true rfl)) (jTW_mem (k := 218) (by decide +kernel) rfl) st_J3_checkIndex_8e157 rfl (And.intro (Nat.zero_le _) (Nat.zero_le _)) rfl (Nat.le_of_ble_eq_true rfl) d_J0_checkIndex_df160_5 (fun r M1 => ?_)
  refine jo_pop (v := ji r) (st := []) d_J0_checkIndex_df160_8 rfl ?_
  exact jo_vret rfl d_J0_checkIndex_df160_9
theorem jSb_byte : ∀ i, i < 2 → ∀ k, k < jLen.getD i 0 → (jand (jSb i k) 255 = jSb i k ∧ (((Int32.ofInt (jSb i k)).toUInt32 % 65536).toInt32 = Int32.ofInt (jSb i k))) ∧ narrow .char (.int (Int32.ofInt (jSb i k))) = .int (Int32.ofInt (jSb i k)) := by decide +kernel
theorem jSb_ok {i : Nat} {x : Int} (hi : i < 2) (hin : jin x (jLen.getD i 0)) : (jand (jSb i (jw x).toNat) 255 = jSb i (jw x).toNat ∧ (((Int32.ofInt (jSb i (jw x).toNat)).toUInt32 % 65536).toInt32 = Int32.ofInt (jSb i (jw x).toNat))) ∧ narrow .char (.int (Int32.ofInt (jSb i (jw x).toNat))) = .int (Int32.ofInt (jSb i (jw x).toNat)) :=
  jSb_byte i hi _ (by have := hin.1; have := hin.2; omega)
theorem jLen_w : ∀ i, i < 2 → jw ((jLen.getD i 0 : Nat) : Int) = ((jLen.getD i 0 : Nat) : Int) := by decide +kernel
theorem m_lcharAt {i : Nat} {x : Int} (hs : jStr g ad) (hi : i < 2) (hin : jin x (jLen.getD i 0)) : jMet g n ad ρ D_J1_charAt_3b067 yJ1_charAt_3b067 [.ref (1002 + i), ji x] M (some (jSb i (jw x).toNat, M)) := by
  refine jMet.of (lo0 := [some (.ref (1002 + i)), some (ji x)]) (by decide) rfl rfl (Nat.le_of_ble_eq_true rfl) (And.intro rfl (And.intro rfl True.intro)) ?_
  obtain ⟨⟨b1, b2⟩, b3⟩ := jSb_ok hi hin
  have hlt : jw x < jw ((jLen.getD i 0 : Nat) : Int) := by rw [jLen_w i hi]; exact hin.2
  refine jo_iload 1 d_J1_charAt_3b067_0 rfl rfl ?_
  refine jo_aload 0 d_J1_charAt_3b067_1 rfl rfl ?_
  refine jo_alenS hs hi d_J1_charAt_3b067_2 ?_
  have e : (some (jSb i (jw x).toNat, M) : Option (Int × JMem)) = bnd (some (0, M)) (fun r M1 => some (jSb i (jw x).toNat, M1)) := rfl
  rw [e]
  refine jo_callS (As := [ji x, ji ((jLen.getD i 0 : Nat) : Int)]) (st := []) (m_scheck hs (by have := hin.1; omega) hlt) ok_J0_checkIndex_df160 (And.intro (Nat.le_of_ble_eq_true rfl) (Nat.le_of_ble_eq_true rfl)) (jTW_mem (k := 213) (by decide +kernel) rfl) st_J0_checkIndex_df160 rfl (And.intro (Nat.zero_le _) (Nat.zero_le _)) rfl (Nat.le_of_ble_eq_true rfl) d_J1_charAt_3b067_3 (fun r M1 => ?_)
  refine jo_aload 0 d_J1_charAt_3b067_6 rfl rfl ?_
  refine jo_iload 1 d_J1_charAt_3b067_7 rfl rfl ?_
  refine jo_baldS hs hi hin d_J1_charAt_3b067_8 ?_
  refine jo_sipush 255 d_J1_charAt_3b067_9 (by decide) ?_
  refine jo_iand d_J1_charAt_3b067_12 ?_
  rw [b1]
  refine jo_i2c _ d_J1_charAt_3b067_13 b2 ?_
  exact jo_xret (ty := .char) rfl b3 rfl d_J1_charAt_3b067_14
theorem m_charAt {i : Nat} {x : Int} (hs : jStr g ad) (hi : i < 2) (hin : jin x (jLen.getD i 0)) : jMet g n ad ρ D_J0_charAt_5068e yJ0_charAt_5068e [.ref (1000 + i), ji x] M (some (jSb i (jw x).toNat, M)) := by
  refine jMet.of (lo0 := [some (.ref (1000 + i)), some (ji x)]) (by decide) rfl rfl (Nat.le_of_ble_eq_true rfl) (And.intro rfl (And.intro rfl True.intro)) ?_
  obtain ⟨⟨b1, b2⟩, b3⟩ := jSb_ok hi hin
  refine jo_aload 0 d_J0_charAt_5068e_0 rfl rfl ?_
  have e : (some (jSb i (jw x).toNat, M) : Option (Int × JMem)) = bnd (some (1, M)) (fun r M1 => if jw r = 0 then none else bnd (some (jSb i (jw x).toNat, M1)) (fun r2 M2 => chk (r2 = jSb i (jw x).toNat) (some (r2, M2)))) := by
    rw [bnd_some, if_neg (by decide), bnd_some, chk_pos rfl]
  rw [e]
  refine jo_callT (As := []) (st := []) hs hi (m_isLatin1 hs hi) ok_J0_isLatin1_aae02 (And.intro (Nat.le_of_ble_eq_true rfl) (Nat.le_of_ble_eq_true rfl)) (jTW_mem (k := 206) (by decide +kernel) rfl) in_J0_isLatin1_aae02 se_J0_isLatin1_aae02 rfl rfl (And.intro (Nat.zero_le _) (Nat.zero_le _)) rfl (Nat.le_of_ble_eq_true rfl) d_J0_charAt_5068e_1 (fun r M1 => ?_)
  refine jo_if_eq 16 d_J0_charAt_5068e_4 (by decide) jO.none ?_
  refine jo_aload 0 d_J0_charAt_5068e_7 rfl rfl ?_
  refine jo_getSv hs hi rfl d_J0_charAt_5068e_8 ?_
  refine jo_iload 1 d_J0_charAt_5068e_11 rfl rfl ?_
  refine jo_callS (As := [.ref (1002 + i), ji x]) (st := []) (m_lcharAt hs hi hin) ok_J1_charAt_3b067 (And.intro (Nat.le_of_ble_eq_true rfl) (Nat.le_of_ble_eq_true rfl)) (jTW_mem (k := 210) (by decide +kernel) rfl) st_J1_charAt_3b067 rfl (And.intro (Nat.zero_le _) (Nat.zero_le _)) rfl (Nat.le_of_ble_eq_true rfl) d_J0_charAt_5068e_12 (fun r2 M2 => ?_)
  refine jchk fun hr2 => ?_
  subst hr2
  exact jo_xret (ty := .char) rfl b3 rfl d_J0_charAt_5068e_15
/-! what the rows of the law's classes ask of the texts -/
theorem jfits {d' : JD} (h1 : 4 ≤ d.2.2.2.2.2.frames) (h2 : 110 ≤ d.2.2.2.2.2.locals) (h3 : d'.2.2.2.2.2.frames ≤ 3) (h4 : d'.2.2.2.2.2.locals ≤ 64) (h5 : d'.2.2.1 ≤ 2) : jFit d' d := by
  refine And.intro ?_ ?_ <;> omega
theorem jo_slenT {i idx : Nat} (hs : jStr g ad) (hi : i < 2) (hlink : Cond.methodLink d.1 idx yJ0_length_8abf5 ∈ jTW) (hf : 4 ≤ d.2.2.2.2.2.frames ∧ 110 ≤ d.2.2.2.2.2.locals) (hcs : cs.1 ≤ d.2.2.2.2.2.cells ∧ cs.2 ≤ d.2.2.2.2.2.slots) (hw : (st.map fun v => v.category).sum ≤ 8) (hd : decode d.2.1 pc = .ok (.invokevirtual idx, 3)) (k : jO g d Qf cs n ad ρ (pc + 3) lo (ji ((jLen.getD i 0 : Nat) : Int) :: st) M o) : jO g d Qf cs n ad ρ pc lo (.ref (1000 + i) :: st) M o := by
  intro z hz p e1 s m args below meth c H locs ls Cx hH hS hl
  have hM2 := m_length (g := g) (n := n) (ad := ad) (ρ := ρ) (M := M) hs hi _ _ rfl
  obtain ⟨hx1, hbb, hml, hr, hlk, hnm, hown, hts, hT, hX⟩ := id Cx
  refine jback (rest := st.map (jmv ad)) (va_runV (C := "java/lang/String") (As := []) (n := 0) ⟨hx1, hbb, hml, hown, hts⟩ hM2 ⟨jcallB Cx ok_J0_length_8abf5 (jfits hf.1 hf.2 (by decide) (by decide) (by decide)) hlink, hts _ in_J0_length_8abf5, hts _ se_J0_length_8abf5⟩ ⟨jblind, ?_, ?_⟩ rfl rfl hl.1 rfl (lv_room (by rw [jcat]; exact hw)) hd ⟨hcs.1, hcs.2⟩) hS (fun H1 locs1 hH1 hS1 => ?_)
  · show ∃ cellB : Cell, H[ad (1000 + i)]? = some cellB ∧ _
    rw [jK1 hs hi]
    exact vk_recv hX.1 hi hS
  · exact jcalled Cx hH hS
  · exact k z hz p e1 s m args below meth c H1 locs1 ls Cx hH1 hS1 hl
theorem jo_satT {i idx : Nat} {x : Int} (hs : jStr g ad) (hi : i < 2) (hlink : Cond.methodLink d.1 idx yJ0_charAt_5068e ∈ jTW) (hf : 4 ≤ d.2.2.2.2.2.frames ∧ 110 ≤ d.2.2.2.2.2.locals) (hcs : cs.1 ≤ d.2.2.2.2.2.cells ∧ cs.2 ≤ d.2.2.2.2.2.slots) (hw : (st.map fun v => v.category).sum ≤ 8) (hd : decode d.2.1 pc = .ok (.invokevirtual idx, 3)) (k : jO g d Qf cs n ad ρ (pc + 3) lo (ji (jSb i (jw x).toNat) :: st) M o) : jO g d Qf cs n ad ρ pc lo (ji x :: .ref (1000 + i) :: st) M (chk (jin x (jLen.getD i 0)) o) := by
  refine jchk fun hin => ?_
  intro z hz p e1 s m args below meth c H locs ls Cx hH hS hl
  have hM2 := m_charAt (g := g) (n := n) (ad := ad) (ρ := ρ) (M := M) hs hi hin _ _ rfl
  obtain ⟨hx1, hbb, hml, hr, hlk, hnm, hown, hts, hT, hX⟩ := id Cx
  refine jback (rest := st.map (jmv ad)) (va_runV (C := "java/lang/String") (As := [ji x]) (n := 1) ⟨hx1, hbb, hml, hown, hts⟩ hM2 ⟨jcallB Cx ok_J0_charAt_5068e (jfits hf.1 hf.2 (by decide) (by decide) (by decide)) hlink, hts _ in_J0_charAt_5068e, hts _ se_J0_charAt_5068e⟩ ⟨jblind, ?_, ?_⟩ rfl rfl hl.1 rfl (lv_room (by rw [jcat]; exact hw)) hd ⟨hcs.1, hcs.2⟩) hS (fun H1 locs1 hH1 hS1 => ?_)
  · show ∃ cellB : Cell, H[ad (1000 + i)]? = some cellB ∧ _
    rw [jK1 hs hi]
    exact vk_recv hX.1 hi hS
  · exact jcalled Cx hH hS
  · exact k z hz p e1 s m args below meth c H1 locs1 ls Cx hH1 hS1 hl
/-- the model's keys: how many signs, which sign -/
def jSl : Int := 138
def jSc (k : Nat) : Int := jSb 1 k
theorem jo_slen {idx : Nat} (hs : jStr g ad) (hlink : Cond.methodLink d.1 idx yJ0_length_8abf5 ∈ jTW) (hf : 4 ≤ d.2.2.2.2.2.frames ∧ 110 ≤ d.2.2.2.2.2.locals) (hw : (st.map fun v => v.category).sum ≤ 8) (hd : decode d.2.1 pc = .ok (.invokevirtual idx, 3)) (k : jO g d Qf (0, 0) n ad ρ (pc + 3) lo (ji jSl :: st) M o) : jO g d Qf (0, 0) n ad ρ pc lo (.ref 1001 :: st) M o :=
  jo_slenT (i := 1) hs (by decide) hlink hf ⟨Nat.zero_le _, Nat.zero_le _⟩ hw hd k
theorem jo_sat {idx : Nat} {x : Int} (hs : jStr g ad) (hlink : Cond.methodLink d.1 idx yJ0_charAt_5068e ∈ jTW) (hf : 4 ≤ d.2.2.2.2.2.frames ∧ 110 ≤ d.2.2.2.2.2.locals) (hw : (st.map fun v => v.category).sum ≤ 8) (hd : decode d.2.1 pc = .ok (.invokevirtual idx, 3)) (k : jO g d Qf (0, 0) n ad ρ (pc + 3) lo (ji (jSc (jw x).toNat) :: st) M o) : jO g d Qf (0, 0) n ad ρ pc lo (ji x :: .ref 1001 :: st) M (chk (jin x 138) o) :=
  jo_satT (i := 1) hs (by decide) hlink hf ⟨Nat.zero_le _, Nat.zero_le _⟩ hw hd k
end JSTRS

/-! THE CLAIM OUT OF ONE WALK OF THE LAW'S BODY. Your part is whole_start (and what it stands on); all else here is the same for every law, but numbers. -/
def R_law : String := "CageLeaveLaw"
def lw_P (b : Addr) (xs : List Int32) (args : Array Value) (s : State) : Prop := args = #[.ref b] ∧ s.IntsAt b xs ∧ xs.length ≤ 3072 ∧ (Jvm.Cond.and given_1 narrow_1).before args s = true
def lw_Q (_ : Array Value) (s : State) (o : Outcome) (t : State) : Prop := o = .returned (some (.int 1)) ∧ Framed s o t [] 600000 7302250
def lw_Z (below : List Frame) (a : Array Value) (s : State) : State → Prop := fun t => ∃ o, t.status = .running ∧ Ended t below o ∧ lw_Q a s o t
/-- the law's own end, with 1 on the stack, nothing written that was there before, its room as the claim has it -/
theorem lw_ret {p : Program} {l : Launch} {e : Env} {s : State} {m : MethodId} {below : List Frame} {meth : Method} {c : Code} {b : Nat} (hx : p.tables.exec = Jvm.exec) (hb : c.code = code) (hr : meth.sig.returnType = ret) (hlocks : meth.locks = false) {pc : Nat} {H : Heap} {ls : Array Slot} (hdg : decode code pc = .ok (.ireturn, 1)) : W p l e room_1 s m #[Value.ref b] below meth c H [] 600000 7302250 (lw_Z below #[Value.ref b] s) (F0 m pc ls [.int 1]) := by
  intro T hT X
  obtain ⟨fs, hret, hrun, hended, hW, hframe⟩ := X.leave (v := some (.int 1)) (hlocks := hlocks) (fun h => by rw [hr] at h; cases h)
  have hmeth' : T.vm.method? m = some meth := X.method'
  refine ⟨T.setFrames fs, ?_, .returned (some (.int 1)), hrun, hended, rfl, ⟨_, rfl⟩, hW, hframe⟩
  jvm_step X.here [X.here.top, hx, hb, hdg, hmeth', hr, ret, narrow_b1]
  (try refine ⟨rfl, ?_⟩); (try refine ⟨rfl, ?_⟩)
  first | (intro acts; rw [hret _ acts rfl rfl rfl]) | rw [hret _ _ rfl rfl rfl]
  exact Steps.refl _
/-- what holds at the law's entry: the machine, the code, the tables' words (any of lw_tbl by 'hts w (by decide +kernel)'), the script of L ints xs at the cell b, what the Statement gives of the start (any of its parts by flat_of_before) -/
def lw_At (p : Program) (s : State) (m : MethodId) (meth : Method) (c : Code) (b L : Nat) (xs : Nat → Int32) : Prop :=
  p.tables.exec = Jvm.exec ∧ c.code = code ∧ meth.sig.returnType = ret ∧ c.maxLocals = 4 ∧ s.vm.findClass R_law = some m.cls ∧ (∀ w ∈ lw_tbl, w.before #[Value.ref b] s = true) ∧ va_X b L xs s s.heap ∧ b < s.heap.size ∧ meth.locks = false ∧ (Jvm.Cond.and given_1 narrow_1).before #[Value.ref b] s = true
section JLAW
def D_L (nm : String) : JD := (RL, code, 4, some .boolean, nm, room_1)
/-- the law's end: what lw_Z says, for the start that is its own -/
def jQL (g : JG) : JQ (Int × JMem) := fun _ below args s t => ∀ b : Nat, args = #[Value.ref b] → s.heap.size ≤ g.2.2.1 → lw_Z below #[Value.ref b] s t
abbrev jL (g : JG) (nm : String) (ad : Nat → Nat) (pc : Nat) (lo : List (Option Value)) (st : List Value) (M : JMem) (o : Option (Int × JMem)) : Prop := jO g (D_L nm) (jQL g) (186, 10863) jNN ad jR pc lo st M o
section ROWS
variable {α : Type} {g : JG} {d : JD} {Qf : JQ α} {cs : Nat × Nat} {n : Nat} {ad : Nat → Nat} {ρ : JRho} {pc : Nat} {lo : List (Option Value)} {st : List Value} {M : JMem} {o : Option α}
theorem jo_sld {i : Int} (hsc : ad 1005 = g.2.2.2.2.2.2.1) (hd : decode d.2.1 pc = .ok (.iaload, 1)) (k : jO g d Qf cs n ad ρ (pc + 1) lo (ji (g.2.2.2.2.2.2.2.2 (jw i).toNat).toInt :: st) M o) : jO g d Qf cs n ad ρ pc lo (ji i :: .ref 1005 :: st) M (chk (jin i g.2.2.2.2.2.2.2.1) o) := by
  refine jchk fun hin => ?_
  intro z hz p e s m args below meth c H locs ls Cx hH hS hl
  obtain ⟨hx1, hb, hml, hr, hlk, hnm, hown, hts, hT, hX⟩ := id Cx
  have kk := k z hz p e s m args below meth c H locs ls Cx hH hS hl
  have hv : g.2.2.2.2.2.2.2.2 (Int32.ofInt i).toNatClampNeg = Int32.ofInt (g.2.2.2.2.2.2.2.2 (jw i).toNat).toInt := by rw [ji_nat, jtoI]
  show W p _ e _ s m args below meth c H locs _ _ _ (F0 m pc ls (.int (Int32.ofInt i) :: .ref (ad 1005) :: st.map (jmv ad)))
  rw [hsc]
  obtain ⟨scr, q1, q2⟩ := id hX.2.2.2.2.2.1
  exact va_sld hx1 hb hX.2.2.2.2.2.1 (Array.getElem?_eq_some_iff.mp q1).1 hX.2.2.2.2.2.2 hS (jvp_in hin) hd (by rw [hv]; exact kk)
theorem jo_slenL (hsc : ad 1005 = g.2.2.2.2.2.2.1) (hd : decode d.2.1 pc = .ok (.arraylength, 1)) (k : jO g d Qf cs n ad ρ (pc + 1) lo (ji ((g.2.2.2.2.2.2.2.1 : Nat) : Int) :: st) M o) : jO g d Qf cs n ad ρ pc lo (.ref 1005 :: st) M o := by
  intro z hz p e s m args below meth c H locs ls Cx hH hS hl
  obtain ⟨hx1, hb, hml, hr, hlk, hnm, hown, hts, hT, hX⟩ := id Cx
  have kk := k z hz p e s m args below meth c H locs ls Cx hH hS hl
  show W p _ e _ s m args below meth c H locs _ _ _ (F0 m pc ls (.ref (ad 1005) :: st.map (jmv ad)))
  rw [hsc]
  obtain ⟨scr, q1, q2⟩ := id hX.2.2.2.2.2.1
  exact va_slen hx1 hb hX.2.2.2.2.2.1 (Array.getElem?_eq_some_iff.mp q1).1 hX.2.2.2.2.2.2 hS hd (by rw [show Int32.ofNat g.2.2.2.2.2.2.2.1 = Int32.ofInt ((g.2.2.2.2.2.2.2.1 : Nat) : Int) from Int32.ofInt_eq_ofNat.symm]; exact kk)
end ROWS
theorem jo_lawret {g : JG} {nm : String} {cs : Nat × Nat} {n : Nat} {ad : Nat → Nat} {ρ : JRho} {pc : Nat} {lo : List (Option Value)} {M : JMem} (hd : decode code pc = .ok (.ireturn, 1)) (hcs : cs.1 ≤ 600000 ∧ cs.2 ≤ 7302250 := by exact (And.intro (Nat.le_of_ble_eq_true rfl) (Nat.le_of_ble_eq_true rfl))) : jO g (D_L nm) (jQL g) cs n ad ρ pc lo [ji 1] M (some (1, M)) := by
  intro z hz p e s m args below meth c H locs ls Cx hH hS hl
  obtain ⟨hx1, hb, hml, hr, hlk, hnm, hown, hts, hT, hX⟩ := id Cx
  by_cases h : (∃ b : Nat, args = #[Value.ref b]) ∧ s.heap.size ≤ g.2.2.1
  · obtain ⟨⟨b, rfl⟩, hz2⟩ := h
    intro T hT0 X0
    have hW : W p g.2.2.2.1 e room_1 s m #[Value.ref b] below meth c H locs cs.1 cs.2 (lw_Z below #[Value.ref b] s) (F0 m pc ls [.int 1]) := by
      refine W.widen hcs.1 hcs.2 ?_
      refine va_forget (fun q hq => Nat.le_trans hz2 (hS.2.2 q hq)) ?_
      exact lw_ret hx1 hb hr hlk hd
    obtain ⟨t, a1, b1⟩ := hW T hT0 X0
    refine ⟨t, a1, fun b' hb' _ => ?_⟩
    cases hb'
    exact b1
  · intro T hT0 X0
    exact ⟨_, Steps.refl _, fun b' hb' hz' => absurd ⟨⟨b', hb'⟩, hz'⟩ h⟩
theorem lm_L_109 : Cond.methodLink RL 109 yX12_let ∈ jTW := jTW_mem (k := 1829) (by decide +kernel) rfl
theorem lm_L_105 : Cond.methodLink RL 105 yX11_let ∈ jTW := jTW_mem (k := 1060) (by decide +kernel) rfl
theorem lm_L_126 : Cond.methodLink RL 126 yX12_hunt ∈ jTW := jTW_mem (k := 1847) (by decide +kernel) rfl
theorem lm_L_104 : Cond.methodLink RL 104 yX12_ticket ∈ jTW := jTW_mem (k := 1825) (by decide +kernel) rfl
theorem lm_L_13 : Cond.methodLink RL 13 yX11_status ∈ jTW := jTW_mem (k := 668) (by decide +kernel) rfl
theorem lm_L_17 : Cond.methodLink RL 17 yX12_status ∈ jTW := jTW_mem (k := 1494) (by decide +kernel) rfl
theorem lm_L_18 : Cond.methodLink RL 18 yX11_top ∈ jTW := jTW_mem (k := 672) (by decide +kernel) rfl
theorem lm_L_22 : Cond.methodLink RL 22 yX12_top ∈ jTW := jTW_mem (k := 1498) (by decide +kernel) rfl
theorem lm_L_23 : Cond.methodLink RL 23 yX11_bottom ∈ jTW := jTW_mem (k := 676) (by decide +kernel) rfl
theorem lm_L_26 : Cond.methodLink RL 26 yX12_bottom ∈ jTW := jTW_mem (k := 1502) (by decide +kernel) rfl
theorem lm_L_27 : Cond.methodLink RL 27 yX11_tray ∈ jTW := jTW_mem (k := 680) (by decide +kernel) rfl
theorem lm_L_31 : Cond.methodLink RL 31 yX12_tray ∈ jTW := jTW_mem (k := 1506) (by decide +kernel) rfl
theorem lc_L_32 : Cond.constantLong RL 32 (Int64.ofInt 4294967295) ∈ jTW := jTW_mem (k := 2097) (by decide +kernel) rfl
theorem lm_L_34 : Cond.methodLink RL 34 yX11_write ∈ jTW := jTW_mem (k := 699) (by decide +kernel) rfl
theorem lm_L_38 : Cond.methodLink RL 38 yX12_write ∈ jTW := jTW_mem (k := 1517) (by decide +kernel) rfl
theorem lm_L_39 : Cond.methodLink RL 39 yX11_read ∈ jTW := jTW_mem (k := 720) (by decide +kernel) rfl
theorem lm_L_43 : Cond.methodLink RL 43 yX12_read ∈ jTW := jTW_mem (k := 1528) (by decide +kernel) rfl
theorem lm_L_44 : Cond.methodLink RL 44 yX11_pour ∈ jTW := jTW_mem (k := 728) (by decide +kernel) rfl
theorem lm_L_48 : Cond.methodLink RL 48 yX12_pour ∈ jTW := jTW_mem (k := 1533) (by decide +kernel) rfl
theorem lm_L_49 : Cond.methodLink RL 49 yX11_feed ∈ jTW := jTW_mem (k := 740) (by decide +kernel) rfl
theorem lm_L_53 : Cond.methodLink RL 53 yX12_feed ∈ jTW := jTW_mem (k := 1537) (by decide +kernel) rfl
theorem lm_L_54 : Cond.methodLink RL 54 yX11_park ∈ jTW := jTW_mem (k := 748) (by decide +kernel) rfl
theorem lm_L_58 : Cond.methodLink RL 58 yX12_park ∈ jTW := jTW_mem (k := 1549) (by decide +kernel) rfl
theorem lm_L_59 : Cond.methodLink RL 59 yX11_weeks ∈ jTW := jTW_mem (k := 891) (by decide +kernel) rfl
theorem lm_L_62 : Cond.methodLink RL 62 yX12_weeks ∈ jTW := jTW_mem (k := 1664) (by decide +kernel) rfl
theorem lm_L_63 : Cond.methodLink RL 63 yX11_fault ∈ jTW := jTW_mem (k := 941) (by decide +kernel) rfl
theorem lm_L_66 : Cond.methodLink RL 66 yX12_fault ∈ jTW := jTW_mem (k := 1545) (by decide +kernel) rfl
theorem lm_L_67 : Cond.methodLink RL 67 yX11_told ∈ jTW := jTW_mem (k := 945) (by decide +kernel) rfl
theorem lm_L_70 : Cond.methodLink RL 70 yX12_told ∈ jTW := jTW_mem (k := 1688) (by decide +kernel) rfl
theorem lm_L_71 : Cond.methodLink RL 71 yX11_train ∈ jTW := jTW_mem (k := 957) (by decide +kernel) rfl
theorem lm_L_75 : Cond.methodLink RL 75 yX12_train ∈ jTW := jTW_mem (k := 1730) (by decide +kernel) rfl
theorem lm_L_76 : Cond.methodLink RL 76 yX11_beast ∈ jTW := jTW_mem (k := 965) (by decide +kernel) rfl
theorem lm_L_79 : Cond.methodLink RL 79 yX12_beast ∈ jTW := jTW_mem (k := 1738) (by decide +kernel) rfl
theorem lm_L_80 : Cond.methodLink RL 80 yX11_at ∈ jTW := jTW_mem (k := 973) (by decide +kernel) rfl
theorem lm_L_83 : Cond.methodLink RL 83 yX12_at ∈ jTW := jTW_mem (k := 1746) (by decide +kernel) rfl
theorem lm_L_84 : Cond.methodLink RL 84 yX11_there ∈ jTW := jTW_mem (k := 986) (by decide +kernel) rfl
theorem lm_L_87 : Cond.methodLink RL 87 yX12_there ∈ jTW := jTW_mem (k := 1754) (by decide +kernel) rfl
theorem lm_L_88 : Cond.methodLink RL 88 yX11_together ∈ jTW := jTW_mem (k := 994) (by decide +kernel) rfl
theorem lm_L_91 : Cond.methodLink RL 91 yX12_together ∈ jTW := jTW_mem (k := 1762) (by decide +kernel) rfl
theorem lm_L_92 : Cond.methodLink RL 92 yX11_hour ∈ jTW := jTW_mem (k := 1007) (by decide +kernel) rfl
theorem lm_L_95 : Cond.methodLink RL 95 yX12_hour ∈ jTW := jTW_mem (k := 1774) (by decide +kernel) rfl
theorem lm_L_96 : Cond.methodLink RL 96 yX11_monday ∈ jTW := jTW_mem (k := 1043) (by decide +kernel) rfl
theorem lm_L_99 : Cond.methodLink RL 99 yX12_monday ∈ jTW := jTW_mem (k := 1806) (by decide +kernel) rfl
theorem lm_L_114 : Cond.methodLink RL 114 yX11_trust ∈ jTW := jTW_mem (k := 1073) (by decide +kernel) rfl
theorem lm_L_118 : Cond.methodLink RL 118 yX12_trust ∈ jTW := jTW_mem (k := 1837) (by decide +kernel) rfl
theorem lm_L_119 : Cond.methodLink RL 119 yX11_shift ∈ jTW := jTW_mem (k := 1077) (by decide +kernel) rfl
theorem lm_L_122 : Cond.methodLink RL 122 yX12_shift ∈ jTW := jTW_mem (k := 1842) (by decide +kernel) rfl
theorem lm_L_127 : Cond.methodLink RL 127 yX11_mourn ∈ jTW := jTW_mem (k := 1085) (by decide +kernel) rfl
theorem lm_L_131 : Cond.methodLink RL 131 yX12_mourn ∈ jTW := jTW_mem (k := 1851) (by decide +kernel) rfl
theorem lm_L_132 : Cond.methodLink RL 132 yX11_rule ∈ jTW := jTW_mem (k := 1089) (by decide +kernel) rfl
theorem lm_L_135 : Cond.methodLink RL 135 yX12_rule ∈ jTW := jTW_mem (k := 1855) (by decide +kernel) rfl
theorem lm_L_136 : Cond.methodLink RL 136 yX11_where ∈ jTW := jTW_mem (k := 1093) (by decide +kernel) rfl
theorem lm_L_139 : Cond.methodLink RL 139 yX12_where ∈ jTW := jTW_mem (k := 1859) (by decide +kernel) rfl
theorem lm_L_140 : Cond.methodLink RL 140 yX11_eatenAt ∈ jTW := jTW_mem (k := 1101) (by decide +kernel) rfl
theorem lm_L_143 : Cond.methodLink RL 143 yX12_eatenAt ∈ jTW := jTW_mem (k := 1879) (by decide +kernel) rfl
theorem lm_L_144 : Cond.methodLink RL 144 yX11_eater ∈ jTW := jTW_mem (k := 1109) (by decide +kernel) rfl
theorem lm_L_147 : Cond.methodLink RL 147 yX12_eater ∈ jTW := jTW_mem (k := 1883) (by decide +kernel) rfl
theorem lm_L_148 : Cond.methodLink RL 148 yX11_meet ∈ jTW := jTW_mem (k := 1113) (by decide +kernel) rfl
theorem lm_L_151 : Cond.methodLink RL 151 yX12_meet ∈ jTW := jTW_mem (k := 1887) (by decide +kernel) rfl
theorem lm_L_152 : Cond.methodLink RL 152 yX11_lateBy ∈ jTW := jTW_mem (k := 1117) (by decide +kernel) rfl
theorem lm_L_155 : Cond.methodLink RL 155 yX12_lateBy ∈ jTW := jTW_mem (k := 1891) (by decide +kernel) rfl
theorem lm_L_156 : Cond.methodLink RL 156 yX11_peace ∈ jTW := jTW_mem (k := 1121) (by decide +kernel) rfl
theorem lm_L_159 : Cond.methodLink RL 159 yX12_peace ∈ jTW := jTW_mem (k := 1895) (by decide +kernel) rfl
theorem lm_L_160 : Cond.methodLink RL 160 yX11_eatenBy ∈ jTW := jTW_mem (k := 1142) (by decide +kernel) rfl
theorem lm_L_163 : Cond.methodLink RL 163 yX12_eatenBy ∈ jTW := jTW_mem (k := 1911) (by decide +kernel) rfl
theorem lm_L_164 : Cond.methodLink RL 164 yX11_most ∈ jTW := jTW_mem (k := 1146) (by decide +kernel) rfl
theorem lm_L_167 : Cond.methodLink RL 167 yX12_most ∈ jTW := jTW_mem (k := 1915) (by decide +kernel) rfl
theorem lm_L_168 : Cond.methodLink RL 168 yX11_soonest ∈ jTW := jTW_mem (k := 1156) (by decide +kernel) rfl
theorem lm_L_172 : Cond.methodLink RL 172 yX12_soonest ∈ jTW := jTW_mem (k := 1919) (by decide +kernel) rfl
theorem lm_L_173 : Cond.methodLink RL 173 yX11_soonestBy ∈ jTW := jTW_mem (k := 1173) (by decide +kernel) rfl
theorem lm_L_176 : Cond.methodLink RL 176 yX12_soonestBy ∈ jTW := jTW_mem (k := 1936) (by decide +kernel) rfl
theorem lm_L_177 : Cond.methodLink RL 177 yX11_latest ∈ jTW := jTW_mem (k := 1186) (by decide +kernel) rfl
theorem lm_L_180 : Cond.methodLink RL 180 yX12_latest ∈ jTW := jTW_mem (k := 1940) (by decide +kernel) rfl
theorem lm_L_181 : Cond.methodLink RL 181 yX11_stay ∈ jTW := jTW_mem (k := 1194) (by decide +kernel) rfl
theorem lm_L_184 : Cond.methodLink RL 184 yX12_stay ∈ jTW := jTW_mem (k := 1948) (by decide +kernel) rfl
theorem lm_L_185 : Cond.methodLink RL 185 yX11_reach ∈ jTW := jTW_mem (k := 1198) (by decide +kernel) rfl
theorem lm_L_188 : Cond.methodLink RL 188 yX12_reach ∈ jTW := jTW_mem (k := 1952) (by decide +kernel) rfl
theorem lm_L_189 : Cond.methodLink RL 189 yX11_cut ∈ jTW := jTW_mem (k := 1203) (by decide +kernel) rfl
theorem lm_L_192 : Cond.methodLink RL 192 yX12_cut ∈ jTW := jTW_mem (k := 1960) (by decide +kernel) rfl
theorem lm_L_193 : Cond.methodLink RL 193 yX11_cutSet ∈ jTW := jTW_mem (k := 1211) (by decide +kernel) rfl
theorem lm_L_196 : Cond.methodLink RL 196 yX12_cutSet ∈ jTW := jTW_mem (k := 1968) (by decide +kernel) rfl
theorem lm_L_197 : Cond.methodLink RL 197 yX11_snow ∈ jTW := jTW_mem (k := 1215) (by decide +kernel) rfl
theorem lm_L_200 : Cond.methodLink RL 200 yX12_snow ∈ jTW := jTW_mem (k := 1972) (by decide +kernel) rfl
theorem lm_L_201 : Cond.methodLink RL 201 yX11_back ∈ jTW := jTW_mem (k := 1230) (by decide +kernel) rfl
theorem lm_L_204 : Cond.methodLink RL 204 yX12_back ∈ jTW := jTW_mem (k := 1980) (by decide +kernel) rfl
theorem lm_L_205 : Cond.methodLink RL 205 yX11_wildest ∈ jTW := jTW_mem (k := 1238) (by decide +kernel) rfl
theorem lm_L_208 : Cond.methodLink RL 208 yX12_wildest ∈ jTW := jTW_mem (k := 1985) (by decide +kernel) rfl
theorem lm_L_209 : Cond.methodLink RL 209 yX11_rooms ∈ jTW := jTW_mem (k := 1242) (by decide +kernel) rfl
theorem lm_L_212 : Cond.methodLink RL 212 yX12_rooms ∈ jTW := jTW_mem (k := 1989) (by decide +kernel) rfl
theorem lm_L_213 : Cond.methodLink RL 213 yX11_roomSize ∈ jTW := jTW_mem (k := 1262) (by decide +kernel) rfl
theorem lm_L_216 : Cond.methodLink RL 216 yX12_roomSize ∈ jTW := jTW_mem (k := 2002) (by decide +kernel) rfl
theorem lm_L_217 : Cond.methodLink RL 217 yX11_sets ∈ jTW := jTW_mem (k := 1266) (by decide +kernel) rfl
theorem lm_L_220 : Cond.methodLink RL 220 yX12_sets ∈ jTW := jTW_mem (k := 2006) (by decide +kernel) rfl
theorem lm_L_221 : Cond.methodLink RL 221 yX11_sure ∈ jTW := jTW_mem (k := 1295) (by decide +kernel) rfl
theorem lm_L_224 : Cond.methodLink RL 224 yX12_sure ∈ jTW := jTW_mem (k := 2019) (by decide +kernel) rfl
theorem lm_L_225 : Cond.methodLink RL 225 yX11_slips ∈ jTW := jTW_mem (k := 1299) (by decide +kernel) rfl
theorem lm_L_228 : Cond.methodLink RL 228 yX12_slips ∈ jTW := jTW_mem (k := 2023) (by decide +kernel) rfl
theorem lm_L_229 : Cond.methodLink RL 229 yX11_copyPlaces ∈ jTW := jTW_mem (k := 1304) (by decide +kernel) rfl
theorem lm_L_232 : Cond.methodLink RL 232 yX12_copyPlaces ∈ jTW := jTW_mem (k := 2027) (by decide +kernel) rfl
theorem lm_L_233 : Cond.methodLink RL 233 yX11_live ∈ jTW := jTW_mem (k := 1308) (by decide +kernel) rfl
theorem lm_L_236 : Cond.methodLink RL 236 yX12_live ∈ jTW := jTW_mem (k := 2031) (by decide +kernel) rfl
theorem lm_L_237 : Cond.methodLink RL 237 yX11_lived ∈ jTW := jTW_mem (k := 1350) (by decide +kernel) rfl
theorem lm_L_240 : Cond.methodLink RL 240 yX12_lived ∈ jTW := jTW_mem (k := 2077) (by decide +kernel) rfl
theorem lm_L_241 : Cond.methodLink RL 241 yX11_mean ∈ jTW := jTW_mem (k := 1354) (by decide +kernel) rfl
theorem lm_L_244 : Cond.methodLink RL 244 yX12_mean ∈ jTW := jTW_mem (k := 2081) (by decide +kernel) rfl
theorem lm_L_245 : Cond.methodLink RL 245 yX11_mark ∈ jTW := jTW_mem (k := 1358) (by decide +kernel) rfl
theorem lm_L_248 : Cond.methodLink RL 248 yX12_mark ∈ jTW := jTW_mem (k := 2085) (by decide +kernel) rfl
theorem lm_L_249 : Cond.methodLink RL 249 yX11_undo ∈ jTW := jTW_mem (k := 1362) (by decide +kernel) rfl
theorem lm_L_252 : Cond.methodLink RL 252 yX12_undo ∈ jTW := jTW_mem (k := 2093) (by decide +kernel) rfl
theorem lm_L_113 : Cond.methodLink RL 113 yX12_halt ∈ jTW := jTW_mem (k := 1833) (by decide +kernel) rfl
theorem lm_L_123 : Cond.methodLink RL 123 yX11_hunt ∈ jTW := jTW_mem (k := 1081) (by decide +kernel) rfl
theorem lm_L_100 : Cond.methodLink RL 100 yX11_ticket ∈ jTW := jTW_mem (k := 1051) (by decide +kernel) rfl
theorem lm_L_110 : Cond.methodLink RL 110 yX11_halt ∈ jTW := jTW_mem (k := 1065) (by decide +kernel) rfl
theorem d_L_law_16 : decode code 16 = .ok (.iconst 0, 1) := by decide +kernel
theorem d_L_law_17 : decode code 17 = .ok (.istore_n 3, 1) := by decide +kernel
theorem d_L_law_18 : decode code 18 = .ok (.iload_n 3, 1) := by decide +kernel
theorem d_L_law_19 : decode code 19 = .ok (.aload_n 0, 1) := by decide +kernel
theorem d_L_law_20 : decode code 20 = .ok (.arraylength, 1) := by decide +kernel
theorem d_L_law_21 : decode code 21 = .ok (.bipush 6, 2) := by decide +kernel
theorem d_L_law_23 : decode code 23 = .ok (.isub, 1) := by decide +kernel
theorem d_L_law_24 : decode code 24 = .ok (.if_icmp .gt 1959, 3) := by decide +kernel
theorem d_L_law_27 : decode code 27 = .ok (.aload_n 0, 1) := by decide +kernel
theorem d_L_law_28 : decode code 28 = .ok (.iload_n 3, 1) := by decide +kernel
theorem d_L_law_29 : decode code 29 = .ok (.iaload, 1) := by decide +kernel
theorem d_L_law_30 : decode code 30 = .ok (.bipush 63, 2) := by decide +kernel
theorem d_L_law_32 : decode code 32 = .ok (.iand, 1) := by decide +kernel
theorem d_L_law_33 : decode code 33 = .ok (.tableswitch 1944 0 55 #[239, 252, 266, 280, 323, 396, 430, 493, 556, 579, 602, 625, 648, 681, 714, 737, 760, 793, 816, 829, 888, 937, 986, 1019, 1052, 1111, 1134, 1157, 1190, 1213, 1236, 1269, 1282, 1305, 1328, 1341, 1384, 1427, 1470, 1493, 1506, 1529, 1552, 1575, 1608, 1631, 1664, 1697, 1740, 1783, 1816, 1839, 1862, 1885, 1918, 1931], 239) := by decide +kernel
theorem d_L_law_272 : decode code 272 = .ok (.aload_n 1, 1) := by decide +kernel
theorem d_L_law_273 : decode code 273 = .ok (.invokevirtual 13, 3) := by decide +kernel
theorem d_L_law_276 : decode code 276 = .ok (.aload_n 2, 1) := by decide +kernel
theorem d_L_law_277 : decode code 277 = .ok (.invokevirtual 17, 3) := by decide +kernel
theorem d_L_law_280 : decode code 280 = .ok (.if_icmp .eq 1697, 3) := by decide +kernel
theorem d_L_law_285 : decode code 285 = .ok (.aload_n 1, 1) := by decide +kernel
theorem d_L_law_286 : decode code 286 = .ok (.invokevirtual 18, 3) := by decide +kernel
theorem d_L_law_289 : decode code 289 = .ok (.aload_n 2, 1) := by decide +kernel
theorem d_L_law_290 : decode code 290 = .ok (.invokevirtual 22, 3) := by decide +kernel
theorem d_L_law_293 : decode code 293 = .ok (.lcmp, 1) := by decide +kernel
theorem d_L_law_294 : decode code 294 = .ok (.ifCond .eq 1683, 3) := by decide +kernel
theorem d_L_law_299 : decode code 299 = .ok (.aload_n 1, 1) := by decide +kernel
theorem d_L_law_300 : decode code 300 = .ok (.invokevirtual 23, 3) := by decide +kernel
theorem d_L_law_303 : decode code 303 = .ok (.aload_n 2, 1) := by decide +kernel
theorem d_L_law_304 : decode code 304 = .ok (.invokevirtual 26, 3) := by decide +kernel
theorem d_L_law_307 : decode code 307 = .ok (.lcmp, 1) := by decide +kernel
theorem d_L_law_308 : decode code 308 = .ok (.ifCond .eq 1669, 3) := by decide +kernel
theorem d_L_law_313 : decode code 313 = .ok (.aload_n 1, 1) := by decide +kernel
theorem d_L_law_314 : decode code 314 = .ok (.aload_n 0, 1) := by decide +kernel
theorem d_L_law_315 : decode code 315 = .ok (.iload_n 3, 1) := by decide +kernel
theorem d_L_law_316 : decode code 316 = .ok (.iconst 1, 1) := by decide +kernel
theorem d_L_law_317 : decode code 317 = .ok (.iadd, 1) := by decide +kernel
theorem d_L_law_318 : decode code 318 = .ok (.iaload, 1) := by decide +kernel
theorem d_L_law_319 : decode code 319 = .ok (.aload_n 0, 1) := by decide +kernel
theorem d_L_law_320 : decode code 320 = .ok (.iload_n 3, 1) := by decide +kernel
theorem d_L_law_321 : decode code 321 = .ok (.iconst 2, 1) := by decide +kernel
theorem d_L_law_322 : decode code 322 = .ok (.iadd, 1) := by decide +kernel
theorem d_L_law_323 : decode code 323 = .ok (.iaload, 1) := by decide +kernel
theorem d_L_law_324 : decode code 324 = .ok (.aload_n 0, 1) := by decide +kernel
theorem d_L_law_325 : decode code 325 = .ok (.iload_n 3, 1) := by decide +kernel
theorem d_L_law_326 : decode code 326 = .ok (.iconst 3, 1) := by decide +kernel
theorem d_L_law_327 : decode code 327 = .ok (.iadd, 1) := by decide +kernel
theorem d_L_law_328 : decode code 328 = .ok (.iaload, 1) := by decide +kernel
theorem d_L_law_329 : decode code 329 = .ok (.invokevirtual 27, 3) := by decide +kernel
theorem d_L_law_332 : decode code 332 = .ok (.aload_n 2, 1) := by decide +kernel
theorem d_L_law_333 : decode code 333 = .ok (.aload_n 0, 1) := by decide +kernel
theorem d_L_law_334 : decode code 334 = .ok (.iload_n 3, 1) := by decide +kernel
theorem d_L_law_335 : decode code 335 = .ok (.iconst 1, 1) := by decide +kernel
theorem d_L_law_336 : decode code 336 = .ok (.iadd, 1) := by decide +kernel
theorem d_L_law_337 : decode code 337 = .ok (.iaload, 1) := by decide +kernel
theorem d_L_law_338 : decode code 338 = .ok (.aload_n 0, 1) := by decide +kernel
theorem d_L_law_339 : decode code 339 = .ok (.iload_n 3, 1) := by decide +kernel
theorem d_L_law_340 : decode code 340 = .ok (.iconst 2, 1) := by decide +kernel
theorem d_L_law_341 : decode code 341 = .ok (.iadd, 1) := by decide +kernel
theorem d_L_law_342 : decode code 342 = .ok (.iaload, 1) := by decide +kernel
theorem d_L_law_343 : decode code 343 = .ok (.aload_n 0, 1) := by decide +kernel
theorem d_L_law_344 : decode code 344 = .ok (.iload_n 3, 1) := by decide +kernel
theorem d_L_law_345 : decode code 345 = .ok (.iconst 3, 1) := by decide +kernel
theorem d_L_law_346 : decode code 346 = .ok (.iadd, 1) := by decide +kernel
theorem d_L_law_347 : decode code 347 = .ok (.iaload, 1) := by decide +kernel
theorem d_L_law_348 : decode code 348 = .ok (.invokevirtual 31, 3) := by decide +kernel
theorem d_L_law_351 : decode code 351 = .ok (.if_icmp .eq 1626, 3) := by decide +kernel
theorem d_L_law_356 : decode code 356 = .ok (.aload_n 1, 1) := by decide +kernel
theorem d_L_law_357 : decode code 357 = .ok (.aload_n 0, 1) := by decide +kernel
theorem d_L_law_358 : decode code 358 = .ok (.iload_n 3, 1) := by decide +kernel
theorem d_L_law_359 : decode code 359 = .ok (.iconst 1, 1) := by decide +kernel
theorem d_L_law_360 : decode code 360 = .ok (.iadd, 1) := by decide +kernel
theorem d_L_law_361 : decode code 361 = .ok (.iaload, 1) := by decide +kernel
theorem d_L_law_362 : decode code 362 = .ok (.aload_n 0, 1) := by decide +kernel
theorem d_L_law_363 : decode code 363 = .ok (.iload_n 3, 1) := by decide +kernel
theorem d_L_law_364 : decode code 364 = .ok (.iconst 2, 1) := by decide +kernel
theorem d_L_law_365 : decode code 365 = .ok (.iadd, 1) := by decide +kernel
theorem d_L_law_366 : decode code 366 = .ok (.iaload, 1) := by decide +kernel
theorem d_L_law_367 : decode code 367 = .ok (.aload_n 0, 1) := by decide +kernel
theorem d_L_law_368 : decode code 368 = .ok (.iload_n 3, 1) := by decide +kernel
theorem d_L_law_369 : decode code 369 = .ok (.iconst 3, 1) := by decide +kernel
theorem d_L_law_370 : decode code 370 = .ok (.iadd, 1) := by decide +kernel
theorem d_L_law_371 : decode code 371 = .ok (.iaload, 1) := by decide +kernel
theorem d_L_law_372 : decode code 372 = .ok (.i2l, 1) := by decide +kernel
theorem d_L_law_373 : decode code 373 = .ok (.bipush 32, 2) := by decide +kernel
theorem d_L_law_375 : decode code 375 = .ok (.lshl, 1) := by decide +kernel
theorem d_L_law_376 : decode code 376 = .ok (.aload_n 0, 1) := by decide +kernel
theorem d_L_law_377 : decode code 377 = .ok (.iload_n 3, 1) := by decide +kernel
theorem d_L_law_378 : decode code 378 = .ok (.iconst 4, 1) := by decide +kernel
theorem d_L_law_379 : decode code 379 = .ok (.iadd, 1) := by decide +kernel
theorem d_L_law_380 : decode code 380 = .ok (.iaload, 1) := by decide +kernel
theorem d_L_law_381 : decode code 381 = .ok (.i2l, 1) := by decide +kernel
theorem d_L_law_382 : decode code 382 = .ok (.ldc2_w 32, 3) := by decide +kernel
theorem d_L_law_385 : decode code 385 = .ok (.land, 1) := by decide +kernel
theorem d_L_law_386 : decode code 386 = .ok (.lor, 1) := by decide +kernel
theorem d_L_law_387 : decode code 387 = .ok (.invokevirtual 34, 3) := by decide +kernel
theorem d_L_law_390 : decode code 390 = .ok (.aload_n 2, 1) := by decide +kernel
theorem d_L_law_391 : decode code 391 = .ok (.aload_n 0, 1) := by decide +kernel
theorem d_L_law_392 : decode code 392 = .ok (.iload_n 3, 1) := by decide +kernel
theorem d_L_law_393 : decode code 393 = .ok (.iconst 1, 1) := by decide +kernel
theorem d_L_law_394 : decode code 394 = .ok (.iadd, 1) := by decide +kernel
theorem d_L_law_395 : decode code 395 = .ok (.iaload, 1) := by decide +kernel
theorem d_L_law_396 : decode code 396 = .ok (.aload_n 0, 1) := by decide +kernel
theorem d_L_law_397 : decode code 397 = .ok (.iload_n 3, 1) := by decide +kernel
theorem d_L_law_398 : decode code 398 = .ok (.iconst 2, 1) := by decide +kernel
theorem d_L_law_399 : decode code 399 = .ok (.iadd, 1) := by decide +kernel
theorem d_L_law_400 : decode code 400 = .ok (.iaload, 1) := by decide +kernel
theorem d_L_law_401 : decode code 401 = .ok (.aload_n 0, 1) := by decide +kernel
theorem d_L_law_402 : decode code 402 = .ok (.iload_n 3, 1) := by decide +kernel
theorem d_L_law_403 : decode code 403 = .ok (.iconst 3, 1) := by decide +kernel
theorem d_L_law_404 : decode code 404 = .ok (.iadd, 1) := by decide +kernel
theorem d_L_law_405 : decode code 405 = .ok (.iaload, 1) := by decide +kernel
theorem d_L_law_406 : decode code 406 = .ok (.i2l, 1) := by decide +kernel
theorem d_L_law_407 : decode code 407 = .ok (.bipush 32, 2) := by decide +kernel
theorem d_L_law_409 : decode code 409 = .ok (.lshl, 1) := by decide +kernel
theorem d_L_law_410 : decode code 410 = .ok (.aload_n 0, 1) := by decide +kernel
theorem d_L_law_411 : decode code 411 = .ok (.iload_n 3, 1) := by decide +kernel
theorem d_L_law_412 : decode code 412 = .ok (.iconst 4, 1) := by decide +kernel
theorem d_L_law_413 : decode code 413 = .ok (.iadd, 1) := by decide +kernel
theorem d_L_law_414 : decode code 414 = .ok (.iaload, 1) := by decide +kernel
theorem d_L_law_415 : decode code 415 = .ok (.i2l, 1) := by decide +kernel
theorem d_L_law_416 : decode code 416 = .ok (.ldc2_w 32, 3) := by decide +kernel
theorem d_L_law_419 : decode code 419 = .ok (.land, 1) := by decide +kernel
theorem d_L_law_420 : decode code 420 = .ok (.lor, 1) := by decide +kernel
theorem d_L_law_421 : decode code 421 = .ok (.invokevirtual 38, 3) := by decide +kernel
theorem d_L_law_424 : decode code 424 = .ok (.if_icmp .eq 1553, 3) := by decide +kernel
theorem d_L_law_429 : decode code 429 = .ok (.aload_n 1, 1) := by decide +kernel
theorem d_L_law_430 : decode code 430 = .ok (.aload_n 0, 1) := by decide +kernel
theorem d_L_law_431 : decode code 431 = .ok (.iload_n 3, 1) := by decide +kernel
theorem d_L_law_432 : decode code 432 = .ok (.iconst 1, 1) := by decide +kernel
theorem d_L_law_433 : decode code 433 = .ok (.iadd, 1) := by decide +kernel
theorem d_L_law_434 : decode code 434 = .ok (.iaload, 1) := by decide +kernel
theorem d_L_law_435 : decode code 435 = .ok (.aload_n 0, 1) := by decide +kernel
theorem d_L_law_436 : decode code 436 = .ok (.iload_n 3, 1) := by decide +kernel
theorem d_L_law_437 : decode code 437 = .ok (.iconst 2, 1) := by decide +kernel
theorem d_L_law_438 : decode code 438 = .ok (.iadd, 1) := by decide +kernel
theorem d_L_law_439 : decode code 439 = .ok (.iaload, 1) := by decide +kernel
theorem d_L_law_440 : decode code 440 = .ok (.invokevirtual 39, 3) := by decide +kernel
theorem d_L_law_443 : decode code 443 = .ok (.aload_n 2, 1) := by decide +kernel
theorem d_L_law_444 : decode code 444 = .ok (.aload_n 0, 1) := by decide +kernel
theorem d_L_law_445 : decode code 445 = .ok (.iload_n 3, 1) := by decide +kernel
theorem d_L_law_446 : decode code 446 = .ok (.iconst 1, 1) := by decide +kernel
theorem d_L_law_447 : decode code 447 = .ok (.iadd, 1) := by decide +kernel
theorem d_L_law_448 : decode code 448 = .ok (.iaload, 1) := by decide +kernel
theorem d_L_law_449 : decode code 449 = .ok (.aload_n 0, 1) := by decide +kernel
theorem d_L_law_450 : decode code 450 = .ok (.iload_n 3, 1) := by decide +kernel
theorem d_L_law_451 : decode code 451 = .ok (.iconst 2, 1) := by decide +kernel
theorem d_L_law_452 : decode code 452 = .ok (.iadd, 1) := by decide +kernel
theorem d_L_law_453 : decode code 453 = .ok (.iaload, 1) := by decide +kernel
theorem d_L_law_454 : decode code 454 = .ok (.invokevirtual 43, 3) := by decide +kernel
theorem d_L_law_457 : decode code 457 = .ok (.lcmp, 1) := by decide +kernel
theorem d_L_law_458 : decode code 458 = .ok (.ifCond .eq 1519, 3) := by decide +kernel
theorem d_L_law_463 : decode code 463 = .ok (.aload_n 1, 1) := by decide +kernel
theorem d_L_law_464 : decode code 464 = .ok (.aload_n 0, 1) := by decide +kernel
theorem d_L_law_465 : decode code 465 = .ok (.iload_n 3, 1) := by decide +kernel
theorem d_L_law_466 : decode code 466 = .ok (.iconst 1, 1) := by decide +kernel
theorem d_L_law_467 : decode code 467 = .ok (.iadd, 1) := by decide +kernel
theorem d_L_law_468 : decode code 468 = .ok (.iaload, 1) := by decide +kernel
theorem d_L_law_469 : decode code 469 = .ok (.aload_n 0, 1) := by decide +kernel
theorem d_L_law_470 : decode code 470 = .ok (.iload_n 3, 1) := by decide +kernel
theorem d_L_law_471 : decode code 471 = .ok (.iconst 2, 1) := by decide +kernel
theorem d_L_law_472 : decode code 472 = .ok (.iadd, 1) := by decide +kernel
theorem d_L_law_473 : decode code 473 = .ok (.iaload, 1) := by decide +kernel
theorem d_L_law_474 : decode code 474 = .ok (.aload_n 0, 1) := by decide +kernel
theorem d_L_law_475 : decode code 475 = .ok (.iload_n 3, 1) := by decide +kernel
theorem d_L_law_476 : decode code 476 = .ok (.iconst 3, 1) := by decide +kernel
theorem d_L_law_477 : decode code 477 = .ok (.iadd, 1) := by decide +kernel
theorem d_L_law_478 : decode code 478 = .ok (.iaload, 1) := by decide +kernel
theorem d_L_law_479 : decode code 479 = .ok (.aload_n 0, 1) := by decide +kernel
theorem d_L_law_480 : decode code 480 = .ok (.iload_n 3, 1) := by decide +kernel
theorem d_L_law_481 : decode code 481 = .ok (.iconst 4, 1) := by decide +kernel
theorem d_L_law_482 : decode code 482 = .ok (.iadd, 1) := by decide +kernel
theorem d_L_law_483 : decode code 483 = .ok (.iaload, 1) := by decide +kernel
theorem d_L_law_484 : decode code 484 = .ok (.aload_n 0, 1) := by decide +kernel
theorem d_L_law_485 : decode code 485 = .ok (.iload_n 3, 1) := by decide +kernel
theorem d_L_law_486 : decode code 486 = .ok (.iconst 5, 1) := by decide +kernel
theorem d_L_law_487 : decode code 487 = .ok (.iadd, 1) := by decide +kernel
theorem d_L_law_488 : decode code 488 = .ok (.iaload, 1) := by decide +kernel
theorem d_L_law_489 : decode code 489 = .ok (.invokevirtual 44, 3) := by decide +kernel
theorem d_L_law_492 : decode code 492 = .ok (.aload_n 2, 1) := by decide +kernel
theorem d_L_law_493 : decode code 493 = .ok (.aload_n 0, 1) := by decide +kernel
theorem d_L_law_494 : decode code 494 = .ok (.iload_n 3, 1) := by decide +kernel
theorem d_L_law_495 : decode code 495 = .ok (.iconst 1, 1) := by decide +kernel
theorem d_L_law_496 : decode code 496 = .ok (.iadd, 1) := by decide +kernel
theorem d_L_law_497 : decode code 497 = .ok (.iaload, 1) := by decide +kernel
theorem d_L_law_498 : decode code 498 = .ok (.aload_n 0, 1) := by decide +kernel
theorem d_L_law_499 : decode code 499 = .ok (.iload_n 3, 1) := by decide +kernel
theorem d_L_law_500 : decode code 500 = .ok (.iconst 2, 1) := by decide +kernel
theorem d_L_law_501 : decode code 501 = .ok (.iadd, 1) := by decide +kernel
theorem d_L_law_502 : decode code 502 = .ok (.iaload, 1) := by decide +kernel
theorem d_L_law_503 : decode code 503 = .ok (.aload_n 0, 1) := by decide +kernel
theorem d_L_law_504 : decode code 504 = .ok (.iload_n 3, 1) := by decide +kernel
theorem d_L_law_505 : decode code 505 = .ok (.iconst 3, 1) := by decide +kernel
theorem d_L_law_506 : decode code 506 = .ok (.iadd, 1) := by decide +kernel
theorem d_L_law_507 : decode code 507 = .ok (.iaload, 1) := by decide +kernel
theorem d_L_law_508 : decode code 508 = .ok (.aload_n 0, 1) := by decide +kernel
theorem d_L_law_509 : decode code 509 = .ok (.iload_n 3, 1) := by decide +kernel
theorem d_L_law_510 : decode code 510 = .ok (.iconst 4, 1) := by decide +kernel
theorem d_L_law_511 : decode code 511 = .ok (.iadd, 1) := by decide +kernel
theorem d_L_law_512 : decode code 512 = .ok (.iaload, 1) := by decide +kernel
theorem d_L_law_513 : decode code 513 = .ok (.aload_n 0, 1) := by decide +kernel
theorem d_L_law_514 : decode code 514 = .ok (.iload_n 3, 1) := by decide +kernel
theorem d_L_law_515 : decode code 515 = .ok (.iconst 5, 1) := by decide +kernel
theorem d_L_law_516 : decode code 516 = .ok (.iadd, 1) := by decide +kernel
theorem d_L_law_517 : decode code 517 = .ok (.iaload, 1) := by decide +kernel
theorem d_L_law_518 : decode code 518 = .ok (.invokevirtual 48, 3) := by decide +kernel
theorem d_L_law_521 : decode code 521 = .ok (.if_icmp .eq 1456, 3) := by decide +kernel
theorem d_L_law_526 : decode code 526 = .ok (.aload_n 1, 1) := by decide +kernel
theorem d_L_law_527 : decode code 527 = .ok (.aload_n 0, 1) := by decide +kernel
theorem d_L_law_528 : decode code 528 = .ok (.iload_n 3, 1) := by decide +kernel
theorem d_L_law_529 : decode code 529 = .ok (.iconst 1, 1) := by decide +kernel
theorem d_L_law_530 : decode code 530 = .ok (.iadd, 1) := by decide +kernel
theorem d_L_law_531 : decode code 531 = .ok (.iaload, 1) := by decide +kernel
theorem d_L_law_532 : decode code 532 = .ok (.aload_n 0, 1) := by decide +kernel
theorem d_L_law_533 : decode code 533 = .ok (.iload_n 3, 1) := by decide +kernel
theorem d_L_law_534 : decode code 534 = .ok (.iconst 2, 1) := by decide +kernel
theorem d_L_law_535 : decode code 535 = .ok (.iadd, 1) := by decide +kernel
theorem d_L_law_536 : decode code 536 = .ok (.iaload, 1) := by decide +kernel
theorem d_L_law_537 : decode code 537 = .ok (.aload_n 0, 1) := by decide +kernel
theorem d_L_law_538 : decode code 538 = .ok (.iload_n 3, 1) := by decide +kernel
theorem d_L_law_539 : decode code 539 = .ok (.iconst 3, 1) := by decide +kernel
theorem d_L_law_540 : decode code 540 = .ok (.iadd, 1) := by decide +kernel
theorem d_L_law_541 : decode code 541 = .ok (.iaload, 1) := by decide +kernel
theorem d_L_law_542 : decode code 542 = .ok (.aload_n 0, 1) := by decide +kernel
theorem d_L_law_543 : decode code 543 = .ok (.iload_n 3, 1) := by decide +kernel
theorem d_L_law_544 : decode code 544 = .ok (.iconst 4, 1) := by decide +kernel
theorem d_L_law_545 : decode code 545 = .ok (.iadd, 1) := by decide +kernel
theorem d_L_law_546 : decode code 546 = .ok (.iaload, 1) := by decide +kernel
theorem d_L_law_547 : decode code 547 = .ok (.aload_n 0, 1) := by decide +kernel
theorem d_L_law_548 : decode code 548 = .ok (.iload_n 3, 1) := by decide +kernel
theorem d_L_law_549 : decode code 549 = .ok (.iconst 5, 1) := by decide +kernel
theorem d_L_law_550 : decode code 550 = .ok (.iadd, 1) := by decide +kernel
theorem d_L_law_551 : decode code 551 = .ok (.iaload, 1) := by decide +kernel
theorem d_L_law_552 : decode code 552 = .ok (.invokevirtual 49, 3) := by decide +kernel
theorem d_L_law_555 : decode code 555 = .ok (.aload_n 2, 1) := by decide +kernel
theorem d_L_law_556 : decode code 556 = .ok (.aload_n 0, 1) := by decide +kernel
theorem d_L_law_557 : decode code 557 = .ok (.iload_n 3, 1) := by decide +kernel
theorem d_L_law_558 : decode code 558 = .ok (.iconst 1, 1) := by decide +kernel
theorem d_L_law_559 : decode code 559 = .ok (.iadd, 1) := by decide +kernel
theorem d_L_law_560 : decode code 560 = .ok (.iaload, 1) := by decide +kernel
theorem d_L_law_561 : decode code 561 = .ok (.aload_n 0, 1) := by decide +kernel
theorem d_L_law_562 : decode code 562 = .ok (.iload_n 3, 1) := by decide +kernel
theorem d_L_law_563 : decode code 563 = .ok (.iconst 2, 1) := by decide +kernel
theorem d_L_law_564 : decode code 564 = .ok (.iadd, 1) := by decide +kernel
theorem d_L_law_565 : decode code 565 = .ok (.iaload, 1) := by decide +kernel
theorem d_L_law_566 : decode code 566 = .ok (.aload_n 0, 1) := by decide +kernel
theorem d_L_law_567 : decode code 567 = .ok (.iload_n 3, 1) := by decide +kernel
theorem d_L_law_568 : decode code 568 = .ok (.iconst 3, 1) := by decide +kernel
theorem d_L_law_569 : decode code 569 = .ok (.iadd, 1) := by decide +kernel
theorem d_L_law_570 : decode code 570 = .ok (.iaload, 1) := by decide +kernel
theorem d_L_law_571 : decode code 571 = .ok (.aload_n 0, 1) := by decide +kernel
theorem d_L_law_572 : decode code 572 = .ok (.iload_n 3, 1) := by decide +kernel
theorem d_L_law_573 : decode code 573 = .ok (.iconst 4, 1) := by decide +kernel
theorem d_L_law_574 : decode code 574 = .ok (.iadd, 1) := by decide +kernel
theorem d_L_law_575 : decode code 575 = .ok (.iaload, 1) := by decide +kernel
theorem d_L_law_576 : decode code 576 = .ok (.aload_n 0, 1) := by decide +kernel
theorem d_L_law_577 : decode code 577 = .ok (.iload_n 3, 1) := by decide +kernel
theorem d_L_law_578 : decode code 578 = .ok (.iconst 5, 1) := by decide +kernel
theorem d_L_law_579 : decode code 579 = .ok (.iadd, 1) := by decide +kernel
theorem d_L_law_580 : decode code 580 = .ok (.iaload, 1) := by decide +kernel
theorem d_L_law_581 : decode code 581 = .ok (.invokevirtual 53, 3) := by decide +kernel
theorem d_L_law_584 : decode code 584 = .ok (.if_icmp .eq 1393, 3) := by decide +kernel
theorem d_L_law_589 : decode code 589 = .ok (.aload_n 1, 1) := by decide +kernel
theorem d_L_law_590 : decode code 590 = .ok (.aload_n 0, 1) := by decide +kernel
theorem d_L_law_591 : decode code 591 = .ok (.iload_n 3, 1) := by decide +kernel
theorem d_L_law_592 : decode code 592 = .ok (.iconst 1, 1) := by decide +kernel
theorem d_L_law_593 : decode code 593 = .ok (.iadd, 1) := by decide +kernel
theorem d_L_law_594 : decode code 594 = .ok (.iaload, 1) := by decide +kernel
theorem d_L_law_595 : decode code 595 = .ok (.invokevirtual 54, 3) := by decide +kernel
theorem d_L_law_598 : decode code 598 = .ok (.aload_n 2, 1) := by decide +kernel
theorem d_L_law_599 : decode code 599 = .ok (.aload_n 0, 1) := by decide +kernel
theorem d_L_law_600 : decode code 600 = .ok (.iload_n 3, 1) := by decide +kernel
theorem d_L_law_601 : decode code 601 = .ok (.iconst 1, 1) := by decide +kernel
theorem d_L_law_602 : decode code 602 = .ok (.iadd, 1) := by decide +kernel
theorem d_L_law_603 : decode code 603 = .ok (.iaload, 1) := by decide +kernel
theorem d_L_law_604 : decode code 604 = .ok (.invokevirtual 58, 3) := by decide +kernel
theorem d_L_law_607 : decode code 607 = .ok (.if_icmp .eq 1370, 3) := by decide +kernel
theorem d_L_law_612 : decode code 612 = .ok (.aload_n 1, 1) := by decide +kernel
theorem d_L_law_613 : decode code 613 = .ok (.aload_n 0, 1) := by decide +kernel
theorem d_L_law_614 : decode code 614 = .ok (.iload_n 3, 1) := by decide +kernel
theorem d_L_law_615 : decode code 615 = .ok (.iconst 1, 1) := by decide +kernel
theorem d_L_law_616 : decode code 616 = .ok (.iadd, 1) := by decide +kernel
theorem d_L_law_617 : decode code 617 = .ok (.iaload, 1) := by decide +kernel
theorem d_L_law_618 : decode code 618 = .ok (.invokevirtual 59, 3) := by decide +kernel
theorem d_L_law_621 : decode code 621 = .ok (.aload_n 2, 1) := by decide +kernel
theorem d_L_law_622 : decode code 622 = .ok (.aload_n 0, 1) := by decide +kernel
theorem d_L_law_623 : decode code 623 = .ok (.iload_n 3, 1) := by decide +kernel
theorem d_L_law_624 : decode code 624 = .ok (.iconst 1, 1) := by decide +kernel
theorem d_L_law_625 : decode code 625 = .ok (.iadd, 1) := by decide +kernel
theorem d_L_law_626 : decode code 626 = .ok (.iaload, 1) := by decide +kernel
theorem d_L_law_627 : decode code 627 = .ok (.invokevirtual 62, 3) := by decide +kernel
theorem d_L_law_630 : decode code 630 = .ok (.if_icmp .eq 1347, 3) := by decide +kernel
theorem d_L_law_635 : decode code 635 = .ok (.aload_n 1, 1) := by decide +kernel
theorem d_L_law_636 : decode code 636 = .ok (.aload_n 0, 1) := by decide +kernel
theorem d_L_law_637 : decode code 637 = .ok (.iload_n 3, 1) := by decide +kernel
theorem d_L_law_638 : decode code 638 = .ok (.iconst 1, 1) := by decide +kernel
theorem d_L_law_639 : decode code 639 = .ok (.iadd, 1) := by decide +kernel
theorem d_L_law_640 : decode code 640 = .ok (.iaload, 1) := by decide +kernel
theorem d_L_law_641 : decode code 641 = .ok (.invokevirtual 63, 3) := by decide +kernel
theorem d_L_law_644 : decode code 644 = .ok (.aload_n 2, 1) := by decide +kernel
theorem d_L_law_645 : decode code 645 = .ok (.aload_n 0, 1) := by decide +kernel
theorem d_L_law_646 : decode code 646 = .ok (.iload_n 3, 1) := by decide +kernel
theorem d_L_law_647 : decode code 647 = .ok (.iconst 1, 1) := by decide +kernel
theorem d_L_law_648 : decode code 648 = .ok (.iadd, 1) := by decide +kernel
theorem d_L_law_649 : decode code 649 = .ok (.iaload, 1) := by decide +kernel
theorem d_L_law_650 : decode code 650 = .ok (.invokevirtual 66, 3) := by decide +kernel
theorem d_L_law_653 : decode code 653 = .ok (.if_icmp .eq 1324, 3) := by decide +kernel
theorem d_L_law_658 : decode code 658 = .ok (.aload_n 1, 1) := by decide +kernel
theorem d_L_law_659 : decode code 659 = .ok (.aload_n 0, 1) := by decide +kernel
theorem d_L_law_660 : decode code 660 = .ok (.iload_n 3, 1) := by decide +kernel
theorem d_L_law_661 : decode code 661 = .ok (.iconst 1, 1) := by decide +kernel
theorem d_L_law_662 : decode code 662 = .ok (.iadd, 1) := by decide +kernel
theorem d_L_law_663 : decode code 663 = .ok (.iaload, 1) := by decide +kernel
theorem d_L_law_664 : decode code 664 = .ok (.invokevirtual 67, 3) := by decide +kernel
theorem d_L_law_667 : decode code 667 = .ok (.aload_n 2, 1) := by decide +kernel
theorem d_L_law_668 : decode code 668 = .ok (.aload_n 0, 1) := by decide +kernel
theorem d_L_law_669 : decode code 669 = .ok (.iload_n 3, 1) := by decide +kernel
theorem d_L_law_670 : decode code 670 = .ok (.iconst 1, 1) := by decide +kernel
theorem d_L_law_671 : decode code 671 = .ok (.iadd, 1) := by decide +kernel
theorem d_L_law_672 : decode code 672 = .ok (.iaload, 1) := by decide +kernel
theorem d_L_law_673 : decode code 673 = .ok (.invokevirtual 70, 3) := by decide +kernel
theorem d_L_law_676 : decode code 676 = .ok (.if_icmp .eq 1301, 3) := by decide +kernel
theorem d_L_law_681 : decode code 681 = .ok (.aload_n 1, 1) := by decide +kernel
theorem d_L_law_682 : decode code 682 = .ok (.aload_n 0, 1) := by decide +kernel
theorem d_L_law_683 : decode code 683 = .ok (.iload_n 3, 1) := by decide +kernel
theorem d_L_law_684 : decode code 684 = .ok (.iconst 1, 1) := by decide +kernel
theorem d_L_law_685 : decode code 685 = .ok (.iadd, 1) := by decide +kernel
theorem d_L_law_686 : decode code 686 = .ok (.iaload, 1) := by decide +kernel
theorem d_L_law_687 : decode code 687 = .ok (.aload_n 0, 1) := by decide +kernel
theorem d_L_law_688 : decode code 688 = .ok (.iload_n 3, 1) := by decide +kernel
theorem d_L_law_689 : decode code 689 = .ok (.iconst 2, 1) := by decide +kernel
theorem d_L_law_690 : decode code 690 = .ok (.iadd, 1) := by decide +kernel
theorem d_L_law_691 : decode code 691 = .ok (.iaload, 1) := by decide +kernel
theorem d_L_law_692 : decode code 692 = .ok (.invokevirtual 71, 3) := by decide +kernel
theorem d_L_law_695 : decode code 695 = .ok (.aload_n 2, 1) := by decide +kernel
theorem d_L_law_696 : decode code 696 = .ok (.aload_n 0, 1) := by decide +kernel
theorem d_L_law_697 : decode code 697 = .ok (.iload_n 3, 1) := by decide +kernel
theorem d_L_law_698 : decode code 698 = .ok (.iconst 1, 1) := by decide +kernel
theorem d_L_law_699 : decode code 699 = .ok (.iadd, 1) := by decide +kernel
theorem d_L_law_700 : decode code 700 = .ok (.iaload, 1) := by decide +kernel
theorem d_L_law_701 : decode code 701 = .ok (.aload_n 0, 1) := by decide +kernel
theorem d_L_law_702 : decode code 702 = .ok (.iload_n 3, 1) := by decide +kernel
theorem d_L_law_703 : decode code 703 = .ok (.iconst 2, 1) := by decide +kernel
theorem d_L_law_704 : decode code 704 = .ok (.iadd, 1) := by decide +kernel
theorem d_L_law_705 : decode code 705 = .ok (.iaload, 1) := by decide +kernel
theorem d_L_law_706 : decode code 706 = .ok (.invokevirtual 75, 3) := by decide +kernel
theorem d_L_law_709 : decode code 709 = .ok (.if_icmp .eq 1268, 3) := by decide +kernel
theorem d_L_law_714 : decode code 714 = .ok (.aload_n 1, 1) := by decide +kernel
theorem d_L_law_715 : decode code 715 = .ok (.aload_n 0, 1) := by decide +kernel
theorem d_L_law_716 : decode code 716 = .ok (.iload_n 3, 1) := by decide +kernel
theorem d_L_law_717 : decode code 717 = .ok (.iconst 1, 1) := by decide +kernel
theorem d_L_law_718 : decode code 718 = .ok (.iadd, 1) := by decide +kernel
theorem d_L_law_719 : decode code 719 = .ok (.iaload, 1) := by decide +kernel
theorem d_L_law_720 : decode code 720 = .ok (.aload_n 0, 1) := by decide +kernel
theorem d_L_law_721 : decode code 721 = .ok (.iload_n 3, 1) := by decide +kernel
theorem d_L_law_722 : decode code 722 = .ok (.iconst 2, 1) := by decide +kernel
theorem d_L_law_723 : decode code 723 = .ok (.iadd, 1) := by decide +kernel
theorem d_L_law_724 : decode code 724 = .ok (.iaload, 1) := by decide +kernel
theorem d_L_law_725 : decode code 725 = .ok (.invokevirtual 76, 3) := by decide +kernel
theorem d_L_law_728 : decode code 728 = .ok (.aload_n 2, 1) := by decide +kernel
theorem d_L_law_729 : decode code 729 = .ok (.aload_n 0, 1) := by decide +kernel
theorem d_L_law_730 : decode code 730 = .ok (.iload_n 3, 1) := by decide +kernel
theorem d_L_law_731 : decode code 731 = .ok (.iconst 1, 1) := by decide +kernel
theorem d_L_law_732 : decode code 732 = .ok (.iadd, 1) := by decide +kernel
theorem d_L_law_733 : decode code 733 = .ok (.iaload, 1) := by decide +kernel
theorem d_L_law_734 : decode code 734 = .ok (.aload_n 0, 1) := by decide +kernel
theorem d_L_law_735 : decode code 735 = .ok (.iload_n 3, 1) := by decide +kernel
theorem d_L_law_736 : decode code 736 = .ok (.iconst 2, 1) := by decide +kernel
theorem d_L_law_737 : decode code 737 = .ok (.iadd, 1) := by decide +kernel
theorem d_L_law_738 : decode code 738 = .ok (.iaload, 1) := by decide +kernel
theorem d_L_law_739 : decode code 739 = .ok (.invokevirtual 79, 3) := by decide +kernel
theorem d_L_law_742 : decode code 742 = .ok (.if_icmp .eq 1235, 3) := by decide +kernel
theorem d_L_law_747 : decode code 747 = .ok (.aload_n 1, 1) := by decide +kernel
theorem d_L_law_748 : decode code 748 = .ok (.aload_n 0, 1) := by decide +kernel
theorem d_L_law_749 : decode code 749 = .ok (.iload_n 3, 1) := by decide +kernel
theorem d_L_law_750 : decode code 750 = .ok (.iconst 1, 1) := by decide +kernel
theorem d_L_law_751 : decode code 751 = .ok (.iadd, 1) := by decide +kernel
theorem d_L_law_752 : decode code 752 = .ok (.iaload, 1) := by decide +kernel
theorem d_L_law_753 : decode code 753 = .ok (.invokevirtual 80, 3) := by decide +kernel
theorem d_L_law_756 : decode code 756 = .ok (.aload_n 2, 1) := by decide +kernel
theorem d_L_law_757 : decode code 757 = .ok (.aload_n 0, 1) := by decide +kernel
theorem d_L_law_758 : decode code 758 = .ok (.iload_n 3, 1) := by decide +kernel
theorem d_L_law_759 : decode code 759 = .ok (.iconst 1, 1) := by decide +kernel
theorem d_L_law_760 : decode code 760 = .ok (.iadd, 1) := by decide +kernel
theorem d_L_law_761 : decode code 761 = .ok (.iaload, 1) := by decide +kernel
theorem d_L_law_762 : decode code 762 = .ok (.invokevirtual 83, 3) := by decide +kernel
theorem d_L_law_765 : decode code 765 = .ok (.if_icmp .eq 1212, 3) := by decide +kernel
theorem d_L_law_770 : decode code 770 = .ok (.aload_n 1, 1) := by decide +kernel
theorem d_L_law_771 : decode code 771 = .ok (.aload_n 0, 1) := by decide +kernel
theorem d_L_law_772 : decode code 772 = .ok (.iload_n 3, 1) := by decide +kernel
theorem d_L_law_773 : decode code 773 = .ok (.iconst 1, 1) := by decide +kernel
theorem d_L_law_774 : decode code 774 = .ok (.iadd, 1) := by decide +kernel
theorem d_L_law_775 : decode code 775 = .ok (.iaload, 1) := by decide +kernel
theorem d_L_law_776 : decode code 776 = .ok (.invokevirtual 84, 3) := by decide +kernel
theorem d_L_law_779 : decode code 779 = .ok (.aload_n 2, 1) := by decide +kernel
theorem d_L_law_780 : decode code 780 = .ok (.aload_n 0, 1) := by decide +kernel
theorem d_L_law_781 : decode code 781 = .ok (.iload_n 3, 1) := by decide +kernel
theorem d_L_law_782 : decode code 782 = .ok (.iconst 1, 1) := by decide +kernel
theorem d_L_law_783 : decode code 783 = .ok (.iadd, 1) := by decide +kernel
theorem d_L_law_784 : decode code 784 = .ok (.iaload, 1) := by decide +kernel
theorem d_L_law_785 : decode code 785 = .ok (.invokevirtual 87, 3) := by decide +kernel
theorem d_L_law_788 : decode code 788 = .ok (.if_icmp .eq 1189, 3) := by decide +kernel
theorem d_L_law_793 : decode code 793 = .ok (.aload_n 1, 1) := by decide +kernel
theorem d_L_law_794 : decode code 794 = .ok (.aload_n 0, 1) := by decide +kernel
theorem d_L_law_795 : decode code 795 = .ok (.iload_n 3, 1) := by decide +kernel
theorem d_L_law_796 : decode code 796 = .ok (.iconst 1, 1) := by decide +kernel
theorem d_L_law_797 : decode code 797 = .ok (.iadd, 1) := by decide +kernel
theorem d_L_law_798 : decode code 798 = .ok (.iaload, 1) := by decide +kernel
theorem d_L_law_799 : decode code 799 = .ok (.aload_n 0, 1) := by decide +kernel
theorem d_L_law_800 : decode code 800 = .ok (.iload_n 3, 1) := by decide +kernel
theorem d_L_law_801 : decode code 801 = .ok (.iconst 2, 1) := by decide +kernel
theorem d_L_law_802 : decode code 802 = .ok (.iadd, 1) := by decide +kernel
theorem d_L_law_803 : decode code 803 = .ok (.iaload, 1) := by decide +kernel
theorem d_L_law_804 : decode code 804 = .ok (.invokevirtual 88, 3) := by decide +kernel
theorem d_L_law_807 : decode code 807 = .ok (.aload_n 2, 1) := by decide +kernel
theorem d_L_law_808 : decode code 808 = .ok (.aload_n 0, 1) := by decide +kernel
theorem d_L_law_809 : decode code 809 = .ok (.iload_n 3, 1) := by decide +kernel
theorem d_L_law_810 : decode code 810 = .ok (.iconst 1, 1) := by decide +kernel
theorem d_L_law_811 : decode code 811 = .ok (.iadd, 1) := by decide +kernel
theorem d_L_law_812 : decode code 812 = .ok (.iaload, 1) := by decide +kernel
theorem d_L_law_813 : decode code 813 = .ok (.aload_n 0, 1) := by decide +kernel
theorem d_L_law_814 : decode code 814 = .ok (.iload_n 3, 1) := by decide +kernel
theorem d_L_law_815 : decode code 815 = .ok (.iconst 2, 1) := by decide +kernel
theorem d_L_law_816 : decode code 816 = .ok (.iadd, 1) := by decide +kernel
theorem d_L_law_817 : decode code 817 = .ok (.iaload, 1) := by decide +kernel
theorem d_L_law_818 : decode code 818 = .ok (.invokevirtual 91, 3) := by decide +kernel
theorem d_L_law_821 : decode code 821 = .ok (.if_icmp .eq 1156, 3) := by decide +kernel
theorem d_L_law_826 : decode code 826 = .ok (.aload_n 1, 1) := by decide +kernel
theorem d_L_law_827 : decode code 827 = .ok (.aload_n 0, 1) := by decide +kernel
theorem d_L_law_828 : decode code 828 = .ok (.iload_n 3, 1) := by decide +kernel
theorem d_L_law_829 : decode code 829 = .ok (.iconst 1, 1) := by decide +kernel
theorem d_L_law_830 : decode code 830 = .ok (.iadd, 1) := by decide +kernel
theorem d_L_law_831 : decode code 831 = .ok (.iaload, 1) := by decide +kernel
theorem d_L_law_832 : decode code 832 = .ok (.invokevirtual 92, 3) := by decide +kernel
theorem d_L_law_835 : decode code 835 = .ok (.aload_n 2, 1) := by decide +kernel
theorem d_L_law_836 : decode code 836 = .ok (.aload_n 0, 1) := by decide +kernel
theorem d_L_law_837 : decode code 837 = .ok (.iload_n 3, 1) := by decide +kernel
theorem d_L_law_838 : decode code 838 = .ok (.iconst 1, 1) := by decide +kernel
theorem d_L_law_839 : decode code 839 = .ok (.iadd, 1) := by decide +kernel
theorem d_L_law_840 : decode code 840 = .ok (.iaload, 1) := by decide +kernel
theorem d_L_law_841 : decode code 841 = .ok (.invokevirtual 95, 3) := by decide +kernel
theorem d_L_law_844 : decode code 844 = .ok (.if_icmp .eq 1133, 3) := by decide +kernel
theorem d_L_law_849 : decode code 849 = .ok (.aload_n 1, 1) := by decide +kernel
theorem d_L_law_850 : decode code 850 = .ok (.invokevirtual 96, 3) := by decide +kernel
theorem d_L_law_853 : decode code 853 = .ok (.aload_n 2, 1) := by decide +kernel
theorem d_L_law_854 : decode code 854 = .ok (.invokevirtual 99, 3) := by decide +kernel
theorem d_L_law_857 : decode code 857 = .ok (.if_icmp .eq 1120, 3) := by decide +kernel
theorem d_L_law_862 : decode code 862 = .ok (.aload_n 1, 1) := by decide +kernel
theorem d_L_law_863 : decode code 863 = .ok (.aload_n 0, 1) := by decide +kernel
theorem d_L_law_864 : decode code 864 = .ok (.iload_n 3, 1) := by decide +kernel
theorem d_L_law_865 : decode code 865 = .ok (.iconst 1, 1) := by decide +kernel
theorem d_L_law_866 : decode code 866 = .ok (.iadd, 1) := by decide +kernel
theorem d_L_law_867 : decode code 867 = .ok (.iaload, 1) := by decide +kernel
theorem d_L_law_868 : decode code 868 = .ok (.aload_n 0, 1) := by decide +kernel
theorem d_L_law_869 : decode code 869 = .ok (.iload_n 3, 1) := by decide +kernel
theorem d_L_law_870 : decode code 870 = .ok (.iconst 2, 1) := by decide +kernel
theorem d_L_law_871 : decode code 871 = .ok (.iadd, 1) := by decide +kernel
theorem d_L_law_872 : decode code 872 = .ok (.iaload, 1) := by decide +kernel
theorem d_L_law_873 : decode code 873 = .ok (.aload_n 0, 1) := by decide +kernel
theorem d_L_law_874 : decode code 874 = .ok (.iload_n 3, 1) := by decide +kernel
theorem d_L_law_875 : decode code 875 = .ok (.iconst 3, 1) := by decide +kernel
theorem d_L_law_876 : decode code 876 = .ok (.iadd, 1) := by decide +kernel
theorem d_L_law_877 : decode code 877 = .ok (.iaload, 1) := by decide +kernel
theorem d_L_law_878 : decode code 878 = .ok (.ifCond .eq 7, 3) := by decide +kernel
theorem d_L_law_881 : decode code 881 = .ok (.iconst 1, 1) := by decide +kernel
theorem d_L_law_882 : decode code 882 = .ok (.goto 4, 3) := by decide +kernel
theorem d_L_law_885 : decode code 885 = .ok (.iconst 0, 1) := by decide +kernel
theorem d_L_law_886 : decode code 886 = .ok (.invokevirtual 100, 3) := by decide +kernel
theorem d_L_law_889 : decode code 889 = .ok (.aload_n 2, 1) := by decide +kernel
theorem d_L_law_890 : decode code 890 = .ok (.aload_n 0, 1) := by decide +kernel
theorem d_L_law_891 : decode code 891 = .ok (.iload_n 3, 1) := by decide +kernel
theorem d_L_law_892 : decode code 892 = .ok (.iconst 1, 1) := by decide +kernel
theorem d_L_law_893 : decode code 893 = .ok (.iadd, 1) := by decide +kernel
theorem d_L_law_894 : decode code 894 = .ok (.iaload, 1) := by decide +kernel
theorem d_L_law_895 : decode code 895 = .ok (.aload_n 0, 1) := by decide +kernel
theorem d_L_law_896 : decode code 896 = .ok (.iload_n 3, 1) := by decide +kernel
theorem d_L_law_897 : decode code 897 = .ok (.iconst 2, 1) := by decide +kernel
theorem d_L_law_898 : decode code 898 = .ok (.iadd, 1) := by decide +kernel
theorem d_L_law_899 : decode code 899 = .ok (.iaload, 1) := by decide +kernel
theorem d_L_law_900 : decode code 900 = .ok (.aload_n 0, 1) := by decide +kernel
theorem d_L_law_901 : decode code 901 = .ok (.iload_n 3, 1) := by decide +kernel
theorem d_L_law_902 : decode code 902 = .ok (.iconst 3, 1) := by decide +kernel
theorem d_L_law_903 : decode code 903 = .ok (.iadd, 1) := by decide +kernel
theorem d_L_law_904 : decode code 904 = .ok (.iaload, 1) := by decide +kernel
theorem d_L_law_905 : decode code 905 = .ok (.ifCond .eq 7, 3) := by decide +kernel
theorem d_L_law_908 : decode code 908 = .ok (.iconst 1, 1) := by decide +kernel
theorem d_L_law_909 : decode code 909 = .ok (.goto 4, 3) := by decide +kernel
theorem d_L_law_912 : decode code 912 = .ok (.iconst 0, 1) := by decide +kernel
theorem d_L_law_913 : decode code 913 = .ok (.invokevirtual 104, 3) := by decide +kernel
theorem d_L_law_916 : decode code 916 = .ok (.if_icmp .eq 1061, 3) := by decide +kernel
theorem d_L_law_921 : decode code 921 = .ok (.aload_n 1, 1) := by decide +kernel
theorem d_L_law_922 : decode code 922 = .ok (.aload_n 0, 1) := by decide +kernel
theorem d_L_law_923 : decode code 923 = .ok (.iload_n 3, 1) := by decide +kernel
theorem d_L_law_924 : decode code 924 = .ok (.iconst 1, 1) := by decide +kernel
theorem d_L_law_925 : decode code 925 = .ok (.iadd, 1) := by decide +kernel
theorem d_L_law_926 : decode code 926 = .ok (.iaload, 1) := by decide +kernel
theorem d_L_law_927 : decode code 927 = .ok (.aload_n 0, 1) := by decide +kernel
theorem d_L_law_928 : decode code 928 = .ok (.iload_n 3, 1) := by decide +kernel
theorem d_L_law_929 : decode code 929 = .ok (.iconst 2, 1) := by decide +kernel
theorem d_L_law_930 : decode code 930 = .ok (.iadd, 1) := by decide +kernel
theorem d_L_law_931 : decode code 931 = .ok (.iaload, 1) := by decide +kernel
theorem d_L_law_932 : decode code 932 = .ok (.ifCond .eq 7, 3) := by decide +kernel
theorem d_L_law_935 : decode code 935 = .ok (.iconst 1, 1) := by decide +kernel
theorem d_L_law_936 : decode code 936 = .ok (.goto 4, 3) := by decide +kernel
theorem d_L_law_939 : decode code 939 = .ok (.iconst 0, 1) := by decide +kernel
theorem d_L_law_940 : decode code 940 = .ok (.invokevirtual 105, 3) := by decide +kernel
theorem d_L_law_943 : decode code 943 = .ok (.aload_n 2, 1) := by decide +kernel
theorem d_L_law_944 : decode code 944 = .ok (.aload_n 0, 1) := by decide +kernel
theorem d_L_law_945 : decode code 945 = .ok (.iload_n 3, 1) := by decide +kernel
theorem d_L_law_946 : decode code 946 = .ok (.iconst 1, 1) := by decide +kernel
theorem d_L_law_947 : decode code 947 = .ok (.iadd, 1) := by decide +kernel
theorem d_L_law_948 : decode code 948 = .ok (.iaload, 1) := by decide +kernel
theorem d_L_law_949 : decode code 949 = .ok (.aload_n 0, 1) := by decide +kernel
theorem d_L_law_950 : decode code 950 = .ok (.iload_n 3, 1) := by decide +kernel
theorem d_L_law_951 : decode code 951 = .ok (.iconst 2, 1) := by decide +kernel
theorem d_L_law_952 : decode code 952 = .ok (.iadd, 1) := by decide +kernel
theorem d_L_law_953 : decode code 953 = .ok (.iaload, 1) := by decide +kernel
theorem d_L_law_954 : decode code 954 = .ok (.ifCond .eq 7, 3) := by decide +kernel
theorem d_L_law_957 : decode code 957 = .ok (.iconst 1, 1) := by decide +kernel
theorem d_L_law_958 : decode code 958 = .ok (.goto 4, 3) := by decide +kernel
theorem d_L_law_961 : decode code 961 = .ok (.iconst 0, 1) := by decide +kernel
theorem d_L_law_962 : decode code 962 = .ok (.invokevirtual 109, 3) := by decide +kernel
theorem d_L_law_965 : decode code 965 = .ok (.if_icmp .eq 1012, 3) := by decide +kernel
theorem d_L_law_970 : decode code 970 = .ok (.aload_n 1, 1) := by decide +kernel
theorem d_L_law_971 : decode code 971 = .ok (.aload_n 0, 1) := by decide +kernel
theorem d_L_law_972 : decode code 972 = .ok (.iload_n 3, 1) := by decide +kernel
theorem d_L_law_973 : decode code 973 = .ok (.iconst 1, 1) := by decide +kernel
theorem d_L_law_974 : decode code 974 = .ok (.iadd, 1) := by decide +kernel
theorem d_L_law_975 : decode code 975 = .ok (.iaload, 1) := by decide +kernel
theorem d_L_law_976 : decode code 976 = .ok (.aload_n 0, 1) := by decide +kernel
theorem d_L_law_977 : decode code 977 = .ok (.iload_n 3, 1) := by decide +kernel
theorem d_L_law_978 : decode code 978 = .ok (.iconst 2, 1) := by decide +kernel
theorem d_L_law_979 : decode code 979 = .ok (.iadd, 1) := by decide +kernel
theorem d_L_law_980 : decode code 980 = .ok (.iaload, 1) := by decide +kernel
theorem d_L_law_981 : decode code 981 = .ok (.ifCond .eq 7, 3) := by decide +kernel
theorem d_L_law_984 : decode code 984 = .ok (.iconst 1, 1) := by decide +kernel
theorem d_L_law_985 : decode code 985 = .ok (.goto 4, 3) := by decide +kernel
theorem d_L_law_988 : decode code 988 = .ok (.iconst 0, 1) := by decide +kernel
theorem d_L_law_989 : decode code 989 = .ok (.invokevirtual 110, 3) := by decide +kernel
theorem d_L_law_992 : decode code 992 = .ok (.aload_n 2, 1) := by decide +kernel
theorem d_L_law_993 : decode code 993 = .ok (.aload_n 0, 1) := by decide +kernel
theorem d_L_law_994 : decode code 994 = .ok (.iload_n 3, 1) := by decide +kernel
theorem d_L_law_995 : decode code 995 = .ok (.iconst 1, 1) := by decide +kernel
theorem d_L_law_996 : decode code 996 = .ok (.iadd, 1) := by decide +kernel
theorem d_L_law_997 : decode code 997 = .ok (.iaload, 1) := by decide +kernel
theorem d_L_law_998 : decode code 998 = .ok (.aload_n 0, 1) := by decide +kernel
theorem d_L_law_999 : decode code 999 = .ok (.iload_n 3, 1) := by decide +kernel
theorem d_L_law_1000 : decode code 1000 = .ok (.iconst 2, 1) := by decide +kernel
theorem d_L_law_1001 : decode code 1001 = .ok (.iadd, 1) := by decide +kernel
theorem d_L_law_1002 : decode code 1002 = .ok (.iaload, 1) := by decide +kernel
theorem d_L_law_1003 : decode code 1003 = .ok (.ifCond .eq 7, 3) := by decide +kernel
theorem d_L_law_1006 : decode code 1006 = .ok (.iconst 1, 1) := by decide +kernel
theorem d_L_law_1007 : decode code 1007 = .ok (.goto 4, 3) := by decide +kernel
theorem d_L_law_1010 : decode code 1010 = .ok (.iconst 0, 1) := by decide +kernel
theorem d_L_law_1011 : decode code 1011 = .ok (.invokevirtual 113, 3) := by decide +kernel
theorem d_L_law_1014 : decode code 1014 = .ok (.if_icmp .eq 963, 3) := by decide +kernel
theorem d_L_law_1019 : decode code 1019 = .ok (.aload_n 1, 1) := by decide +kernel
theorem d_L_law_1020 : decode code 1020 = .ok (.aload_n 0, 1) := by decide +kernel
theorem d_L_law_1021 : decode code 1021 = .ok (.iload_n 3, 1) := by decide +kernel
theorem d_L_law_1022 : decode code 1022 = .ok (.iconst 1, 1) := by decide +kernel
theorem d_L_law_1023 : decode code 1023 = .ok (.iadd, 1) := by decide +kernel
theorem d_L_law_1024 : decode code 1024 = .ok (.iaload, 1) := by decide +kernel
theorem d_L_law_1025 : decode code 1025 = .ok (.aload_n 0, 1) := by decide +kernel
theorem d_L_law_1026 : decode code 1026 = .ok (.iload_n 3, 1) := by decide +kernel
theorem d_L_law_1027 : decode code 1027 = .ok (.iconst 2, 1) := by decide +kernel
theorem d_L_law_1028 : decode code 1028 = .ok (.iadd, 1) := by decide +kernel
theorem d_L_law_1029 : decode code 1029 = .ok (.iaload, 1) := by decide +kernel
theorem d_L_law_1030 : decode code 1030 = .ok (.invokevirtual 114, 3) := by decide +kernel
theorem d_L_law_1033 : decode code 1033 = .ok (.aload_n 2, 1) := by decide +kernel
theorem d_L_law_1034 : decode code 1034 = .ok (.aload_n 0, 1) := by decide +kernel
theorem d_L_law_1035 : decode code 1035 = .ok (.iload_n 3, 1) := by decide +kernel
theorem d_L_law_1036 : decode code 1036 = .ok (.iconst 1, 1) := by decide +kernel
theorem d_L_law_1037 : decode code 1037 = .ok (.iadd, 1) := by decide +kernel
theorem d_L_law_1038 : decode code 1038 = .ok (.iaload, 1) := by decide +kernel
theorem d_L_law_1039 : decode code 1039 = .ok (.aload_n 0, 1) := by decide +kernel
theorem d_L_law_1040 : decode code 1040 = .ok (.iload_n 3, 1) := by decide +kernel
theorem d_L_law_1041 : decode code 1041 = .ok (.iconst 2, 1) := by decide +kernel
theorem d_L_law_1042 : decode code 1042 = .ok (.iadd, 1) := by decide +kernel
theorem d_L_law_1043 : decode code 1043 = .ok (.iaload, 1) := by decide +kernel
theorem d_L_law_1044 : decode code 1044 = .ok (.invokevirtual 118, 3) := by decide +kernel
theorem d_L_law_1047 : decode code 1047 = .ok (.if_icmp .eq 930, 3) := by decide +kernel
theorem d_L_law_1052 : decode code 1052 = .ok (.aload_n 1, 1) := by decide +kernel
theorem d_L_law_1053 : decode code 1053 = .ok (.aload_n 0, 1) := by decide +kernel
theorem d_L_law_1054 : decode code 1054 = .ok (.iload_n 3, 1) := by decide +kernel
theorem d_L_law_1055 : decode code 1055 = .ok (.iconst 1, 1) := by decide +kernel
theorem d_L_law_1056 : decode code 1056 = .ok (.iadd, 1) := by decide +kernel
theorem d_L_law_1057 : decode code 1057 = .ok (.iaload, 1) := by decide +kernel
theorem d_L_law_1058 : decode code 1058 = .ok (.aload_n 0, 1) := by decide +kernel
theorem d_L_law_1059 : decode code 1059 = .ok (.iload_n 3, 1) := by decide +kernel
theorem d_L_law_1060 : decode code 1060 = .ok (.iconst 2, 1) := by decide +kernel
theorem d_L_law_1061 : decode code 1061 = .ok (.iadd, 1) := by decide +kernel
theorem d_L_law_1062 : decode code 1062 = .ok (.iaload, 1) := by decide +kernel
theorem d_L_law_1063 : decode code 1063 = .ok (.invokevirtual 119, 3) := by decide +kernel
theorem d_L_law_1066 : decode code 1066 = .ok (.aload_n 2, 1) := by decide +kernel
theorem d_L_law_1067 : decode code 1067 = .ok (.aload_n 0, 1) := by decide +kernel
theorem d_L_law_1068 : decode code 1068 = .ok (.iload_n 3, 1) := by decide +kernel
theorem d_L_law_1069 : decode code 1069 = .ok (.iconst 1, 1) := by decide +kernel
theorem d_L_law_1070 : decode code 1070 = .ok (.iadd, 1) := by decide +kernel
theorem d_L_law_1071 : decode code 1071 = .ok (.iaload, 1) := by decide +kernel
theorem d_L_law_1072 : decode code 1072 = .ok (.aload_n 0, 1) := by decide +kernel
theorem d_L_law_1073 : decode code 1073 = .ok (.iload_n 3, 1) := by decide +kernel
theorem d_L_law_1074 : decode code 1074 = .ok (.iconst 2, 1) := by decide +kernel
theorem d_L_law_1075 : decode code 1075 = .ok (.iadd, 1) := by decide +kernel
theorem d_L_law_1076 : decode code 1076 = .ok (.iaload, 1) := by decide +kernel
theorem d_L_law_1077 : decode code 1077 = .ok (.invokevirtual 122, 3) := by decide +kernel
theorem d_L_law_1080 : decode code 1080 = .ok (.if_icmp .eq 897, 3) := by decide +kernel
theorem d_L_law_1085 : decode code 1085 = .ok (.aload_n 1, 1) := by decide +kernel
theorem d_L_law_1086 : decode code 1086 = .ok (.aload_n 0, 1) := by decide +kernel
theorem d_L_law_1087 : decode code 1087 = .ok (.iload_n 3, 1) := by decide +kernel
theorem d_L_law_1088 : decode code 1088 = .ok (.iconst 1, 1) := by decide +kernel
theorem d_L_law_1089 : decode code 1089 = .ok (.iadd, 1) := by decide +kernel
theorem d_L_law_1090 : decode code 1090 = .ok (.iaload, 1) := by decide +kernel
theorem d_L_law_1091 : decode code 1091 = .ok (.aload_n 0, 1) := by decide +kernel
theorem d_L_law_1092 : decode code 1092 = .ok (.iload_n 3, 1) := by decide +kernel
theorem d_L_law_1093 : decode code 1093 = .ok (.iconst 2, 1) := by decide +kernel
theorem d_L_law_1094 : decode code 1094 = .ok (.iadd, 1) := by decide +kernel
theorem d_L_law_1095 : decode code 1095 = .ok (.iaload, 1) := by decide +kernel
theorem d_L_law_1096 : decode code 1096 = .ok (.aload_n 0, 1) := by decide +kernel
theorem d_L_law_1097 : decode code 1097 = .ok (.iload_n 3, 1) := by decide +kernel
theorem d_L_law_1098 : decode code 1098 = .ok (.iconst 3, 1) := by decide +kernel
theorem d_L_law_1099 : decode code 1099 = .ok (.iadd, 1) := by decide +kernel
theorem d_L_law_1100 : decode code 1100 = .ok (.iaload, 1) := by decide +kernel
theorem d_L_law_1101 : decode code 1101 = .ok (.ifCond .eq 7, 3) := by decide +kernel
theorem d_L_law_1104 : decode code 1104 = .ok (.iconst 1, 1) := by decide +kernel
theorem d_L_law_1105 : decode code 1105 = .ok (.goto 4, 3) := by decide +kernel
theorem d_L_law_1108 : decode code 1108 = .ok (.iconst 0, 1) := by decide +kernel
theorem d_L_law_1109 : decode code 1109 = .ok (.invokevirtual 123, 3) := by decide +kernel
theorem d_L_law_1112 : decode code 1112 = .ok (.aload_n 2, 1) := by decide +kernel
theorem d_L_law_1113 : decode code 1113 = .ok (.aload_n 0, 1) := by decide +kernel
theorem d_L_law_1114 : decode code 1114 = .ok (.iload_n 3, 1) := by decide +kernel
theorem d_L_law_1115 : decode code 1115 = .ok (.iconst 1, 1) := by decide +kernel
theorem d_L_law_1116 : decode code 1116 = .ok (.iadd, 1) := by decide +kernel
theorem d_L_law_1117 : decode code 1117 = .ok (.iaload, 1) := by decide +kernel
theorem d_L_law_1118 : decode code 1118 = .ok (.aload_n 0, 1) := by decide +kernel
theorem d_L_law_1119 : decode code 1119 = .ok (.iload_n 3, 1) := by decide +kernel
theorem d_L_law_1120 : decode code 1120 = .ok (.iconst 2, 1) := by decide +kernel
theorem d_L_law_1121 : decode code 1121 = .ok (.iadd, 1) := by decide +kernel
theorem d_L_law_1122 : decode code 1122 = .ok (.iaload, 1) := by decide +kernel
theorem d_L_law_1123 : decode code 1123 = .ok (.aload_n 0, 1) := by decide +kernel
theorem d_L_law_1124 : decode code 1124 = .ok (.iload_n 3, 1) := by decide +kernel
theorem d_L_law_1125 : decode code 1125 = .ok (.iconst 3, 1) := by decide +kernel
theorem d_L_law_1126 : decode code 1126 = .ok (.iadd, 1) := by decide +kernel
theorem d_L_law_1127 : decode code 1127 = .ok (.iaload, 1) := by decide +kernel
theorem d_L_law_1128 : decode code 1128 = .ok (.ifCond .eq 7, 3) := by decide +kernel
theorem d_L_law_1131 : decode code 1131 = .ok (.iconst 1, 1) := by decide +kernel
theorem d_L_law_1132 : decode code 1132 = .ok (.goto 4, 3) := by decide +kernel
theorem d_L_law_1135 : decode code 1135 = .ok (.iconst 0, 1) := by decide +kernel
theorem d_L_law_1136 : decode code 1136 = .ok (.invokevirtual 126, 3) := by decide +kernel
theorem d_L_law_1139 : decode code 1139 = .ok (.if_icmp .eq 838, 3) := by decide +kernel
theorem d_L_law_1144 : decode code 1144 = .ok (.aload_n 1, 1) := by decide +kernel
theorem d_L_law_1145 : decode code 1145 = .ok (.aload_n 0, 1) := by decide +kernel
theorem d_L_law_1146 : decode code 1146 = .ok (.iload_n 3, 1) := by decide +kernel
theorem d_L_law_1147 : decode code 1147 = .ok (.iconst 1, 1) := by decide +kernel
theorem d_L_law_1148 : decode code 1148 = .ok (.iadd, 1) := by decide +kernel
theorem d_L_law_1149 : decode code 1149 = .ok (.iaload, 1) := by decide +kernel
theorem d_L_law_1150 : decode code 1150 = .ok (.invokevirtual 127, 3) := by decide +kernel
theorem d_L_law_1153 : decode code 1153 = .ok (.aload_n 2, 1) := by decide +kernel
theorem d_L_law_1154 : decode code 1154 = .ok (.aload_n 0, 1) := by decide +kernel
theorem d_L_law_1155 : decode code 1155 = .ok (.iload_n 3, 1) := by decide +kernel
theorem d_L_law_1156 : decode code 1156 = .ok (.iconst 1, 1) := by decide +kernel
theorem d_L_law_1157 : decode code 1157 = .ok (.iadd, 1) := by decide +kernel
theorem d_L_law_1158 : decode code 1158 = .ok (.iaload, 1) := by decide +kernel
theorem d_L_law_1159 : decode code 1159 = .ok (.invokevirtual 131, 3) := by decide +kernel
theorem d_L_law_1162 : decode code 1162 = .ok (.if_icmp .eq 815, 3) := by decide +kernel
theorem d_L_law_1167 : decode code 1167 = .ok (.aload_n 1, 1) := by decide +kernel
theorem d_L_law_1168 : decode code 1168 = .ok (.aload_n 0, 1) := by decide +kernel
theorem d_L_law_1169 : decode code 1169 = .ok (.iload_n 3, 1) := by decide +kernel
theorem d_L_law_1170 : decode code 1170 = .ok (.iconst 1, 1) := by decide +kernel
theorem d_L_law_1171 : decode code 1171 = .ok (.iadd, 1) := by decide +kernel
theorem d_L_law_1172 : decode code 1172 = .ok (.iaload, 1) := by decide +kernel
theorem d_L_law_1173 : decode code 1173 = .ok (.invokevirtual 132, 3) := by decide +kernel
theorem d_L_law_1176 : decode code 1176 = .ok (.aload_n 2, 1) := by decide +kernel
theorem d_L_law_1177 : decode code 1177 = .ok (.aload_n 0, 1) := by decide +kernel
theorem d_L_law_1178 : decode code 1178 = .ok (.iload_n 3, 1) := by decide +kernel
theorem d_L_law_1179 : decode code 1179 = .ok (.iconst 1, 1) := by decide +kernel
theorem d_L_law_1180 : decode code 1180 = .ok (.iadd, 1) := by decide +kernel
theorem d_L_law_1181 : decode code 1181 = .ok (.iaload, 1) := by decide +kernel
theorem d_L_law_1182 : decode code 1182 = .ok (.invokevirtual 135, 3) := by decide +kernel
theorem d_L_law_1185 : decode code 1185 = .ok (.if_icmp .eq 792, 3) := by decide +kernel
theorem d_L_law_1190 : decode code 1190 = .ok (.aload_n 1, 1) := by decide +kernel
theorem d_L_law_1191 : decode code 1191 = .ok (.aload_n 0, 1) := by decide +kernel
theorem d_L_law_1192 : decode code 1192 = .ok (.iload_n 3, 1) := by decide +kernel
theorem d_L_law_1193 : decode code 1193 = .ok (.iconst 1, 1) := by decide +kernel
theorem d_L_law_1194 : decode code 1194 = .ok (.iadd, 1) := by decide +kernel
theorem d_L_law_1195 : decode code 1195 = .ok (.iaload, 1) := by decide +kernel
theorem d_L_law_1196 : decode code 1196 = .ok (.aload_n 0, 1) := by decide +kernel
theorem d_L_law_1197 : decode code 1197 = .ok (.iload_n 3, 1) := by decide +kernel
theorem d_L_law_1198 : decode code 1198 = .ok (.iconst 2, 1) := by decide +kernel
theorem d_L_law_1199 : decode code 1199 = .ok (.iadd, 1) := by decide +kernel
theorem d_L_law_1200 : decode code 1200 = .ok (.iaload, 1) := by decide +kernel
theorem d_L_law_1201 : decode code 1201 = .ok (.invokevirtual 136, 3) := by decide +kernel
theorem d_L_law_1204 : decode code 1204 = .ok (.aload_n 2, 1) := by decide +kernel
theorem d_L_law_1205 : decode code 1205 = .ok (.aload_n 0, 1) := by decide +kernel
theorem d_L_law_1206 : decode code 1206 = .ok (.iload_n 3, 1) := by decide +kernel
theorem d_L_law_1207 : decode code 1207 = .ok (.iconst 1, 1) := by decide +kernel
theorem d_L_law_1208 : decode code 1208 = .ok (.iadd, 1) := by decide +kernel
theorem d_L_law_1209 : decode code 1209 = .ok (.iaload, 1) := by decide +kernel
theorem d_L_law_1210 : decode code 1210 = .ok (.aload_n 0, 1) := by decide +kernel
theorem d_L_law_1211 : decode code 1211 = .ok (.iload_n 3, 1) := by decide +kernel
theorem d_L_law_1212 : decode code 1212 = .ok (.iconst 2, 1) := by decide +kernel
theorem d_L_law_1213 : decode code 1213 = .ok (.iadd, 1) := by decide +kernel
theorem d_L_law_1214 : decode code 1214 = .ok (.iaload, 1) := by decide +kernel
theorem d_L_law_1215 : decode code 1215 = .ok (.invokevirtual 139, 3) := by decide +kernel
theorem d_L_law_1218 : decode code 1218 = .ok (.if_icmp .eq 759, 3) := by decide +kernel
theorem d_L_law_1223 : decode code 1223 = .ok (.aload_n 1, 1) := by decide +kernel
theorem d_L_law_1224 : decode code 1224 = .ok (.aload_n 0, 1) := by decide +kernel
theorem d_L_law_1225 : decode code 1225 = .ok (.iload_n 3, 1) := by decide +kernel
theorem d_L_law_1226 : decode code 1226 = .ok (.iconst 1, 1) := by decide +kernel
theorem d_L_law_1227 : decode code 1227 = .ok (.iadd, 1) := by decide +kernel
theorem d_L_law_1228 : decode code 1228 = .ok (.iaload, 1) := by decide +kernel
theorem d_L_law_1229 : decode code 1229 = .ok (.invokevirtual 140, 3) := by decide +kernel
theorem d_L_law_1232 : decode code 1232 = .ok (.aload_n 2, 1) := by decide +kernel
theorem d_L_law_1233 : decode code 1233 = .ok (.aload_n 0, 1) := by decide +kernel
theorem d_L_law_1234 : decode code 1234 = .ok (.iload_n 3, 1) := by decide +kernel
theorem d_L_law_1235 : decode code 1235 = .ok (.iconst 1, 1) := by decide +kernel
theorem d_L_law_1236 : decode code 1236 = .ok (.iadd, 1) := by decide +kernel
theorem d_L_law_1237 : decode code 1237 = .ok (.iaload, 1) := by decide +kernel
theorem d_L_law_1238 : decode code 1238 = .ok (.invokevirtual 143, 3) := by decide +kernel
theorem d_L_law_1241 : decode code 1241 = .ok (.if_icmp .eq 736, 3) := by decide +kernel
theorem d_L_law_1246 : decode code 1246 = .ok (.aload_n 1, 1) := by decide +kernel
theorem d_L_law_1247 : decode code 1247 = .ok (.aload_n 0, 1) := by decide +kernel
theorem d_L_law_1248 : decode code 1248 = .ok (.iload_n 3, 1) := by decide +kernel
theorem d_L_law_1249 : decode code 1249 = .ok (.iconst 1, 1) := by decide +kernel
theorem d_L_law_1250 : decode code 1250 = .ok (.iadd, 1) := by decide +kernel
theorem d_L_law_1251 : decode code 1251 = .ok (.iaload, 1) := by decide +kernel
theorem d_L_law_1252 : decode code 1252 = .ok (.invokevirtual 144, 3) := by decide +kernel
theorem d_L_law_1255 : decode code 1255 = .ok (.aload_n 2, 1) := by decide +kernel
theorem d_L_law_1256 : decode code 1256 = .ok (.aload_n 0, 1) := by decide +kernel
theorem d_L_law_1257 : decode code 1257 = .ok (.iload_n 3, 1) := by decide +kernel
theorem d_L_law_1258 : decode code 1258 = .ok (.iconst 1, 1) := by decide +kernel
theorem d_L_law_1259 : decode code 1259 = .ok (.iadd, 1) := by decide +kernel
theorem d_L_law_1260 : decode code 1260 = .ok (.iaload, 1) := by decide +kernel
theorem d_L_law_1261 : decode code 1261 = .ok (.invokevirtual 147, 3) := by decide +kernel
theorem d_L_law_1264 : decode code 1264 = .ok (.if_icmp .eq 713, 3) := by decide +kernel
theorem d_L_law_1269 : decode code 1269 = .ok (.aload_n 1, 1) := by decide +kernel
theorem d_L_law_1270 : decode code 1270 = .ok (.aload_n 0, 1) := by decide +kernel
theorem d_L_law_1271 : decode code 1271 = .ok (.iload_n 3, 1) := by decide +kernel
theorem d_L_law_1272 : decode code 1272 = .ok (.iconst 1, 1) := by decide +kernel
theorem d_L_law_1273 : decode code 1273 = .ok (.iadd, 1) := by decide +kernel
theorem d_L_law_1274 : decode code 1274 = .ok (.iaload, 1) := by decide +kernel
theorem d_L_law_1275 : decode code 1275 = .ok (.aload_n 0, 1) := by decide +kernel
theorem d_L_law_1276 : decode code 1276 = .ok (.iload_n 3, 1) := by decide +kernel
theorem d_L_law_1277 : decode code 1277 = .ok (.iconst 2, 1) := by decide +kernel
theorem d_L_law_1278 : decode code 1278 = .ok (.iadd, 1) := by decide +kernel
theorem d_L_law_1279 : decode code 1279 = .ok (.iaload, 1) := by decide +kernel
theorem d_L_law_1280 : decode code 1280 = .ok (.invokevirtual 148, 3) := by decide +kernel
theorem d_L_law_1283 : decode code 1283 = .ok (.aload_n 2, 1) := by decide +kernel
theorem d_L_law_1284 : decode code 1284 = .ok (.aload_n 0, 1) := by decide +kernel
theorem d_L_law_1285 : decode code 1285 = .ok (.iload_n 3, 1) := by decide +kernel
theorem d_L_law_1286 : decode code 1286 = .ok (.iconst 1, 1) := by decide +kernel
theorem d_L_law_1287 : decode code 1287 = .ok (.iadd, 1) := by decide +kernel
theorem d_L_law_1288 : decode code 1288 = .ok (.iaload, 1) := by decide +kernel
theorem d_L_law_1289 : decode code 1289 = .ok (.aload_n 0, 1) := by decide +kernel
theorem d_L_law_1290 : decode code 1290 = .ok (.iload_n 3, 1) := by decide +kernel
theorem d_L_law_1291 : decode code 1291 = .ok (.iconst 2, 1) := by decide +kernel
theorem d_L_law_1292 : decode code 1292 = .ok (.iadd, 1) := by decide +kernel
theorem d_L_law_1293 : decode code 1293 = .ok (.iaload, 1) := by decide +kernel
theorem d_L_law_1294 : decode code 1294 = .ok (.invokevirtual 151, 3) := by decide +kernel
theorem d_L_law_1297 : decode code 1297 = .ok (.if_icmp .eq 680, 3) := by decide +kernel
theorem d_L_law_1302 : decode code 1302 = .ok (.aload_n 1, 1) := by decide +kernel
theorem d_L_law_1303 : decode code 1303 = .ok (.invokevirtual 152, 3) := by decide +kernel
theorem d_L_law_1306 : decode code 1306 = .ok (.aload_n 2, 1) := by decide +kernel
theorem d_L_law_1307 : decode code 1307 = .ok (.invokevirtual 155, 3) := by decide +kernel
theorem d_L_law_1310 : decode code 1310 = .ok (.if_icmp .eq 667, 3) := by decide +kernel
theorem d_L_law_1315 : decode code 1315 = .ok (.aload_n 1, 1) := by decide +kernel
theorem d_L_law_1316 : decode code 1316 = .ok (.aload_n 0, 1) := by decide +kernel
theorem d_L_law_1317 : decode code 1317 = .ok (.iload_n 3, 1) := by decide +kernel
theorem d_L_law_1318 : decode code 1318 = .ok (.iconst 1, 1) := by decide +kernel
theorem d_L_law_1319 : decode code 1319 = .ok (.iadd, 1) := by decide +kernel
theorem d_L_law_1320 : decode code 1320 = .ok (.iaload, 1) := by decide +kernel
theorem d_L_law_1321 : decode code 1321 = .ok (.invokevirtual 156, 3) := by decide +kernel
theorem d_L_law_1324 : decode code 1324 = .ok (.aload_n 2, 1) := by decide +kernel
theorem d_L_law_1325 : decode code 1325 = .ok (.aload_n 0, 1) := by decide +kernel
theorem d_L_law_1326 : decode code 1326 = .ok (.iload_n 3, 1) := by decide +kernel
theorem d_L_law_1327 : decode code 1327 = .ok (.iconst 1, 1) := by decide +kernel
theorem d_L_law_1328 : decode code 1328 = .ok (.iadd, 1) := by decide +kernel
theorem d_L_law_1329 : decode code 1329 = .ok (.iaload, 1) := by decide +kernel
theorem d_L_law_1330 : decode code 1330 = .ok (.invokevirtual 159, 3) := by decide +kernel
theorem d_L_law_1333 : decode code 1333 = .ok (.if_icmp .eq 644, 3) := by decide +kernel
theorem d_L_law_1338 : decode code 1338 = .ok (.aload_n 1, 1) := by decide +kernel
theorem d_L_law_1339 : decode code 1339 = .ok (.aload_n 0, 1) := by decide +kernel
theorem d_L_law_1340 : decode code 1340 = .ok (.iload_n 3, 1) := by decide +kernel
theorem d_L_law_1341 : decode code 1341 = .ok (.iconst 1, 1) := by decide +kernel
theorem d_L_law_1342 : decode code 1342 = .ok (.iadd, 1) := by decide +kernel
theorem d_L_law_1343 : decode code 1343 = .ok (.iaload, 1) := by decide +kernel
theorem d_L_law_1344 : decode code 1344 = .ok (.invokevirtual 160, 3) := by decide +kernel
theorem d_L_law_1347 : decode code 1347 = .ok (.aload_n 2, 1) := by decide +kernel
theorem d_L_law_1348 : decode code 1348 = .ok (.aload_n 0, 1) := by decide +kernel
theorem d_L_law_1349 : decode code 1349 = .ok (.iload_n 3, 1) := by decide +kernel
theorem d_L_law_1350 : decode code 1350 = .ok (.iconst 1, 1) := by decide +kernel
theorem d_L_law_1351 : decode code 1351 = .ok (.iadd, 1) := by decide +kernel
theorem d_L_law_1352 : decode code 1352 = .ok (.iaload, 1) := by decide +kernel
theorem d_L_law_1353 : decode code 1353 = .ok (.invokevirtual 163, 3) := by decide +kernel
theorem d_L_law_1356 : decode code 1356 = .ok (.if_icmp .eq 621, 3) := by decide +kernel
theorem d_L_law_1361 : decode code 1361 = .ok (.aload_n 1, 1) := by decide +kernel
theorem d_L_law_1362 : decode code 1362 = .ok (.invokevirtual 164, 3) := by decide +kernel
theorem d_L_law_1365 : decode code 1365 = .ok (.aload_n 2, 1) := by decide +kernel
theorem d_L_law_1366 : decode code 1366 = .ok (.invokevirtual 167, 3) := by decide +kernel
theorem d_L_law_1369 : decode code 1369 = .ok (.if_icmp .eq 608, 3) := by decide +kernel
theorem d_L_law_1374 : decode code 1374 = .ok (.aload_n 1, 1) := by decide +kernel
theorem d_L_law_1375 : decode code 1375 = .ok (.aload_n 0, 1) := by decide +kernel
theorem d_L_law_1376 : decode code 1376 = .ok (.iload_n 3, 1) := by decide +kernel
theorem d_L_law_1377 : decode code 1377 = .ok (.iconst 1, 1) := by decide +kernel
theorem d_L_law_1378 : decode code 1378 = .ok (.iadd, 1) := by decide +kernel
theorem d_L_law_1379 : decode code 1379 = .ok (.iaload, 1) := by decide +kernel
theorem d_L_law_1380 : decode code 1380 = .ok (.aload_n 0, 1) := by decide +kernel
theorem d_L_law_1381 : decode code 1381 = .ok (.iload_n 3, 1) := by decide +kernel
theorem d_L_law_1382 : decode code 1382 = .ok (.iconst 2, 1) := by decide +kernel
theorem d_L_law_1383 : decode code 1383 = .ok (.iadd, 1) := by decide +kernel
theorem d_L_law_1384 : decode code 1384 = .ok (.iaload, 1) := by decide +kernel
theorem d_L_law_1385 : decode code 1385 = .ok (.aload_n 0, 1) := by decide +kernel
theorem d_L_law_1386 : decode code 1386 = .ok (.iload_n 3, 1) := by decide +kernel
theorem d_L_law_1387 : decode code 1387 = .ok (.iconst 3, 1) := by decide +kernel
theorem d_L_law_1388 : decode code 1388 = .ok (.iadd, 1) := by decide +kernel
theorem d_L_law_1389 : decode code 1389 = .ok (.iaload, 1) := by decide +kernel
theorem d_L_law_1390 : decode code 1390 = .ok (.invokevirtual 168, 3) := by decide +kernel
theorem d_L_law_1393 : decode code 1393 = .ok (.aload_n 2, 1) := by decide +kernel
theorem d_L_law_1394 : decode code 1394 = .ok (.aload_n 0, 1) := by decide +kernel
theorem d_L_law_1395 : decode code 1395 = .ok (.iload_n 3, 1) := by decide +kernel
theorem d_L_law_1396 : decode code 1396 = .ok (.iconst 1, 1) := by decide +kernel
theorem d_L_law_1397 : decode code 1397 = .ok (.iadd, 1) := by decide +kernel
theorem d_L_law_1398 : decode code 1398 = .ok (.iaload, 1) := by decide +kernel
theorem d_L_law_1399 : decode code 1399 = .ok (.aload_n 0, 1) := by decide +kernel
theorem d_L_law_1400 : decode code 1400 = .ok (.iload_n 3, 1) := by decide +kernel
theorem d_L_law_1401 : decode code 1401 = .ok (.iconst 2, 1) := by decide +kernel
theorem d_L_law_1402 : decode code 1402 = .ok (.iadd, 1) := by decide +kernel
theorem d_L_law_1403 : decode code 1403 = .ok (.iaload, 1) := by decide +kernel
theorem d_L_law_1404 : decode code 1404 = .ok (.aload_n 0, 1) := by decide +kernel
theorem d_L_law_1405 : decode code 1405 = .ok (.iload_n 3, 1) := by decide +kernel
theorem d_L_law_1406 : decode code 1406 = .ok (.iconst 3, 1) := by decide +kernel
theorem d_L_law_1407 : decode code 1407 = .ok (.iadd, 1) := by decide +kernel
theorem d_L_law_1408 : decode code 1408 = .ok (.iaload, 1) := by decide +kernel
theorem d_L_law_1409 : decode code 1409 = .ok (.invokevirtual 172, 3) := by decide +kernel
theorem d_L_law_1412 : decode code 1412 = .ok (.if_icmp .eq 565, 3) := by decide +kernel
theorem d_L_law_1417 : decode code 1417 = .ok (.aload_n 1, 1) := by decide +kernel
theorem d_L_law_1418 : decode code 1418 = .ok (.aload_n 0, 1) := by decide +kernel
theorem d_L_law_1419 : decode code 1419 = .ok (.iload_n 3, 1) := by decide +kernel
theorem d_L_law_1420 : decode code 1420 = .ok (.iconst 1, 1) := by decide +kernel
theorem d_L_law_1421 : decode code 1421 = .ok (.iadd, 1) := by decide +kernel
theorem d_L_law_1422 : decode code 1422 = .ok (.iaload, 1) := by decide +kernel
theorem d_L_law_1423 : decode code 1423 = .ok (.aload_n 0, 1) := by decide +kernel
theorem d_L_law_1424 : decode code 1424 = .ok (.iload_n 3, 1) := by decide +kernel
theorem d_L_law_1425 : decode code 1425 = .ok (.iconst 2, 1) := by decide +kernel
theorem d_L_law_1426 : decode code 1426 = .ok (.iadd, 1) := by decide +kernel
theorem d_L_law_1427 : decode code 1427 = .ok (.iaload, 1) := by decide +kernel
theorem d_L_law_1428 : decode code 1428 = .ok (.aload_n 0, 1) := by decide +kernel
theorem d_L_law_1429 : decode code 1429 = .ok (.iload_n 3, 1) := by decide +kernel
theorem d_L_law_1430 : decode code 1430 = .ok (.iconst 3, 1) := by decide +kernel
theorem d_L_law_1431 : decode code 1431 = .ok (.iadd, 1) := by decide +kernel
theorem d_L_law_1432 : decode code 1432 = .ok (.iaload, 1) := by decide +kernel
theorem d_L_law_1433 : decode code 1433 = .ok (.invokevirtual 173, 3) := by decide +kernel
theorem d_L_law_1436 : decode code 1436 = .ok (.aload_n 2, 1) := by decide +kernel
theorem d_L_law_1437 : decode code 1437 = .ok (.aload_n 0, 1) := by decide +kernel
theorem d_L_law_1438 : decode code 1438 = .ok (.iload_n 3, 1) := by decide +kernel
theorem d_L_law_1439 : decode code 1439 = .ok (.iconst 1, 1) := by decide +kernel
theorem d_L_law_1440 : decode code 1440 = .ok (.iadd, 1) := by decide +kernel
theorem d_L_law_1441 : decode code 1441 = .ok (.iaload, 1) := by decide +kernel
theorem d_L_law_1442 : decode code 1442 = .ok (.aload_n 0, 1) := by decide +kernel
theorem d_L_law_1443 : decode code 1443 = .ok (.iload_n 3, 1) := by decide +kernel
theorem d_L_law_1444 : decode code 1444 = .ok (.iconst 2, 1) := by decide +kernel
theorem d_L_law_1445 : decode code 1445 = .ok (.iadd, 1) := by decide +kernel
theorem d_L_law_1446 : decode code 1446 = .ok (.iaload, 1) := by decide +kernel
theorem d_L_law_1447 : decode code 1447 = .ok (.aload_n 0, 1) := by decide +kernel
theorem d_L_law_1448 : decode code 1448 = .ok (.iload_n 3, 1) := by decide +kernel
theorem d_L_law_1449 : decode code 1449 = .ok (.iconst 3, 1) := by decide +kernel
theorem d_L_law_1450 : decode code 1450 = .ok (.iadd, 1) := by decide +kernel
theorem d_L_law_1451 : decode code 1451 = .ok (.iaload, 1) := by decide +kernel
theorem d_L_law_1452 : decode code 1452 = .ok (.invokevirtual 176, 3) := by decide +kernel
theorem d_L_law_1455 : decode code 1455 = .ok (.if_icmp .eq 522, 3) := by decide +kernel
theorem d_L_law_1460 : decode code 1460 = .ok (.aload_n 1, 1) := by decide +kernel
theorem d_L_law_1461 : decode code 1461 = .ok (.aload_n 0, 1) := by decide +kernel
theorem d_L_law_1462 : decode code 1462 = .ok (.iload_n 3, 1) := by decide +kernel
theorem d_L_law_1463 : decode code 1463 = .ok (.iconst 1, 1) := by decide +kernel
theorem d_L_law_1464 : decode code 1464 = .ok (.iadd, 1) := by decide +kernel
theorem d_L_law_1465 : decode code 1465 = .ok (.iaload, 1) := by decide +kernel
theorem d_L_law_1466 : decode code 1466 = .ok (.aload_n 0, 1) := by decide +kernel
theorem d_L_law_1467 : decode code 1467 = .ok (.iload_n 3, 1) := by decide +kernel
theorem d_L_law_1468 : decode code 1468 = .ok (.iconst 2, 1) := by decide +kernel
theorem d_L_law_1469 : decode code 1469 = .ok (.iadd, 1) := by decide +kernel
theorem d_L_law_1470 : decode code 1470 = .ok (.iaload, 1) := by decide +kernel
theorem d_L_law_1471 : decode code 1471 = .ok (.aload_n 0, 1) := by decide +kernel
theorem d_L_law_1472 : decode code 1472 = .ok (.iload_n 3, 1) := by decide +kernel
theorem d_L_law_1473 : decode code 1473 = .ok (.iconst 3, 1) := by decide +kernel
theorem d_L_law_1474 : decode code 1474 = .ok (.iadd, 1) := by decide +kernel
theorem d_L_law_1475 : decode code 1475 = .ok (.iaload, 1) := by decide +kernel
theorem d_L_law_1476 : decode code 1476 = .ok (.invokevirtual 177, 3) := by decide +kernel
theorem d_L_law_1479 : decode code 1479 = .ok (.aload_n 2, 1) := by decide +kernel
theorem d_L_law_1480 : decode code 1480 = .ok (.aload_n 0, 1) := by decide +kernel
theorem d_L_law_1481 : decode code 1481 = .ok (.iload_n 3, 1) := by decide +kernel
theorem d_L_law_1482 : decode code 1482 = .ok (.iconst 1, 1) := by decide +kernel
theorem d_L_law_1483 : decode code 1483 = .ok (.iadd, 1) := by decide +kernel
theorem d_L_law_1484 : decode code 1484 = .ok (.iaload, 1) := by decide +kernel
theorem d_L_law_1485 : decode code 1485 = .ok (.aload_n 0, 1) := by decide +kernel
theorem d_L_law_1486 : decode code 1486 = .ok (.iload_n 3, 1) := by decide +kernel
theorem d_L_law_1487 : decode code 1487 = .ok (.iconst 2, 1) := by decide +kernel
theorem d_L_law_1488 : decode code 1488 = .ok (.iadd, 1) := by decide +kernel
theorem d_L_law_1489 : decode code 1489 = .ok (.iaload, 1) := by decide +kernel
theorem d_L_law_1490 : decode code 1490 = .ok (.aload_n 0, 1) := by decide +kernel
theorem d_L_law_1491 : decode code 1491 = .ok (.iload_n 3, 1) := by decide +kernel
theorem d_L_law_1492 : decode code 1492 = .ok (.iconst 3, 1) := by decide +kernel
theorem d_L_law_1493 : decode code 1493 = .ok (.iadd, 1) := by decide +kernel
theorem d_L_law_1494 : decode code 1494 = .ok (.iaload, 1) := by decide +kernel
theorem d_L_law_1495 : decode code 1495 = .ok (.invokevirtual 180, 3) := by decide +kernel
theorem d_L_law_1498 : decode code 1498 = .ok (.if_icmp .eq 479, 3) := by decide +kernel
theorem d_L_law_1503 : decode code 1503 = .ok (.aload_n 1, 1) := by decide +kernel
theorem d_L_law_1504 : decode code 1504 = .ok (.aload_n 0, 1) := by decide +kernel
theorem d_L_law_1505 : decode code 1505 = .ok (.iload_n 3, 1) := by decide +kernel
theorem d_L_law_1506 : decode code 1506 = .ok (.iconst 1, 1) := by decide +kernel
theorem d_L_law_1507 : decode code 1507 = .ok (.iadd, 1) := by decide +kernel
theorem d_L_law_1508 : decode code 1508 = .ok (.iaload, 1) := by decide +kernel
theorem d_L_law_1509 : decode code 1509 = .ok (.invokevirtual 181, 3) := by decide +kernel
theorem d_L_law_1512 : decode code 1512 = .ok (.aload_n 2, 1) := by decide +kernel
theorem d_L_law_1513 : decode code 1513 = .ok (.aload_n 0, 1) := by decide +kernel
theorem d_L_law_1514 : decode code 1514 = .ok (.iload_n 3, 1) := by decide +kernel
theorem d_L_law_1515 : decode code 1515 = .ok (.iconst 1, 1) := by decide +kernel
theorem d_L_law_1516 : decode code 1516 = .ok (.iadd, 1) := by decide +kernel
theorem d_L_law_1517 : decode code 1517 = .ok (.iaload, 1) := by decide +kernel
theorem d_L_law_1518 : decode code 1518 = .ok (.invokevirtual 184, 3) := by decide +kernel
theorem d_L_law_1521 : decode code 1521 = .ok (.if_icmp .eq 456, 3) := by decide +kernel
theorem d_L_law_1526 : decode code 1526 = .ok (.aload_n 1, 1) := by decide +kernel
theorem d_L_law_1527 : decode code 1527 = .ok (.invokevirtual 185, 3) := by decide +kernel
theorem d_L_law_1530 : decode code 1530 = .ok (.aload_n 2, 1) := by decide +kernel
theorem d_L_law_1531 : decode code 1531 = .ok (.invokevirtual 188, 3) := by decide +kernel
theorem d_L_law_1534 : decode code 1534 = .ok (.if_icmp .eq 443, 3) := by decide +kernel
theorem d_L_law_1539 : decode code 1539 = .ok (.aload_n 1, 1) := by decide +kernel
theorem d_L_law_1540 : decode code 1540 = .ok (.aload_n 0, 1) := by decide +kernel
theorem d_L_law_1541 : decode code 1541 = .ok (.iload_n 3, 1) := by decide +kernel
theorem d_L_law_1542 : decode code 1542 = .ok (.iconst 1, 1) := by decide +kernel
theorem d_L_law_1543 : decode code 1543 = .ok (.iadd, 1) := by decide +kernel
theorem d_L_law_1544 : decode code 1544 = .ok (.iaload, 1) := by decide +kernel
theorem d_L_law_1545 : decode code 1545 = .ok (.invokevirtual 189, 3) := by decide +kernel
theorem d_L_law_1548 : decode code 1548 = .ok (.aload_n 2, 1) := by decide +kernel
theorem d_L_law_1549 : decode code 1549 = .ok (.aload_n 0, 1) := by decide +kernel
theorem d_L_law_1550 : decode code 1550 = .ok (.iload_n 3, 1) := by decide +kernel
theorem d_L_law_1551 : decode code 1551 = .ok (.iconst 1, 1) := by decide +kernel
theorem d_L_law_1552 : decode code 1552 = .ok (.iadd, 1) := by decide +kernel
theorem d_L_law_1553 : decode code 1553 = .ok (.iaload, 1) := by decide +kernel
theorem d_L_law_1554 : decode code 1554 = .ok (.invokevirtual 192, 3) := by decide +kernel
theorem d_L_law_1557 : decode code 1557 = .ok (.if_icmp .eq 420, 3) := by decide +kernel
theorem d_L_law_1562 : decode code 1562 = .ok (.aload_n 1, 1) := by decide +kernel
theorem d_L_law_1563 : decode code 1563 = .ok (.aload_n 0, 1) := by decide +kernel
theorem d_L_law_1564 : decode code 1564 = .ok (.iload_n 3, 1) := by decide +kernel
theorem d_L_law_1565 : decode code 1565 = .ok (.iconst 1, 1) := by decide +kernel
theorem d_L_law_1566 : decode code 1566 = .ok (.iadd, 1) := by decide +kernel
theorem d_L_law_1567 : decode code 1567 = .ok (.iaload, 1) := by decide +kernel
theorem d_L_law_1568 : decode code 1568 = .ok (.invokevirtual 193, 3) := by decide +kernel
theorem d_L_law_1571 : decode code 1571 = .ok (.aload_n 2, 1) := by decide +kernel
theorem d_L_law_1572 : decode code 1572 = .ok (.aload_n 0, 1) := by decide +kernel
theorem d_L_law_1573 : decode code 1573 = .ok (.iload_n 3, 1) := by decide +kernel
theorem d_L_law_1574 : decode code 1574 = .ok (.iconst 1, 1) := by decide +kernel
theorem d_L_law_1575 : decode code 1575 = .ok (.iadd, 1) := by decide +kernel
theorem d_L_law_1576 : decode code 1576 = .ok (.iaload, 1) := by decide +kernel
theorem d_L_law_1577 : decode code 1577 = .ok (.invokevirtual 196, 3) := by decide +kernel
theorem d_L_law_1580 : decode code 1580 = .ok (.if_icmp .eq 397, 3) := by decide +kernel
theorem d_L_law_1585 : decode code 1585 = .ok (.aload_n 1, 1) := by decide +kernel
theorem d_L_law_1586 : decode code 1586 = .ok (.aload_n 0, 1) := by decide +kernel
theorem d_L_law_1587 : decode code 1587 = .ok (.iload_n 3, 1) := by decide +kernel
theorem d_L_law_1588 : decode code 1588 = .ok (.iconst 1, 1) := by decide +kernel
theorem d_L_law_1589 : decode code 1589 = .ok (.iadd, 1) := by decide +kernel
theorem d_L_law_1590 : decode code 1590 = .ok (.iaload, 1) := by decide +kernel
theorem d_L_law_1591 : decode code 1591 = .ok (.invokevirtual 197, 3) := by decide +kernel
theorem d_L_law_1594 : decode code 1594 = .ok (.aload_n 2, 1) := by decide +kernel
theorem d_L_law_1595 : decode code 1595 = .ok (.aload_n 0, 1) := by decide +kernel
theorem d_L_law_1596 : decode code 1596 = .ok (.iload_n 3, 1) := by decide +kernel
theorem d_L_law_1597 : decode code 1597 = .ok (.iconst 1, 1) := by decide +kernel
theorem d_L_law_1598 : decode code 1598 = .ok (.iadd, 1) := by decide +kernel
theorem d_L_law_1599 : decode code 1599 = .ok (.iaload, 1) := by decide +kernel
theorem d_L_law_1600 : decode code 1600 = .ok (.invokevirtual 200, 3) := by decide +kernel
theorem d_L_law_1603 : decode code 1603 = .ok (.if_icmp .eq 374, 3) := by decide +kernel
theorem d_L_law_1608 : decode code 1608 = .ok (.aload_n 1, 1) := by decide +kernel
theorem d_L_law_1609 : decode code 1609 = .ok (.aload_n 0, 1) := by decide +kernel
theorem d_L_law_1610 : decode code 1610 = .ok (.iload_n 3, 1) := by decide +kernel
theorem d_L_law_1611 : decode code 1611 = .ok (.iconst 1, 1) := by decide +kernel
theorem d_L_law_1612 : decode code 1612 = .ok (.iadd, 1) := by decide +kernel
theorem d_L_law_1613 : decode code 1613 = .ok (.iaload, 1) := by decide +kernel
theorem d_L_law_1614 : decode code 1614 = .ok (.aload_n 0, 1) := by decide +kernel
theorem d_L_law_1615 : decode code 1615 = .ok (.iload_n 3, 1) := by decide +kernel
theorem d_L_law_1616 : decode code 1616 = .ok (.iconst 2, 1) := by decide +kernel
theorem d_L_law_1617 : decode code 1617 = .ok (.iadd, 1) := by decide +kernel
theorem d_L_law_1618 : decode code 1618 = .ok (.iaload, 1) := by decide +kernel
theorem d_L_law_1619 : decode code 1619 = .ok (.invokevirtual 201, 3) := by decide +kernel
theorem d_L_law_1622 : decode code 1622 = .ok (.aload_n 2, 1) := by decide +kernel
theorem d_L_law_1623 : decode code 1623 = .ok (.aload_n 0, 1) := by decide +kernel
theorem d_L_law_1624 : decode code 1624 = .ok (.iload_n 3, 1) := by decide +kernel
theorem d_L_law_1625 : decode code 1625 = .ok (.iconst 1, 1) := by decide +kernel
theorem d_L_law_1626 : decode code 1626 = .ok (.iadd, 1) := by decide +kernel
theorem d_L_law_1627 : decode code 1627 = .ok (.iaload, 1) := by decide +kernel
theorem d_L_law_1628 : decode code 1628 = .ok (.aload_n 0, 1) := by decide +kernel
theorem d_L_law_1629 : decode code 1629 = .ok (.iload_n 3, 1) := by decide +kernel
theorem d_L_law_1630 : decode code 1630 = .ok (.iconst 2, 1) := by decide +kernel
theorem d_L_law_1631 : decode code 1631 = .ok (.iadd, 1) := by decide +kernel
theorem d_L_law_1632 : decode code 1632 = .ok (.iaload, 1) := by decide +kernel
theorem d_L_law_1633 : decode code 1633 = .ok (.invokevirtual 204, 3) := by decide +kernel
theorem d_L_law_1636 : decode code 1636 = .ok (.if_icmp .eq 341, 3) := by decide +kernel
theorem d_L_law_1641 : decode code 1641 = .ok (.aload_n 1, 1) := by decide +kernel
theorem d_L_law_1642 : decode code 1642 = .ok (.aload_n 0, 1) := by decide +kernel
theorem d_L_law_1643 : decode code 1643 = .ok (.iload_n 3, 1) := by decide +kernel
theorem d_L_law_1644 : decode code 1644 = .ok (.iconst 1, 1) := by decide +kernel
theorem d_L_law_1645 : decode code 1645 = .ok (.iadd, 1) := by decide +kernel
theorem d_L_law_1646 : decode code 1646 = .ok (.iaload, 1) := by decide +kernel
theorem d_L_law_1647 : decode code 1647 = .ok (.invokevirtual 205, 3) := by decide +kernel
theorem d_L_law_1650 : decode code 1650 = .ok (.aload_n 2, 1) := by decide +kernel
theorem d_L_law_1651 : decode code 1651 = .ok (.aload_n 0, 1) := by decide +kernel
theorem d_L_law_1652 : decode code 1652 = .ok (.iload_n 3, 1) := by decide +kernel
theorem d_L_law_1653 : decode code 1653 = .ok (.iconst 1, 1) := by decide +kernel
theorem d_L_law_1654 : decode code 1654 = .ok (.iadd, 1) := by decide +kernel
theorem d_L_law_1655 : decode code 1655 = .ok (.iaload, 1) := by decide +kernel
theorem d_L_law_1656 : decode code 1656 = .ok (.invokevirtual 208, 3) := by decide +kernel
theorem d_L_law_1659 : decode code 1659 = .ok (.if_icmp .eq 318, 3) := by decide +kernel
theorem d_L_law_1664 : decode code 1664 = .ok (.aload_n 1, 1) := by decide +kernel
theorem d_L_law_1665 : decode code 1665 = .ok (.aload_n 0, 1) := by decide +kernel
theorem d_L_law_1666 : decode code 1666 = .ok (.iload_n 3, 1) := by decide +kernel
theorem d_L_law_1667 : decode code 1667 = .ok (.iconst 1, 1) := by decide +kernel
theorem d_L_law_1668 : decode code 1668 = .ok (.iadd, 1) := by decide +kernel
theorem d_L_law_1669 : decode code 1669 = .ok (.iaload, 1) := by decide +kernel
theorem d_L_law_1670 : decode code 1670 = .ok (.aload_n 0, 1) := by decide +kernel
theorem d_L_law_1671 : decode code 1671 = .ok (.iload_n 3, 1) := by decide +kernel
theorem d_L_law_1672 : decode code 1672 = .ok (.iconst 2, 1) := by decide +kernel
theorem d_L_law_1673 : decode code 1673 = .ok (.iadd, 1) := by decide +kernel
theorem d_L_law_1674 : decode code 1674 = .ok (.iaload, 1) := by decide +kernel
theorem d_L_law_1675 : decode code 1675 = .ok (.invokevirtual 209, 3) := by decide +kernel
theorem d_L_law_1678 : decode code 1678 = .ok (.aload_n 2, 1) := by decide +kernel
theorem d_L_law_1679 : decode code 1679 = .ok (.aload_n 0, 1) := by decide +kernel
theorem d_L_law_1680 : decode code 1680 = .ok (.iload_n 3, 1) := by decide +kernel
theorem d_L_law_1681 : decode code 1681 = .ok (.iconst 1, 1) := by decide +kernel
theorem d_L_law_1682 : decode code 1682 = .ok (.iadd, 1) := by decide +kernel
theorem d_L_law_1683 : decode code 1683 = .ok (.iaload, 1) := by decide +kernel
theorem d_L_law_1684 : decode code 1684 = .ok (.aload_n 0, 1) := by decide +kernel
theorem d_L_law_1685 : decode code 1685 = .ok (.iload_n 3, 1) := by decide +kernel
theorem d_L_law_1686 : decode code 1686 = .ok (.iconst 2, 1) := by decide +kernel
theorem d_L_law_1687 : decode code 1687 = .ok (.iadd, 1) := by decide +kernel
theorem d_L_law_1688 : decode code 1688 = .ok (.iaload, 1) := by decide +kernel
theorem d_L_law_1689 : decode code 1689 = .ok (.invokevirtual 212, 3) := by decide +kernel
theorem d_L_law_1692 : decode code 1692 = .ok (.if_icmp .eq 285, 3) := by decide +kernel
theorem d_L_law_1697 : decode code 1697 = .ok (.aload_n 1, 1) := by decide +kernel
theorem d_L_law_1698 : decode code 1698 = .ok (.aload_n 0, 1) := by decide +kernel
theorem d_L_law_1699 : decode code 1699 = .ok (.iload_n 3, 1) := by decide +kernel
theorem d_L_law_1700 : decode code 1700 = .ok (.iconst 1, 1) := by decide +kernel
theorem d_L_law_1701 : decode code 1701 = .ok (.iadd, 1) := by decide +kernel
theorem d_L_law_1702 : decode code 1702 = .ok (.iaload, 1) := by decide +kernel
theorem d_L_law_1703 : decode code 1703 = .ok (.aload_n 0, 1) := by decide +kernel
theorem d_L_law_1704 : decode code 1704 = .ok (.iload_n 3, 1) := by decide +kernel
theorem d_L_law_1705 : decode code 1705 = .ok (.iconst 2, 1) := by decide +kernel
theorem d_L_law_1706 : decode code 1706 = .ok (.iadd, 1) := by decide +kernel
theorem d_L_law_1707 : decode code 1707 = .ok (.iaload, 1) := by decide +kernel
theorem d_L_law_1708 : decode code 1708 = .ok (.invokevirtual 213, 3) := by decide +kernel
theorem d_L_law_1711 : decode code 1711 = .ok (.aload_n 2, 1) := by decide +kernel
theorem d_L_law_1712 : decode code 1712 = .ok (.aload_n 0, 1) := by decide +kernel
theorem d_L_law_1713 : decode code 1713 = .ok (.iload_n 3, 1) := by decide +kernel
theorem d_L_law_1714 : decode code 1714 = .ok (.iconst 1, 1) := by decide +kernel
theorem d_L_law_1715 : decode code 1715 = .ok (.iadd, 1) := by decide +kernel
theorem d_L_law_1716 : decode code 1716 = .ok (.iaload, 1) := by decide +kernel
theorem d_L_law_1717 : decode code 1717 = .ok (.aload_n 0, 1) := by decide +kernel
theorem d_L_law_1718 : decode code 1718 = .ok (.iload_n 3, 1) := by decide +kernel
theorem d_L_law_1719 : decode code 1719 = .ok (.iconst 2, 1) := by decide +kernel
theorem d_L_law_1720 : decode code 1720 = .ok (.iadd, 1) := by decide +kernel
theorem d_L_law_1721 : decode code 1721 = .ok (.iaload, 1) := by decide +kernel
theorem d_L_law_1722 : decode code 1722 = .ok (.invokevirtual 216, 3) := by decide +kernel
theorem d_L_law_1725 : decode code 1725 = .ok (.if_icmp .eq 252, 3) := by decide +kernel
theorem d_L_law_1730 : decode code 1730 = .ok (.aload_n 1, 1) := by decide +kernel
theorem d_L_law_1731 : decode code 1731 = .ok (.aload_n 0, 1) := by decide +kernel
theorem d_L_law_1732 : decode code 1732 = .ok (.iload_n 3, 1) := by decide +kernel
theorem d_L_law_1733 : decode code 1733 = .ok (.iconst 1, 1) := by decide +kernel
theorem d_L_law_1734 : decode code 1734 = .ok (.iadd, 1) := by decide +kernel
theorem d_L_law_1735 : decode code 1735 = .ok (.iaload, 1) := by decide +kernel
theorem d_L_law_1736 : decode code 1736 = .ok (.aload_n 0, 1) := by decide +kernel
theorem d_L_law_1737 : decode code 1737 = .ok (.iload_n 3, 1) := by decide +kernel
theorem d_L_law_1738 : decode code 1738 = .ok (.iconst 2, 1) := by decide +kernel
theorem d_L_law_1739 : decode code 1739 = .ok (.iadd, 1) := by decide +kernel
theorem d_L_law_1740 : decode code 1740 = .ok (.iaload, 1) := by decide +kernel
theorem d_L_law_1741 : decode code 1741 = .ok (.aload_n 0, 1) := by decide +kernel
theorem d_L_law_1742 : decode code 1742 = .ok (.iload_n 3, 1) := by decide +kernel
theorem d_L_law_1743 : decode code 1743 = .ok (.iconst 3, 1) := by decide +kernel
theorem d_L_law_1744 : decode code 1744 = .ok (.iadd, 1) := by decide +kernel
theorem d_L_law_1745 : decode code 1745 = .ok (.iaload, 1) := by decide +kernel
theorem d_L_law_1746 : decode code 1746 = .ok (.invokevirtual 217, 3) := by decide +kernel
theorem d_L_law_1749 : decode code 1749 = .ok (.aload_n 2, 1) := by decide +kernel
theorem d_L_law_1750 : decode code 1750 = .ok (.aload_n 0, 1) := by decide +kernel
theorem d_L_law_1751 : decode code 1751 = .ok (.iload_n 3, 1) := by decide +kernel
theorem d_L_law_1752 : decode code 1752 = .ok (.iconst 1, 1) := by decide +kernel
theorem d_L_law_1753 : decode code 1753 = .ok (.iadd, 1) := by decide +kernel
theorem d_L_law_1754 : decode code 1754 = .ok (.iaload, 1) := by decide +kernel
theorem d_L_law_1755 : decode code 1755 = .ok (.aload_n 0, 1) := by decide +kernel
theorem d_L_law_1756 : decode code 1756 = .ok (.iload_n 3, 1) := by decide +kernel
theorem d_L_law_1757 : decode code 1757 = .ok (.iconst 2, 1) := by decide +kernel
theorem d_L_law_1758 : decode code 1758 = .ok (.iadd, 1) := by decide +kernel
theorem d_L_law_1759 : decode code 1759 = .ok (.iaload, 1) := by decide +kernel
theorem d_L_law_1760 : decode code 1760 = .ok (.aload_n 0, 1) := by decide +kernel
theorem d_L_law_1761 : decode code 1761 = .ok (.iload_n 3, 1) := by decide +kernel
theorem d_L_law_1762 : decode code 1762 = .ok (.iconst 3, 1) := by decide +kernel
theorem d_L_law_1763 : decode code 1763 = .ok (.iadd, 1) := by decide +kernel
theorem d_L_law_1764 : decode code 1764 = .ok (.iaload, 1) := by decide +kernel
theorem d_L_law_1765 : decode code 1765 = .ok (.invokevirtual 220, 3) := by decide +kernel
theorem d_L_law_1768 : decode code 1768 = .ok (.if_icmp .eq 209, 3) := by decide +kernel
theorem d_L_law_1773 : decode code 1773 = .ok (.aload_n 1, 1) := by decide +kernel
theorem d_L_law_1774 : decode code 1774 = .ok (.aload_n 0, 1) := by decide +kernel
theorem d_L_law_1775 : decode code 1775 = .ok (.iload_n 3, 1) := by decide +kernel
theorem d_L_law_1776 : decode code 1776 = .ok (.iconst 1, 1) := by decide +kernel
theorem d_L_law_1777 : decode code 1777 = .ok (.iadd, 1) := by decide +kernel
theorem d_L_law_1778 : decode code 1778 = .ok (.iaload, 1) := by decide +kernel
theorem d_L_law_1779 : decode code 1779 = .ok (.aload_n 0, 1) := by decide +kernel
theorem d_L_law_1780 : decode code 1780 = .ok (.iload_n 3, 1) := by decide +kernel
theorem d_L_law_1781 : decode code 1781 = .ok (.iconst 2, 1) := by decide +kernel
theorem d_L_law_1782 : decode code 1782 = .ok (.iadd, 1) := by decide +kernel
theorem d_L_law_1783 : decode code 1783 = .ok (.iaload, 1) := by decide +kernel
theorem d_L_law_1784 : decode code 1784 = .ok (.aload_n 0, 1) := by decide +kernel
theorem d_L_law_1785 : decode code 1785 = .ok (.iload_n 3, 1) := by decide +kernel
theorem d_L_law_1786 : decode code 1786 = .ok (.iconst 3, 1) := by decide +kernel
theorem d_L_law_1787 : decode code 1787 = .ok (.iadd, 1) := by decide +kernel
theorem d_L_law_1788 : decode code 1788 = .ok (.iaload, 1) := by decide +kernel
theorem d_L_law_1789 : decode code 1789 = .ok (.invokevirtual 221, 3) := by decide +kernel
theorem d_L_law_1792 : decode code 1792 = .ok (.aload_n 2, 1) := by decide +kernel
theorem d_L_law_1793 : decode code 1793 = .ok (.aload_n 0, 1) := by decide +kernel
theorem d_L_law_1794 : decode code 1794 = .ok (.iload_n 3, 1) := by decide +kernel
theorem d_L_law_1795 : decode code 1795 = .ok (.iconst 1, 1) := by decide +kernel
theorem d_L_law_1796 : decode code 1796 = .ok (.iadd, 1) := by decide +kernel
theorem d_L_law_1797 : decode code 1797 = .ok (.iaload, 1) := by decide +kernel
theorem d_L_law_1798 : decode code 1798 = .ok (.aload_n 0, 1) := by decide +kernel
theorem d_L_law_1799 : decode code 1799 = .ok (.iload_n 3, 1) := by decide +kernel
theorem d_L_law_1800 : decode code 1800 = .ok (.iconst 2, 1) := by decide +kernel
theorem d_L_law_1801 : decode code 1801 = .ok (.iadd, 1) := by decide +kernel
theorem d_L_law_1802 : decode code 1802 = .ok (.iaload, 1) := by decide +kernel
theorem d_L_law_1803 : decode code 1803 = .ok (.aload_n 0, 1) := by decide +kernel
theorem d_L_law_1804 : decode code 1804 = .ok (.iload_n 3, 1) := by decide +kernel
theorem d_L_law_1805 : decode code 1805 = .ok (.iconst 3, 1) := by decide +kernel
theorem d_L_law_1806 : decode code 1806 = .ok (.iadd, 1) := by decide +kernel
theorem d_L_law_1807 : decode code 1807 = .ok (.iaload, 1) := by decide +kernel
theorem d_L_law_1808 : decode code 1808 = .ok (.invokevirtual 224, 3) := by decide +kernel
theorem d_L_law_1811 : decode code 1811 = .ok (.if_icmp .eq 166, 3) := by decide +kernel
theorem d_L_law_1816 : decode code 1816 = .ok (.aload_n 1, 1) := by decide +kernel
theorem d_L_law_1817 : decode code 1817 = .ok (.aload_n 0, 1) := by decide +kernel
theorem d_L_law_1818 : decode code 1818 = .ok (.iload_n 3, 1) := by decide +kernel
theorem d_L_law_1819 : decode code 1819 = .ok (.iconst 1, 1) := by decide +kernel
theorem d_L_law_1820 : decode code 1820 = .ok (.iadd, 1) := by decide +kernel
theorem d_L_law_1821 : decode code 1821 = .ok (.iaload, 1) := by decide +kernel
theorem d_L_law_1822 : decode code 1822 = .ok (.aload_n 0, 1) := by decide +kernel
theorem d_L_law_1823 : decode code 1823 = .ok (.iload_n 3, 1) := by decide +kernel
theorem d_L_law_1824 : decode code 1824 = .ok (.iconst 2, 1) := by decide +kernel
theorem d_L_law_1825 : decode code 1825 = .ok (.iadd, 1) := by decide +kernel
theorem d_L_law_1826 : decode code 1826 = .ok (.iaload, 1) := by decide +kernel
theorem d_L_law_1827 : decode code 1827 = .ok (.invokevirtual 225, 3) := by decide +kernel
theorem d_L_law_1830 : decode code 1830 = .ok (.aload_n 2, 1) := by decide +kernel
theorem d_L_law_1831 : decode code 1831 = .ok (.aload_n 0, 1) := by decide +kernel
theorem d_L_law_1832 : decode code 1832 = .ok (.iload_n 3, 1) := by decide +kernel
theorem d_L_law_1833 : decode code 1833 = .ok (.iconst 1, 1) := by decide +kernel
theorem d_L_law_1834 : decode code 1834 = .ok (.iadd, 1) := by decide +kernel
theorem d_L_law_1835 : decode code 1835 = .ok (.iaload, 1) := by decide +kernel
theorem d_L_law_1836 : decode code 1836 = .ok (.aload_n 0, 1) := by decide +kernel
theorem d_L_law_1837 : decode code 1837 = .ok (.iload_n 3, 1) := by decide +kernel
theorem d_L_law_1838 : decode code 1838 = .ok (.iconst 2, 1) := by decide +kernel
theorem d_L_law_1839 : decode code 1839 = .ok (.iadd, 1) := by decide +kernel
theorem d_L_law_1840 : decode code 1840 = .ok (.iaload, 1) := by decide +kernel
theorem d_L_law_1841 : decode code 1841 = .ok (.invokevirtual 228, 3) := by decide +kernel
theorem d_L_law_1844 : decode code 1844 = .ok (.if_icmp .eq 133, 3) := by decide +kernel
theorem d_L_law_1849 : decode code 1849 = .ok (.aload_n 1, 1) := by decide +kernel
theorem d_L_law_1850 : decode code 1850 = .ok (.aload_n 0, 1) := by decide +kernel
theorem d_L_law_1851 : decode code 1851 = .ok (.iload_n 3, 1) := by decide +kernel
theorem d_L_law_1852 : decode code 1852 = .ok (.iconst 1, 1) := by decide +kernel
theorem d_L_law_1853 : decode code 1853 = .ok (.iadd, 1) := by decide +kernel
theorem d_L_law_1854 : decode code 1854 = .ok (.iaload, 1) := by decide +kernel
theorem d_L_law_1855 : decode code 1855 = .ok (.invokevirtual 229, 3) := by decide +kernel
theorem d_L_law_1858 : decode code 1858 = .ok (.aload_n 2, 1) := by decide +kernel
theorem d_L_law_1859 : decode code 1859 = .ok (.aload_n 0, 1) := by decide +kernel
theorem d_L_law_1860 : decode code 1860 = .ok (.iload_n 3, 1) := by decide +kernel
theorem d_L_law_1861 : decode code 1861 = .ok (.iconst 1, 1) := by decide +kernel
theorem d_L_law_1862 : decode code 1862 = .ok (.iadd, 1) := by decide +kernel
theorem d_L_law_1863 : decode code 1863 = .ok (.iaload, 1) := by decide +kernel
theorem d_L_law_1864 : decode code 1864 = .ok (.invokevirtual 232, 3) := by decide +kernel
theorem d_L_law_1867 : decode code 1867 = .ok (.if_icmp .eq 110, 3) := by decide +kernel
theorem d_L_law_1872 : decode code 1872 = .ok (.aload_n 1, 1) := by decide +kernel
theorem d_L_law_1873 : decode code 1873 = .ok (.aload_n 0, 1) := by decide +kernel
theorem d_L_law_1874 : decode code 1874 = .ok (.iload_n 3, 1) := by decide +kernel
theorem d_L_law_1875 : decode code 1875 = .ok (.iconst 1, 1) := by decide +kernel
theorem d_L_law_1876 : decode code 1876 = .ok (.iadd, 1) := by decide +kernel
theorem d_L_law_1877 : decode code 1877 = .ok (.iaload, 1) := by decide +kernel
theorem d_L_law_1878 : decode code 1878 = .ok (.invokevirtual 233, 3) := by decide +kernel
theorem d_L_law_1881 : decode code 1881 = .ok (.aload_n 2, 1) := by decide +kernel
theorem d_L_law_1882 : decode code 1882 = .ok (.aload_n 0, 1) := by decide +kernel
theorem d_L_law_1883 : decode code 1883 = .ok (.iload_n 3, 1) := by decide +kernel
theorem d_L_law_1884 : decode code 1884 = .ok (.iconst 1, 1) := by decide +kernel
theorem d_L_law_1885 : decode code 1885 = .ok (.iadd, 1) := by decide +kernel
theorem d_L_law_1886 : decode code 1886 = .ok (.iaload, 1) := by decide +kernel
theorem d_L_law_1887 : decode code 1887 = .ok (.invokevirtual 236, 3) := by decide +kernel
theorem d_L_law_1890 : decode code 1890 = .ok (.if_icmp .eq 87, 3) := by decide +kernel
theorem d_L_law_1895 : decode code 1895 = .ok (.aload_n 1, 1) := by decide +kernel
theorem d_L_law_1896 : decode code 1896 = .ok (.aload_n 0, 1) := by decide +kernel
theorem d_L_law_1897 : decode code 1897 = .ok (.iload_n 3, 1) := by decide +kernel
theorem d_L_law_1898 : decode code 1898 = .ok (.iconst 1, 1) := by decide +kernel
theorem d_L_law_1899 : decode code 1899 = .ok (.iadd, 1) := by decide +kernel
theorem d_L_law_1900 : decode code 1900 = .ok (.iaload, 1) := by decide +kernel
theorem d_L_law_1901 : decode code 1901 = .ok (.invokevirtual 237, 3) := by decide +kernel
theorem d_L_law_1904 : decode code 1904 = .ok (.aload_n 2, 1) := by decide +kernel
theorem d_L_law_1905 : decode code 1905 = .ok (.aload_n 0, 1) := by decide +kernel
theorem d_L_law_1906 : decode code 1906 = .ok (.iload_n 3, 1) := by decide +kernel
theorem d_L_law_1907 : decode code 1907 = .ok (.iconst 1, 1) := by decide +kernel
theorem d_L_law_1908 : decode code 1908 = .ok (.iadd, 1) := by decide +kernel
theorem d_L_law_1909 : decode code 1909 = .ok (.iaload, 1) := by decide +kernel
theorem d_L_law_1910 : decode code 1910 = .ok (.invokevirtual 240, 3) := by decide +kernel
theorem d_L_law_1913 : decode code 1913 = .ok (.if_icmp .eq 64, 3) := by decide +kernel
theorem d_L_law_1918 : decode code 1918 = .ok (.aload_n 1, 1) := by decide +kernel
theorem d_L_law_1919 : decode code 1919 = .ok (.aload_n 0, 1) := by decide +kernel
theorem d_L_law_1920 : decode code 1920 = .ok (.iload_n 3, 1) := by decide +kernel
theorem d_L_law_1921 : decode code 1921 = .ok (.iconst 1, 1) := by decide +kernel
theorem d_L_law_1922 : decode code 1922 = .ok (.iadd, 1) := by decide +kernel
theorem d_L_law_1923 : decode code 1923 = .ok (.iaload, 1) := by decide +kernel
theorem d_L_law_1924 : decode code 1924 = .ok (.aload_n 0, 1) := by decide +kernel
theorem d_L_law_1925 : decode code 1925 = .ok (.iload_n 3, 1) := by decide +kernel
theorem d_L_law_1926 : decode code 1926 = .ok (.iconst 2, 1) := by decide +kernel
theorem d_L_law_1927 : decode code 1927 = .ok (.iadd, 1) := by decide +kernel
theorem d_L_law_1928 : decode code 1928 = .ok (.iaload, 1) := by decide +kernel
theorem d_L_law_1929 : decode code 1929 = .ok (.invokevirtual 241, 3) := by decide +kernel
theorem d_L_law_1932 : decode code 1932 = .ok (.aload_n 2, 1) := by decide +kernel
theorem d_L_law_1933 : decode code 1933 = .ok (.aload_n 0, 1) := by decide +kernel
theorem d_L_law_1934 : decode code 1934 = .ok (.iload_n 3, 1) := by decide +kernel
theorem d_L_law_1935 : decode code 1935 = .ok (.iconst 1, 1) := by decide +kernel
theorem d_L_law_1936 : decode code 1936 = .ok (.iadd, 1) := by decide +kernel
theorem d_L_law_1937 : decode code 1937 = .ok (.iaload, 1) := by decide +kernel
theorem d_L_law_1938 : decode code 1938 = .ok (.aload_n 0, 1) := by decide +kernel
theorem d_L_law_1939 : decode code 1939 = .ok (.iload_n 3, 1) := by decide +kernel
theorem d_L_law_1940 : decode code 1940 = .ok (.iconst 2, 1) := by decide +kernel
theorem d_L_law_1941 : decode code 1941 = .ok (.iadd, 1) := by decide +kernel
theorem d_L_law_1942 : decode code 1942 = .ok (.iaload, 1) := by decide +kernel
theorem d_L_law_1943 : decode code 1943 = .ok (.invokevirtual 244, 3) := by decide +kernel
theorem d_L_law_1946 : decode code 1946 = .ok (.if_icmp .eq 31, 3) := by decide +kernel
theorem d_L_law_1951 : decode code 1951 = .ok (.aload_n 1, 1) := by decide +kernel
theorem d_L_law_1952 : decode code 1952 = .ok (.invokevirtual 245, 3) := by decide +kernel
theorem d_L_law_1955 : decode code 1955 = .ok (.aload_n 2, 1) := by decide +kernel
theorem d_L_law_1956 : decode code 1956 = .ok (.invokevirtual 248, 3) := by decide +kernel
theorem d_L_law_1959 : decode code 1959 = .ok (.if_icmp .eq 18, 3) := by decide +kernel
theorem d_L_law_1964 : decode code 1964 = .ok (.aload_n 1, 1) := by decide +kernel
theorem d_L_law_1965 : decode code 1965 = .ok (.invokevirtual 249, 3) := by decide +kernel
theorem d_L_law_1968 : decode code 1968 = .ok (.aload_n 2, 1) := by decide +kernel
theorem d_L_law_1969 : decode code 1969 = .ok (.invokevirtual 252, 3) := by decide +kernel
theorem d_L_law_1972 : decode code 1972 = .ok (.if_icmp .eq 5, 3) := by decide +kernel
theorem d_L_law_1977 : decode code 1977 = .ok (.iinc 3 6, 3) := by decide +kernel
theorem d_L_law_1980 : decode code 1980 = .ok (.goto (-1962), 3) := by decide +kernel
theorem d_L_law_1983 : decode code 1983 = .ok (.iconst 1, 1) := by decide +kernel
theorem d_L_law_1984 : decode code 1984 = .ok (.ireturn, 1) := by decide +kernel
def f_L_law_L1977 (n : Nat) (L : Nat) (X : Nat → Int) (r18 : Int → JMem → Option (Int × JMem)) (v3 : Int) (M : JMem) : Option (Int × JMem) := letv (v3 + 6) fun y1 => r18 y1 M
set_option maxRecDepth 8000 in
set_option maxHeartbeats 4000000 in
theorem t_L_law_L1977 {g : JG} {ad : Nat → Nat} (nm : String) (hs : jStr g ad) (hsc : ad 1005 = g.2.2.2.2.2.2.1) (n : Nat) (r18 : Int → JMem → Option (Int × JMem)) (hr18 : ∀ (v3 : Int) (M : JMem), jL g nm ad 18 [some (.ref 1005), some (.ref 0), some (.ref 167), some (ji v3)] [] M (r18 v3 M)) (v3 : Int) (M : JMem) : jL g nm ad 1977 [some (.ref 1005), some (.ref 0), some (.ref 167), some (ji v3)] [] M (f_L_law_L1977 n g.2.2.2.2.2.2.2.1 (fun j => (g.2.2.2.2.2.2.2.2 j).toInt) r18 v3 M) := by
  unfold f_L_law_L1977
  refine jo_iinc 3 d_L_law_1977 rfl (Nat.le_of_ble_eq_true rfl) (fun y1 => ?_)
  refine jo_goto 18 d_L_law_1980 (by decide) ?_
  exact jO.sub (hr18 y1 M) (And.intro rfl (And.intro rfl (And.intro rfl (And.intro rfl True.intro))))
def f_L_law_L913 (n : Nat) (L : Nat) (X : Nat → Int) (r18 : Int → JMem → Option (Int × JMem)) (v3 w0 w2 w3 w4 : Int) (M : JMem) : Option (Int × JMem) := bnd (f_X12_ticket n w2 w3 w4 M) fun r1 M2 => if jw w0 = jw r1 then (f_L_law_L1977 n L X r18 v3 M2) else (none)
set_option maxRecDepth 8000 in
set_option maxHeartbeats 4000000 in
theorem t_L_law_L913 {g : JG} {ad : Nat → Nat} (nm : String) (hs : jStr g ad) (hsc : ad 1005 = g.2.2.2.2.2.2.1) (n : Nat) (r18 : Int → JMem → Option (Int × JMem)) (hr18 : ∀ (v3 : Int) (M : JMem), jL g nm ad 18 [some (.ref 1005), some (.ref 0), some (.ref 167), some (ji v3)] [] M (r18 v3 M)) (v3 w0 w2 w3 w4 : Int) (M : JMem) : jL g nm ad 913 [some (.ref 1005), some (.ref 0), some (.ref 167), some (ji v3)] [ji w4, ji w3, ji w2, .ref 167, ji w0] M (f_L_law_L913 n g.2.2.2.2.2.2.2.1 (fun j => (g.2.2.2.2.2.2.2.2 j).toInt) r18 v3 w0 w2 w3 w4 M) := by
  unfold f_L_law_L913
  refine jo_callV (st := [ji w0]) (m_X12_ticket hs n w2 w3 w4 M) ok_X12_ticket (And.intro (Nat.le_of_ble_eq_true rfl) (Nat.le_of_ble_eq_true rfl)) lm_L_104 in_X12_ticket se_X12_ticket rfl kc_167 rfl rfl (And.intro (Nat.le_of_ble_eq_true rfl) (Nat.le_of_ble_eq_true rfl)) rfl (Nat.le_of_ble_eq_true rfl) d_L_law_913 (fun r1 M2 => ?_)
  refine jo_icmp_eq 1977 d_L_law_916 (by decide) ?_ ?_
  · skip
    exact jO.sub (t_L_law_L1977 nm hs hsc n r18 hr18 v3 M2) (And.intro rfl (And.intro rfl (And.intro rfl (And.intro rfl True.intro))))
  · skip
    exact jO.none
def f_L_law_L886 (n : Nat) (L : Nat) (X : Nat → Int) (r18 : Int → JMem → Option (Int × JMem)) (v3 w1 w2 w3 : Int) (M : JMem) : Option (Int × JMem) := bnd (f_X11_ticket n w1 w2 w3 M) fun r1 M2 => chk (jin (v3 + 1) L) <| chk (jin (v3 + 2) L) <| chk (jin (v3 + 3) L) <| if jw (X (jw (v3 + 3)).toNat) = 0 then (f_L_law_L913 n L X r18 v3 r1 (X (jw (v3 + 1)).toNat) (X (jw (v3 + 2)).toNat) 0 M2) else (f_L_law_L913 n L X r18 v3 r1 (X (jw (v3 + 1)).toNat) (X (jw (v3 + 2)).toNat) 1 M2)
set_option maxRecDepth 8000 in
set_option maxHeartbeats 4000000 in
theorem t_L_law_L886 {g : JG} {ad : Nat → Nat} (nm : String) (hs : jStr g ad) (hsc : ad 1005 = g.2.2.2.2.2.2.1) (n : Nat) (r18 : Int → JMem → Option (Int × JMem)) (hr18 : ∀ (v3 : Int) (M : JMem), jL g nm ad 18 [some (.ref 1005), some (.ref 0), some (.ref 167), some (ji v3)] [] M (r18 v3 M)) (v3 w1 w2 w3 : Int) (M : JMem) : jL g nm ad 886 [some (.ref 1005), some (.ref 0), some (.ref 167), some (ji v3)] [ji w3, ji w2, ji w1, .ref 0] M (f_L_law_L886 n g.2.2.2.2.2.2.2.1 (fun j => (g.2.2.2.2.2.2.2.2 j).toInt) r18 v3 w1 w2 w3 M) := by
  unfold f_L_law_L886
  refine jo_callV (st := []) (m_X11_ticket hs n w1 w2 w3 M) ok_X11_ticket (And.intro (Nat.le_of_ble_eq_true rfl) (Nat.le_of_ble_eq_true rfl)) lm_L_100 in_X11_ticket se_X11_ticket rfl kc_0 rfl rfl (And.intro (Nat.le_of_ble_eq_true rfl) (Nat.le_of_ble_eq_true rfl)) rfl (Nat.le_of_ble_eq_true rfl) d_L_law_886 (fun r1 M2 => ?_)
  refine jo_aload 2 d_L_law_889 rfl rfl ?_
  refine jo_aload 0 d_L_law_890 rfl rfl ?_
  refine jo_iload 3 d_L_law_891 rfl rfl ?_
  refine jo_iconst 1 d_L_law_892 ?_
  refine jo_iadd d_L_law_893 ?_
  refine jo_sld hsc d_L_law_894 ?_
  refine jo_aload 0 d_L_law_895 rfl rfl ?_
  refine jo_iload 3 d_L_law_896 rfl rfl ?_
  refine jo_iconst 2 d_L_law_897 ?_
  refine jo_iadd d_L_law_898 ?_
  refine jo_sld hsc d_L_law_899 ?_
  refine jo_aload 0 d_L_law_900 rfl rfl ?_
  refine jo_iload 3 d_L_law_901 rfl rfl ?_
  refine jo_iconst 3 d_L_law_902 ?_
  refine jo_iadd d_L_law_903 ?_
  refine jo_sld hsc d_L_law_904 ?_
  refine jo_if_eq 912 d_L_law_905 (by decide) ?_ ?_
  · skip
    refine jo_iconst 0 d_L_law_912 ?_
    exact jO.sub (t_L_law_L913 nm hs hsc n r18 hr18 v3 r1 ((fun j => (g.2.2.2.2.2.2.2.2 j).toInt) (jw (v3 + 1)).toNat) ((fun j => (g.2.2.2.2.2.2.2.2 j).toInt) (jw (v3 + 2)).toNat) 0 M2) (And.intro rfl (And.intro rfl (And.intro rfl (And.intro rfl True.intro))))
  · skip
    refine jo_iconst 1 d_L_law_908 ?_
    refine jo_goto 913 d_L_law_909 (by decide) ?_
    exact jO.sub (t_L_law_L913 nm hs hsc n r18 hr18 v3 r1 ((fun j => (g.2.2.2.2.2.2.2.2 j).toInt) (jw (v3 + 1)).toNat) ((fun j => (g.2.2.2.2.2.2.2.2 j).toInt) (jw (v3 + 2)).toNat) 1 M2) (And.intro rfl (And.intro rfl (And.intro rfl (And.intro rfl True.intro))))
def f_L_law_L962 (n : Nat) (L : Nat) (X : Nat → Int) (r18 : Int → JMem → Option (Int × JMem)) (v3 w0 w2 w3 : Int) (M : JMem) : Option (Int × JMem) := bnd (f_X12_let n w2 w3 M) fun r1 M2 => if jw w0 = jw r1 then (f_L_law_L1977 n L X r18 v3 M2) else (none)
set_option maxRecDepth 8000 in
set_option maxHeartbeats 4000000 in
theorem t_L_law_L962 {g : JG} {ad : Nat → Nat} (nm : String) (hs : jStr g ad) (hsc : ad 1005 = g.2.2.2.2.2.2.1) (n : Nat) (r18 : Int → JMem → Option (Int × JMem)) (hr18 : ∀ (v3 : Int) (M : JMem), jL g nm ad 18 [some (.ref 1005), some (.ref 0), some (.ref 167), some (ji v3)] [] M (r18 v3 M)) (v3 w0 w2 w3 : Int) (M : JMem) : jL g nm ad 962 [some (.ref 1005), some (.ref 0), some (.ref 167), some (ji v3)] [ji w3, ji w2, .ref 167, ji w0] M (f_L_law_L962 n g.2.2.2.2.2.2.2.1 (fun j => (g.2.2.2.2.2.2.2.2 j).toInt) r18 v3 w0 w2 w3 M) := by
  unfold f_L_law_L962
  refine jo_callV (st := [ji w0]) (m_X12_let hs n w2 w3 M) ok_X12_let (And.intro (Nat.le_of_ble_eq_true rfl) (Nat.le_of_ble_eq_true rfl)) lm_L_109 in_X12_let se_X12_let rfl kc_167 rfl rfl (And.intro (Nat.le_of_ble_eq_true rfl) (Nat.le_of_ble_eq_true rfl)) rfl (Nat.le_of_ble_eq_true rfl) d_L_law_962 (fun r1 M2 => ?_)
  refine jo_icmp_eq 1977 d_L_law_965 (by decide) ?_ ?_
  · skip
    exact jO.sub (t_L_law_L1977 nm hs hsc n r18 hr18 v3 M2) (And.intro rfl (And.intro rfl (And.intro rfl (And.intro rfl True.intro))))
  · skip
    exact jO.none
def f_L_law_L940 (n : Nat) (L : Nat) (X : Nat → Int) (r18 : Int → JMem → Option (Int × JMem)) (v3 w1 w2 : Int) (M : JMem) : Option (Int × JMem) := bnd (f_X11_let n w1 w2 M) fun r1 M2 => chk (jin (v3 + 1) L) <| chk (jin (v3 + 2) L) <| if jw (X (jw (v3 + 2)).toNat) = 0 then (f_L_law_L962 n L X r18 v3 r1 (X (jw (v3 + 1)).toNat) 0 M2) else (f_L_law_L962 n L X r18 v3 r1 (X (jw (v3 + 1)).toNat) 1 M2)
set_option maxRecDepth 8000 in
set_option maxHeartbeats 4000000 in
theorem t_L_law_L940 {g : JG} {ad : Nat → Nat} (nm : String) (hs : jStr g ad) (hsc : ad 1005 = g.2.2.2.2.2.2.1) (n : Nat) (r18 : Int → JMem → Option (Int × JMem)) (hr18 : ∀ (v3 : Int) (M : JMem), jL g nm ad 18 [some (.ref 1005), some (.ref 0), some (.ref 167), some (ji v3)] [] M (r18 v3 M)) (v3 w1 w2 : Int) (M : JMem) : jL g nm ad 940 [some (.ref 1005), some (.ref 0), some (.ref 167), some (ji v3)] [ji w2, ji w1, .ref 0] M (f_L_law_L940 n g.2.2.2.2.2.2.2.1 (fun j => (g.2.2.2.2.2.2.2.2 j).toInt) r18 v3 w1 w2 M) := by
  unfold f_L_law_L940
  refine jo_callV (st := []) (m_X11_let hs n w1 w2 M) ok_X11_let (And.intro (Nat.le_of_ble_eq_true rfl) (Nat.le_of_ble_eq_true rfl)) lm_L_105 in_X11_let se_X11_let rfl kc_0 rfl rfl (And.intro (Nat.le_of_ble_eq_true rfl) (Nat.le_of_ble_eq_true rfl)) rfl (Nat.le_of_ble_eq_true rfl) d_L_law_940 (fun r1 M2 => ?_)
  refine jo_aload 2 d_L_law_943 rfl rfl ?_
  refine jo_aload 0 d_L_law_944 rfl rfl ?_
  refine jo_iload 3 d_L_law_945 rfl rfl ?_
  refine jo_iconst 1 d_L_law_946 ?_
  refine jo_iadd d_L_law_947 ?_
  refine jo_sld hsc d_L_law_948 ?_
  refine jo_aload 0 d_L_law_949 rfl rfl ?_
  refine jo_iload 3 d_L_law_950 rfl rfl ?_
  refine jo_iconst 2 d_L_law_951 ?_
  refine jo_iadd d_L_law_952 ?_
  refine jo_sld hsc d_L_law_953 ?_
  refine jo_if_eq 961 d_L_law_954 (by decide) ?_ ?_
  · skip
    refine jo_iconst 0 d_L_law_961 ?_
    exact jO.sub (t_L_law_L962 nm hs hsc n r18 hr18 v3 r1 ((fun j => (g.2.2.2.2.2.2.2.2 j).toInt) (jw (v3 + 1)).toNat) 0 M2) (And.intro rfl (And.intro rfl (And.intro rfl (And.intro rfl True.intro))))
  · skip
    refine jo_iconst 1 d_L_law_957 ?_
    refine jo_goto 962 d_L_law_958 (by decide) ?_
    exact jO.sub (t_L_law_L962 nm hs hsc n r18 hr18 v3 r1 ((fun j => (g.2.2.2.2.2.2.2.2 j).toInt) (jw (v3 + 1)).toNat) 1 M2) (And.intro rfl (And.intro rfl (And.intro rfl (And.intro rfl True.intro))))
def f_L_law_L1011 (n : Nat) (L : Nat) (X : Nat → Int) (r18 : Int → JMem → Option (Int × JMem)) (v3 w0 w2 w3 : Int) (M : JMem) : Option (Int × JMem) := bnd (f_X12_halt n w2 w3 M) fun r1 M2 => if jw w0 = jw r1 then (f_L_law_L1977 n L X r18 v3 M2) else (none)
set_option maxRecDepth 8000 in
set_option maxHeartbeats 4000000 in
theorem t_L_law_L1011 {g : JG} {ad : Nat → Nat} (nm : String) (hs : jStr g ad) (hsc : ad 1005 = g.2.2.2.2.2.2.1) (n : Nat) (r18 : Int → JMem → Option (Int × JMem)) (hr18 : ∀ (v3 : Int) (M : JMem), jL g nm ad 18 [some (.ref 1005), some (.ref 0), some (.ref 167), some (ji v3)] [] M (r18 v3 M)) (v3 w0 w2 w3 : Int) (M : JMem) : jL g nm ad 1011 [some (.ref 1005), some (.ref 0), some (.ref 167), some (ji v3)] [ji w3, ji w2, .ref 167, ji w0] M (f_L_law_L1011 n g.2.2.2.2.2.2.2.1 (fun j => (g.2.2.2.2.2.2.2.2 j).toInt) r18 v3 w0 w2 w3 M) := by
  unfold f_L_law_L1011
  refine jo_callV (st := [ji w0]) (m_X12_halt hs n w2 w3 M) ok_X12_halt (And.intro (Nat.le_of_ble_eq_true rfl) (Nat.le_of_ble_eq_true rfl)) lm_L_113 in_X12_halt se_X12_halt rfl kc_167 rfl rfl (And.intro (Nat.le_of_ble_eq_true rfl) (Nat.le_of_ble_eq_true rfl)) rfl (Nat.le_of_ble_eq_true rfl) d_L_law_1011 (fun r1 M2 => ?_)
  refine jo_icmp_eq 1977 d_L_law_1014 (by decide) ?_ ?_
  · skip
    exact jO.sub (t_L_law_L1977 nm hs hsc n r18 hr18 v3 M2) (And.intro rfl (And.intro rfl (And.intro rfl (And.intro rfl True.intro))))
  · skip
    exact jO.none
def f_L_law_L989 (n : Nat) (L : Nat) (X : Nat → Int) (r18 : Int → JMem → Option (Int × JMem)) (v3 w1 w2 : Int) (M : JMem) : Option (Int × JMem) := bnd (f_X11_halt n w1 w2 M) fun r1 M2 => chk (jin (v3 + 1) L) <| chk (jin (v3 + 2) L) <| if jw (X (jw (v3 + 2)).toNat) = 0 then (f_L_law_L1011 n L X r18 v3 r1 (X (jw (v3 + 1)).toNat) 0 M2) else (f_L_law_L1011 n L X r18 v3 r1 (X (jw (v3 + 1)).toNat) 1 M2)
set_option maxRecDepth 8000 in
set_option maxHeartbeats 4000000 in
theorem t_L_law_L989 {g : JG} {ad : Nat → Nat} (nm : String) (hs : jStr g ad) (hsc : ad 1005 = g.2.2.2.2.2.2.1) (n : Nat) (r18 : Int → JMem → Option (Int × JMem)) (hr18 : ∀ (v3 : Int) (M : JMem), jL g nm ad 18 [some (.ref 1005), some (.ref 0), some (.ref 167), some (ji v3)] [] M (r18 v3 M)) (v3 w1 w2 : Int) (M : JMem) : jL g nm ad 989 [some (.ref 1005), some (.ref 0), some (.ref 167), some (ji v3)] [ji w2, ji w1, .ref 0] M (f_L_law_L989 n g.2.2.2.2.2.2.2.1 (fun j => (g.2.2.2.2.2.2.2.2 j).toInt) r18 v3 w1 w2 M) := by
  unfold f_L_law_L989
  refine jo_callV (st := []) (m_X11_halt hs n w1 w2 M) ok_X11_halt (And.intro (Nat.le_of_ble_eq_true rfl) (Nat.le_of_ble_eq_true rfl)) lm_L_110 in_X11_halt se_X11_halt rfl kc_0 rfl rfl (And.intro (Nat.le_of_ble_eq_true rfl) (Nat.le_of_ble_eq_true rfl)) rfl (Nat.le_of_ble_eq_true rfl) d_L_law_989 (fun r1 M2 => ?_)
  refine jo_aload 2 d_L_law_992 rfl rfl ?_
  refine jo_aload 0 d_L_law_993 rfl rfl ?_
  refine jo_iload 3 d_L_law_994 rfl rfl ?_
  refine jo_iconst 1 d_L_law_995 ?_
  refine jo_iadd d_L_law_996 ?_
  refine jo_sld hsc d_L_law_997 ?_
  refine jo_aload 0 d_L_law_998 rfl rfl ?_
  refine jo_iload 3 d_L_law_999 rfl rfl ?_
  refine jo_iconst 2 d_L_law_1000 ?_
  refine jo_iadd d_L_law_1001 ?_
  refine jo_sld hsc d_L_law_1002 ?_
  refine jo_if_eq 1010 d_L_law_1003 (by decide) ?_ ?_
  · skip
    refine jo_iconst 0 d_L_law_1010 ?_
    exact jO.sub (t_L_law_L1011 nm hs hsc n r18 hr18 v3 r1 ((fun j => (g.2.2.2.2.2.2.2.2 j).toInt) (jw (v3 + 1)).toNat) 0 M2) (And.intro rfl (And.intro rfl (And.intro rfl (And.intro rfl True.intro))))
  · skip
    refine jo_iconst 1 d_L_law_1006 ?_
    refine jo_goto 1011 d_L_law_1007 (by decide) ?_
    exact jO.sub (t_L_law_L1011 nm hs hsc n r18 hr18 v3 r1 ((fun j => (g.2.2.2.2.2.2.2.2 j).toInt) (jw (v3 + 1)).toNat) 1 M2) (And.intro rfl (And.intro rfl (And.intro rfl (And.intro rfl True.intro))))
def f_L_law_L1136 (n : Nat) (L : Nat) (X : Nat → Int) (r18 : Int → JMem → Option (Int × JMem)) (v3 w0 w2 w3 w4 : Int) (M : JMem) : Option (Int × JMem) := bnd (f_X12_hunt n w2 w3 w4 M) fun r1 M2 => if jw w0 = jw r1 then (f_L_law_L1977 n L X r18 v3 M2) else (none)
set_option maxRecDepth 8000 in
set_option maxHeartbeats 4000000 in
theorem t_L_law_L1136 {g : JG} {ad : Nat → Nat} (nm : String) (hs : jStr g ad) (hsc : ad 1005 = g.2.2.2.2.2.2.1) (n : Nat) (r18 : Int → JMem → Option (Int × JMem)) (hr18 : ∀ (v3 : Int) (M : JMem), jL g nm ad 18 [some (.ref 1005), some (.ref 0), some (.ref 167), some (ji v3)] [] M (r18 v3 M)) (v3 w0 w2 w3 w4 : Int) (M : JMem) : jL g nm ad 1136 [some (.ref 1005), some (.ref 0), some (.ref 167), some (ji v3)] [ji w4, ji w3, ji w2, .ref 167, ji w0] M (f_L_law_L1136 n g.2.2.2.2.2.2.2.1 (fun j => (g.2.2.2.2.2.2.2.2 j).toInt) r18 v3 w0 w2 w3 w4 M) := by
  unfold f_L_law_L1136
  refine jo_callV (st := [ji w0]) (m_X12_hunt hs n w2 w3 w4 M) ok_X12_hunt (And.intro (Nat.le_of_ble_eq_true rfl) (Nat.le_of_ble_eq_true rfl)) lm_L_126 in_X12_hunt se_X12_hunt rfl kc_167 rfl rfl (And.intro (Nat.le_of_ble_eq_true rfl) (Nat.le_of_ble_eq_true rfl)) rfl (Nat.le_of_ble_eq_true rfl) d_L_law_1136 (fun r1 M2 => ?_)
  refine jo_icmp_eq 1977 d_L_law_1139 (by decide) ?_ ?_
  · skip
    exact jO.sub (t_L_law_L1977 nm hs hsc n r18 hr18 v3 M2) (And.intro rfl (And.intro rfl (And.intro rfl (And.intro rfl True.intro))))
  · skip
    exact jO.none
def f_L_law_L1109 (n : Nat) (L : Nat) (X : Nat → Int) (r18 : Int → JMem → Option (Int × JMem)) (v3 w1 w2 w3 : Int) (M : JMem) : Option (Int × JMem) := bnd (f_X11_hunt n w1 w2 w3 M) fun r1 M2 => chk (jin (v3 + 1) L) <| chk (jin (v3 + 2) L) <| chk (jin (v3 + 3) L) <| if jw (X (jw (v3 + 3)).toNat) = 0 then (f_L_law_L1136 n L X r18 v3 r1 (X (jw (v3 + 1)).toNat) (X (jw (v3 + 2)).toNat) 0 M2) else (f_L_law_L1136 n L X r18 v3 r1 (X (jw (v3 + 1)).toNat) (X (jw (v3 + 2)).toNat) 1 M2)
set_option maxRecDepth 8000 in
set_option maxHeartbeats 4000000 in
theorem t_L_law_L1109 {g : JG} {ad : Nat → Nat} (nm : String) (hs : jStr g ad) (hsc : ad 1005 = g.2.2.2.2.2.2.1) (n : Nat) (r18 : Int → JMem → Option (Int × JMem)) (hr18 : ∀ (v3 : Int) (M : JMem), jL g nm ad 18 [some (.ref 1005), some (.ref 0), some (.ref 167), some (ji v3)] [] M (r18 v3 M)) (v3 w1 w2 w3 : Int) (M : JMem) : jL g nm ad 1109 [some (.ref 1005), some (.ref 0), some (.ref 167), some (ji v3)] [ji w3, ji w2, ji w1, .ref 0] M (f_L_law_L1109 n g.2.2.2.2.2.2.2.1 (fun j => (g.2.2.2.2.2.2.2.2 j).toInt) r18 v3 w1 w2 w3 M) := by
  unfold f_L_law_L1109
  refine jo_callV (st := []) (m_X11_hunt hs n w1 w2 w3 M) ok_X11_hunt (And.intro (Nat.le_of_ble_eq_true rfl) (Nat.le_of_ble_eq_true rfl)) lm_L_123 in_X11_hunt se_X11_hunt rfl kc_0 rfl rfl (And.intro (Nat.le_of_ble_eq_true rfl) (Nat.le_of_ble_eq_true rfl)) rfl (Nat.le_of_ble_eq_true rfl) d_L_law_1109 (fun r1 M2 => ?_)
  refine jo_aload 2 d_L_law_1112 rfl rfl ?_
  refine jo_aload 0 d_L_law_1113 rfl rfl ?_
  refine jo_iload 3 d_L_law_1114 rfl rfl ?_
  refine jo_iconst 1 d_L_law_1115 ?_
  refine jo_iadd d_L_law_1116 ?_
  refine jo_sld hsc d_L_law_1117 ?_
  refine jo_aload 0 d_L_law_1118 rfl rfl ?_
  refine jo_iload 3 d_L_law_1119 rfl rfl ?_
  refine jo_iconst 2 d_L_law_1120 ?_
  refine jo_iadd d_L_law_1121 ?_
  refine jo_sld hsc d_L_law_1122 ?_
  refine jo_aload 0 d_L_law_1123 rfl rfl ?_
  refine jo_iload 3 d_L_law_1124 rfl rfl ?_
  refine jo_iconst 3 d_L_law_1125 ?_
  refine jo_iadd d_L_law_1126 ?_
  refine jo_sld hsc d_L_law_1127 ?_
  refine jo_if_eq 1135 d_L_law_1128 (by decide) ?_ ?_
  · skip
    refine jo_iconst 0 d_L_law_1135 ?_
    exact jO.sub (t_L_law_L1136 nm hs hsc n r18 hr18 v3 r1 ((fun j => (g.2.2.2.2.2.2.2.2 j).toInt) (jw (v3 + 1)).toNat) ((fun j => (g.2.2.2.2.2.2.2.2 j).toInt) (jw (v3 + 2)).toNat) 0 M2) (And.intro rfl (And.intro rfl (And.intro rfl (And.intro rfl True.intro))))
  · skip
    refine jo_iconst 1 d_L_law_1131 ?_
    refine jo_goto 1136 d_L_law_1132 (by decide) ?_
    exact jO.sub (t_L_law_L1136 nm hs hsc n r18 hr18 v3 r1 ((fun j => (g.2.2.2.2.2.2.2.2 j).toInt) (jw (v3 + 1)).toNat) ((fun j => (g.2.2.2.2.2.2.2.2 j).toInt) (jw (v3 + 2)).toNat) 1 M2) (And.intro rfl (And.intro rfl (And.intro rfl (And.intro rfl True.intro))))
def f_L_law_L18 (n : Nat) (L : Nat) (X : Nat → Int) : Nat → Int → JMem → Option (Int × JMem)
  | 0, _, _ => none
  | k + 1, v3, M => if jw ((L : Int) - 6) < jw v3 then (some (1, M)) else (chk (jin v3 L) <| if jw (jand (X (jw v3).toNat) 63) = 0 then (bnd (f_X11_status n M) fun r2 M3 => bnd (f_X12_status n M3) fun r4 M5 => if jw r2 = jw r4 then (f_L_law_L1977 n L X (f_L_law_L18 n L X k) v3 M5) else (none)) else (if jw (jand (X (jw v3).toNat) 63) = 1 then (bnd (f_X11_top n M) fun r6 M7 => bnd (f_X12_top n M7) fun r8 M9 => if jw (jcmp r6 r8) = 0 then (f_L_law_L1977 n L X (f_L_law_L18 n L X k) v3 M9) else (none)) else (if jw (jand (X (jw v3).toNat) 63) = 2 then (bnd (f_X11_bottom n M) fun r10 M11 => bnd (f_X12_bottom n M11) fun r12 M13 => if jw (jcmp r10 r12) = 0 then (f_L_law_L1977 n L X (f_L_law_L18 n L X k) v3 M13) else (none)) else (if jw (jand (X (jw v3).toNat) 63) = 3 then (chk (jin (v3 + 1) L) <| chk (jin (v3 + 2) L) <| chk (jin (v3 + 3) L) <| bnd (f_X11_tray n (X (jw (v3 + 1)).toNat) (X (jw (v3 + 2)).toNat) (X (jw (v3 + 3)).toNat) M) fun r14 M15 => chk (jin (v3 + 1) L) <| chk (jin (v3 + 2) L) <| chk (jin (v3 + 3) L) <| bnd (f_X12_tray n (X (jw (v3 + 1)).toNat) (X (jw (v3 + 2)).toNat) (X (jw (v3 + 3)).toNat) M15) fun r16 M17 => if jw r14 = jw r16 then (f_L_law_L1977 n L X (f_L_law_L18 n L X k) v3 M17) else (none)) else (if jw (jand (X (jw v3).toNat) 63) = 4 then (chk (jin (v3 + 1) L) <| chk (jin (v3 + 2) L) <| chk (jin (v3 + 3) L) <| chk (jin (v3 + 4) L) <| bnd (f_X11_write n (X (jw (v3 + 1)).toNat) (X (jw (v3 + 2)).toNat) (jlor (jlshl (jw (X (jw (v3 + 3)).toNat)) 32) (jland (jw (X (jw (v3 + 4)).toNat)) 4294967295)) M) fun r18 M19 => chk (jin (v3 + 1) L) <| chk (jin (v3 + 2) L) <| chk (jin (v3 + 3) L) <| chk (jin (v3 + 4) L) <| bnd (f_X12_write n (X (jw (v3 + 1)).toNat) (X (jw (v3 + 2)).toNat) (jlor (jlshl (jw (X (jw (v3 + 3)).toNat)) 32) (jland (jw (X (jw (v3 + 4)).toNat)) 4294967295)) M19) fun r20 M21 => if jw r18 = jw r20 then (f_L_law_L1977 n L X (f_L_law_L18 n L X k) v3 M21) else (none)) else (if jw (jand (X (jw v3).toNat) 63) = 5 then (chk (jin (v3 + 1) L) <| chk (jin (v3 + 2) L) <| bnd (f_X11_read n (X (jw (v3 + 1)).toNat) (X (jw (v3 + 2)).toNat) M) fun r22 M23 => chk (jin (v3 + 1) L) <| chk (jin (v3 + 2) L) <| bnd (f_X12_read n (X (jw (v3 + 1)).toNat) (X (jw (v3 + 2)).toNat) M23) fun r24 M25 => if jw (jcmp r22 r24) = 0 then (f_L_law_L1977 n L X (f_L_law_L18 n L X k) v3 M25) else (none)) else (if jw (jand (X (jw v3).toNat) 63) = 6 then (chk (jin (v3 + 1) L) <| chk (jin (v3 + 2) L) <| chk (jin (v3 + 3) L) <| chk (jin (v3 + 4) L) <| chk (jin (v3 + 5) L) <| bnd (f_X11_pour n (X (jw (v3 + 1)).toNat) (X (jw (v3 + 2)).toNat) (X (jw (v3 + 3)).toNat) (X (jw (v3 + 4)).toNat) (X (jw (v3 + 5)).toNat) M) fun r26 M27 => chk (jin (v3 + 1) L) <| chk (jin (v3 + 2) L) <| chk (jin (v3 + 3) L) <| chk (jin (v3 + 4) L) <| chk (jin (v3 + 5) L) <| bnd (f_X12_pour n (X (jw (v3 + 1)).toNat) (X (jw (v3 + 2)).toNat) (X (jw (v3 + 3)).toNat) (X (jw (v3 + 4)).toNat) (X (jw (v3 + 5)).toNat) M27) fun r28 M29 => if jw r26 = jw r28 then (f_L_law_L1977 n L X (f_L_law_L18 n L X k) v3 M29) else (none)) else (if jw (jand (X (jw v3).toNat) 63) = 7 then (chk (jin (v3 + 1) L) <| chk (jin (v3 + 2) L) <| chk (jin (v3 + 3) L) <| chk (jin (v3 + 4) L) <| chk (jin (v3 + 5) L) <| bnd (f_X11_feed n (X (jw (v3 + 1)).toNat) (X (jw (v3 + 2)).toNat) (X (jw (v3 + 3)).toNat) (X (jw (v3 + 4)).toNat) (X (jw (v3 + 5)).toNat) M) fun r30 M31 => chk (jin (v3 + 1) L) <| chk (jin (v3 + 2) L) <| chk (jin (v3 + 3) L) <| chk (jin (v3 + 4) L) <| chk (jin (v3 + 5) L) <| bnd (f_X12_feed n (X (jw (v3 + 1)).toNat) (X (jw (v3 + 2)).toNat) (X (jw (v3 + 3)).toNat) (X (jw (v3 + 4)).toNat) (X (jw (v3 + 5)).toNat) M31) fun r32 M33 => if jw r30 = jw r32 then (f_L_law_L1977 n L X (f_L_law_L18 n L X k) v3 M33) else (none)) else (if jw (jand (X (jw v3).toNat) 63) = 8 then (chk (jin (v3 + 1) L) <| bnd (f_X11_park n (X (jw (v3 + 1)).toNat) M) fun r34 M35 => chk (jin (v3 + 1) L) <| bnd (f_X12_park n (X (jw (v3 + 1)).toNat) M35) fun r36 M37 => if jw r34 = jw r36 then (f_L_law_L1977 n L X (f_L_law_L18 n L X k) v3 M37) else (none)) else (if jw (jand (X (jw v3).toNat) 63) = 9 then (chk (jin (v3 + 1) L) <| bnd (f_X11_weeks n (X (jw (v3 + 1)).toNat) M) fun r38 M39 => chk (jin (v3 + 1) L) <| bnd (f_X12_weeks n (X (jw (v3 + 1)).toNat) M39) fun r40 M41 => if jw r38 = jw r40 then (f_L_law_L1977 n L X (f_L_law_L18 n L X k) v3 M41) else (none)) else (if jw (jand (X (jw v3).toNat) 63) = 10 then (chk (jin (v3 + 1) L) <| bnd (f_X11_fault n (X (jw (v3 + 1)).toNat) M) fun r42 M43 => chk (jin (v3 + 1) L) <| bnd (f_X12_fault n (X (jw (v3 + 1)).toNat) M43) fun r44 M45 => if jw r42 = jw r44 then (f_L_law_L1977 n L X (f_L_law_L18 n L X k) v3 M45) else (none)) else (if jw (jand (X (jw v3).toNat) 63) = 11 then (chk (jin (v3 + 1) L) <| bnd (f_X11_told n (X (jw (v3 + 1)).toNat) M) fun r46 M47 => chk (jin (v3 + 1) L) <| bnd (f_X12_told n (X (jw (v3 + 1)).toNat) M47) fun r48 M49 => if jw r46 = jw r48 then (f_L_law_L1977 n L X (f_L_law_L18 n L X k) v3 M49) else (none)) else (if jw (jand (X (jw v3).toNat) 63) = 12 then (chk (jin (v3 + 1) L) <| chk (jin (v3 + 2) L) <| bnd (f_X11_train n (X (jw (v3 + 1)).toNat) (X (jw (v3 + 2)).toNat) M) fun r50 M51 => chk (jin (v3 + 1) L) <| chk (jin (v3 + 2) L) <| bnd (f_X12_train n (X (jw (v3 + 1)).toNat) (X (jw (v3 + 2)).toNat) M51) fun r52 M53 => if jw r50 = jw r52 then (f_L_law_L1977 n L X (f_L_law_L18 n L X k) v3 M53) else (none)) else (if jw (jand (X (jw v3).toNat) 63) = 13 then (chk (jin (v3 + 1) L) <| chk (jin (v3 + 2) L) <| bnd (f_X11_beast n (X (jw (v3 + 1)).toNat) (X (jw (v3 + 2)).toNat) M) fun r54 M55 => chk (jin (v3 + 1) L) <| chk (jin (v3 + 2) L) <| bnd (f_X12_beast n (X (jw (v3 + 1)).toNat) (X (jw (v3 + 2)).toNat) M55) fun r56 M57 => if jw r54 = jw r56 then (f_L_law_L1977 n L X (f_L_law_L18 n L X k) v3 M57) else (none)) else (if jw (jand (X (jw v3).toNat) 63) = 14 then (chk (jin (v3 + 1) L) <| bnd (f_X11_at n (X (jw (v3 + 1)).toNat) M) fun r58 M59 => chk (jin (v3 + 1) L) <| bnd (f_X12_at n (X (jw (v3 + 1)).toNat) M59) fun r60 M61 => if jw r58 = jw r60 then (f_L_law_L1977 n L X (f_L_law_L18 n L X k) v3 M61) else (none)) else (if jw (jand (X (jw v3).toNat) 63) = 15 then (chk (jin (v3 + 1) L) <| bnd (f_X11_there n (X (jw (v3 + 1)).toNat) M) fun r62 M63 => chk (jin (v3 + 1) L) <| bnd (f_X12_there n (X (jw (v3 + 1)).toNat) M63) fun r64 M65 => if jw r62 = jw r64 then (f_L_law_L1977 n L X (f_L_law_L18 n L X k) v3 M65) else (none)) else (if jw (jand (X (jw v3).toNat) 63) = 16 then (chk (jin (v3 + 1) L) <| chk (jin (v3 + 2) L) <| bnd (f_X11_together n (X (jw (v3 + 1)).toNat) (X (jw (v3 + 2)).toNat) M) fun r66 M67 => chk (jin (v3 + 1) L) <| chk (jin (v3 + 2) L) <| bnd (f_X12_together n (X (jw (v3 + 1)).toNat) (X (jw (v3 + 2)).toNat) M67) fun r68 M69 => if jw r66 = jw r68 then (f_L_law_L1977 n L X (f_L_law_L18 n L X k) v3 M69) else (none)) else (if jw (jand (X (jw v3).toNat) 63) = 17 then (chk (jin (v3 + 1) L) <| bnd (f_X11_hour n (X (jw (v3 + 1)).toNat) M) fun r70 M71 => chk (jin (v3 + 1) L) <| bnd (f_X12_hour n (X (jw (v3 + 1)).toNat) M71) fun r72 M73 => if jw r70 = jw r72 then (f_L_law_L1977 n L X (f_L_law_L18 n L X k) v3 M73) else (none)) else (if jw (jand (X (jw v3).toNat) 63) = 18 then (bnd (f_X11_monday n M) fun r74 M75 => bnd (f_X12_monday n M75) fun r76 M77 => if jw r74 = jw r76 then (f_L_law_L1977 n L X (f_L_law_L18 n L X k) v3 M77) else (none)) else (if jw (jand (X (jw v3).toNat) 63) = 19 then (chk (jin (v3 + 1) L) <| chk (jin (v3 + 2) L) <| chk (jin (v3 + 3) L) <| if jw (X (jw (v3 + 3)).toNat) = 0 then (f_L_law_L886 n L X (f_L_law_L18 n L X k) v3 (X (jw (v3 + 1)).toNat) (X (jw (v3 + 2)).toNat) 0 M) else (f_L_law_L886 n L X (f_L_law_L18 n L X k) v3 (X (jw (v3 + 1)).toNat) (X (jw (v3 + 2)).toNat) 1 M)) else (if jw (jand (X (jw v3).toNat) 63) = 20 then (chk (jin (v3 + 1) L) <| chk (jin (v3 + 2) L) <| if jw (X (jw (v3 + 2)).toNat) = 0 then (f_L_law_L940 n L X (f_L_law_L18 n L X k) v3 (X (jw (v3 + 1)).toNat) 0 M) else (f_L_law_L940 n L X (f_L_law_L18 n L X k) v3 (X (jw (v3 + 1)).toNat) 1 M)) else (if jw (jand (X (jw v3).toNat) 63) = 21 then (chk (jin (v3 + 1) L) <| chk (jin (v3 + 2) L) <| if jw (X (jw (v3 + 2)).toNat) = 0 then (f_L_law_L989 n L X (f_L_law_L18 n L X k) v3 (X (jw (v3 + 1)).toNat) 0 M) else (f_L_law_L989 n L X (f_L_law_L18 n L X k) v3 (X (jw (v3 + 1)).toNat) 1 M)) else (if jw (jand (X (jw v3).toNat) 63) = 22 then (chk (jin (v3 + 1) L) <| chk (jin (v3 + 2) L) <| bnd (f_X11_trust n (X (jw (v3 + 1)).toNat) (X (jw (v3 + 2)).toNat) M) fun r78 M79 => chk (jin (v3 + 1) L) <| chk (jin (v3 + 2) L) <| bnd (f_X12_trust n (X (jw (v3 + 1)).toNat) (X (jw (v3 + 2)).toNat) M79) fun r80 M81 => if jw r78 = jw r80 then (f_L_law_L1977 n L X (f_L_law_L18 n L X k) v3 M81) else (none)) else (if jw (jand (X (jw v3).toNat) 63) = 23 then (chk (jin (v3 + 1) L) <| chk (jin (v3 + 2) L) <| bnd (f_X11_shift n (X (jw (v3 + 1)).toNat) (X (jw (v3 + 2)).toNat) M) fun r82 M83 => chk (jin (v3 + 1) L) <| chk (jin (v3 + 2) L) <| bnd (f_X12_shift n (X (jw (v3 + 1)).toNat) (X (jw (v3 + 2)).toNat) M83) fun r84 M85 => if jw r82 = jw r84 then (f_L_law_L1977 n L X (f_L_law_L18 n L X k) v3 M85) else (none)) else (if jw (jand (X (jw v3).toNat) 63) = 24 then (chk (jin (v3 + 1) L) <| chk (jin (v3 + 2) L) <| chk (jin (v3 + 3) L) <| if jw (X (jw (v3 + 3)).toNat) = 0 then (f_L_law_L1109 n L X (f_L_law_L18 n L X k) v3 (X (jw (v3 + 1)).toNat) (X (jw (v3 + 2)).toNat) 0 M) else (f_L_law_L1109 n L X (f_L_law_L18 n L X k) v3 (X (jw (v3 + 1)).toNat) (X (jw (v3 + 2)).toNat) 1 M)) else (if jw (jand (X (jw v3).toNat) 63) = 25 then (chk (jin (v3 + 1) L) <| bnd (f_X11_mourn n (X (jw (v3 + 1)).toNat) M) fun r86 M87 => chk (jin (v3 + 1) L) <| bnd (f_X12_mourn n (X (jw (v3 + 1)).toNat) M87) fun r88 M89 => if jw r86 = jw r88 then (f_L_law_L1977 n L X (f_L_law_L18 n L X k) v3 M89) else (none)) else (if jw (jand (X (jw v3).toNat) 63) = 26 then (chk (jin (v3 + 1) L) <| bnd (f_X11_rule n (X (jw (v3 + 1)).toNat) M) fun r90 M91 => chk (jin (v3 + 1) L) <| bnd (f_X12_rule n (X (jw (v3 + 1)).toNat) M91) fun r92 M93 => if jw r90 = jw r92 then (f_L_law_L1977 n L X (f_L_law_L18 n L X k) v3 M93) else (none)) else (if jw (jand (X (jw v3).toNat) 63) = 27 then (chk (jin (v3 + 1) L) <| chk (jin (v3 + 2) L) <| bnd (f_X11_where n (X (jw (v3 + 1)).toNat) (X (jw (v3 + 2)).toNat) M) fun r94 M95 => chk (jin (v3 + 1) L) <| chk (jin (v3 + 2) L) <| bnd (f_X12_where n (X (jw (v3 + 1)).toNat) (X (jw (v3 + 2)).toNat) M95) fun r96 M97 => if jw r94 = jw r96 then (f_L_law_L1977 n L X (f_L_law_L18 n L X k) v3 M97) else (none)) else (if jw (jand (X (jw v3).toNat) 63) = 28 then (chk (jin (v3 + 1) L) <| bnd (f_X11_eatenAt n (X (jw (v3 + 1)).toNat) M) fun r98 M99 => chk (jin (v3 + 1) L) <| bnd (f_X12_eatenAt n (X (jw (v3 + 1)).toNat) M99) fun r100 M101 => if jw r98 = jw r100 then (f_L_law_L1977 n L X (f_L_law_L18 n L X k) v3 M101) else (none)) else (if jw (jand (X (jw v3).toNat) 63) = 29 then (chk (jin (v3 + 1) L) <| bnd (f_X11_eater n (X (jw (v3 + 1)).toNat) M) fun r102 M103 => chk (jin (v3 + 1) L) <| bnd (f_X12_eater n (X (jw (v3 + 1)).toNat) M103) fun r104 M105 => if jw r102 = jw r104 then (f_L_law_L1977 n L X (f_L_law_L18 n L X k) v3 M105) else (none)) else (if jw (jand (X (jw v3).toNat) 63) = 30 then (chk (jin (v3 + 1) L) <| chk (jin (v3 + 2) L) <| bnd (f_X11_meet n (X (jw (v3 + 1)).toNat) (X (jw (v3 + 2)).toNat) M) fun r106 M107 => chk (jin (v3 + 1) L) <| chk (jin (v3 + 2) L) <| bnd (f_X12_meet n (X (jw (v3 + 1)).toNat) (X (jw (v3 + 2)).toNat) M107) fun r108 M109 => if jw r106 = jw r108 then (f_L_law_L1977 n L X (f_L_law_L18 n L X k) v3 M109) else (none)) else (if jw (jand (X (jw v3).toNat) 63) = 31 then (bnd (f_X11_lateBy n M) fun r110 M111 => bnd (f_X12_lateBy n M111) fun r112 M113 => if jw r110 = jw r112 then (f_L_law_L1977 n L X (f_L_law_L18 n L X k) v3 M113) else (none)) else (if jw (jand (X (jw v3).toNat) 63) = 32 then (chk (jin (v3 + 1) L) <| bnd (f_X11_peace n (X (jw (v3 + 1)).toNat) M) fun r114 M115 => chk (jin (v3 + 1) L) <| bnd (f_X12_peace n (X (jw (v3 + 1)).toNat) M115) fun r116 M117 => if jw r114 = jw r116 then (f_L_law_L1977 n L X (f_L_law_L18 n L X k) v3 M117) else (none)) else (if jw (jand (X (jw v3).toNat) 63) = 33 then (chk (jin (v3 + 1) L) <| bnd (f_X11_eatenBy n (X (jw (v3 + 1)).toNat) M) fun r118 M119 => chk (jin (v3 + 1) L) <| bnd (f_X12_eatenBy n (X (jw (v3 + 1)).toNat) M119) fun r120 M121 => if jw r118 = jw r120 then (f_L_law_L1977 n L X (f_L_law_L18 n L X k) v3 M121) else (none)) else (if jw (jand (X (jw v3).toNat) 63) = 34 then (bnd (f_X11_most n M) fun r122 M123 => bnd (f_X12_most n M123) fun r124 M125 => if jw r122 = jw r124 then (f_L_law_L1977 n L X (f_L_law_L18 n L X k) v3 M125) else (none)) else (if jw (jand (X (jw v3).toNat) 63) = 35 then (chk (jin (v3 + 1) L) <| chk (jin (v3 + 2) L) <| chk (jin (v3 + 3) L) <| bnd (f_X11_soonest n (X (jw (v3 + 1)).toNat) (X (jw (v3 + 2)).toNat) (X (jw (v3 + 3)).toNat) M) fun r126 M127 => chk (jin (v3 + 1) L) <| chk (jin (v3 + 2) L) <| chk (jin (v3 + 3) L) <| bnd (f_X12_soonest n (X (jw (v3 + 1)).toNat) (X (jw (v3 + 2)).toNat) (X (jw (v3 + 3)).toNat) M127) fun r128 M129 => if jw r126 = jw r128 then (f_L_law_L1977 n L X (f_L_law_L18 n L X k) v3 M129) else (none)) else (if jw (jand (X (jw v3).toNat) 63) = 36 then (chk (jin (v3 + 1) L) <| chk (jin (v3 + 2) L) <| chk (jin (v3 + 3) L) <| bnd (f_X11_soonestBy n (X (jw (v3 + 1)).toNat) (X (jw (v3 + 2)).toNat) (X (jw (v3 + 3)).toNat) M) fun r130 M131 => chk (jin (v3 + 1) L) <| chk (jin (v3 + 2) L) <| chk (jin (v3 + 3) L) <| bnd (f_X12_soonestBy n (X (jw (v3 + 1)).toNat) (X (jw (v3 + 2)).toNat) (X (jw (v3 + 3)).toNat) M131) fun r132 M133 => if jw r130 = jw r132 then (f_L_law_L1977 n L X (f_L_law_L18 n L X k) v3 M133) else (none)) else (if jw (jand (X (jw v3).toNat) 63) = 37 then (chk (jin (v3 + 1) L) <| chk (jin (v3 + 2) L) <| chk (jin (v3 + 3) L) <| bnd (f_X11_latest n (X (jw (v3 + 1)).toNat) (X (jw (v3 + 2)).toNat) (X (jw (v3 + 3)).toNat) M) fun r134 M135 => chk (jin (v3 + 1) L) <| chk (jin (v3 + 2) L) <| chk (jin (v3 + 3) L) <| bnd (f_X12_latest n (X (jw (v3 + 1)).toNat) (X (jw (v3 + 2)).toNat) (X (jw (v3 + 3)).toNat) M135) fun r136 M137 => if jw r134 = jw r136 then (f_L_law_L1977 n L X (f_L_law_L18 n L X k) v3 M137) else (none)) else (if jw (jand (X (jw v3).toNat) 63) = 38 then (chk (jin (v3 + 1) L) <| bnd (f_X11_stay n (X (jw (v3 + 1)).toNat) M) fun r138 M139 => chk (jin (v3 + 1) L) <| bnd (f_X12_stay n (X (jw (v3 + 1)).toNat) M139) fun r140 M141 => if jw r138 = jw r140 then (f_L_law_L1977 n L X (f_L_law_L18 n L X k) v3 M141) else (none)) else (if jw (jand (X (jw v3).toNat) 63) = 39 then (bnd (f_X11_reach n M) fun r142 M143 => bnd (f_X12_reach n M143) fun r144 M145 => if jw r142 = jw r144 then (f_L_law_L1977 n L X (f_L_law_L18 n L X k) v3 M145) else (none)) else (if jw (jand (X (jw v3).toNat) 63) = 40 then (chk (jin (v3 + 1) L) <| bnd (f_X11_cut n (X (jw (v3 + 1)).toNat) M) fun r146 M147 => chk (jin (v3 + 1) L) <| bnd (f_X12_cut n (X (jw (v3 + 1)).toNat) M147) fun r148 M149 => if jw r146 = jw r148 then (f_L_law_L1977 n L X (f_L_law_L18 n L X k) v3 M149) else (none)) else (if jw (jand (X (jw v3).toNat) 63) = 41 then (chk (jin (v3 + 1) L) <| bnd (f_X11_cutSet n (X (jw (v3 + 1)).toNat) M) fun r150 M151 => chk (jin (v3 + 1) L) <| bnd (f_X12_cutSet n (X (jw (v3 + 1)).toNat) M151) fun r152 M153 => if jw r150 = jw r152 then (f_L_law_L1977 n L X (f_L_law_L18 n L X k) v3 M153) else (none)) else (if jw (jand (X (jw v3).toNat) 63) = 42 then (chk (jin (v3 + 1) L) <| bnd (f_X11_snow n (X (jw (v3 + 1)).toNat) M) fun r154 M155 => chk (jin (v3 + 1) L) <| bnd (f_X12_snow n (X (jw (v3 + 1)).toNat) M155) fun r156 M157 => if jw r154 = jw r156 then (f_L_law_L1977 n L X (f_L_law_L18 n L X k) v3 M157) else (none)) else (if jw (jand (X (jw v3).toNat) 63) = 43 then (chk (jin (v3 + 1) L) <| chk (jin (v3 + 2) L) <| bnd (f_X11_back n (X (jw (v3 + 1)).toNat) (X (jw (v3 + 2)).toNat) M) fun r158 M159 => chk (jin (v3 + 1) L) <| chk (jin (v3 + 2) L) <| bnd (f_X12_back n (X (jw (v3 + 1)).toNat) (X (jw (v3 + 2)).toNat) M159) fun r160 M161 => if jw r158 = jw r160 then (f_L_law_L1977 n L X (f_L_law_L18 n L X k) v3 M161) else (none)) else (if jw (jand (X (jw v3).toNat) 63) = 44 then (chk (jin (v3 + 1) L) <| bnd (f_X11_wildest n (X (jw (v3 + 1)).toNat) M) fun r162 M163 => chk (jin (v3 + 1) L) <| bnd (f_X12_wildest n (X (jw (v3 + 1)).toNat) M163) fun r164 M165 => if jw r162 = jw r164 then (f_L_law_L1977 n L X (f_L_law_L18 n L X k) v3 M165) else (none)) else (if jw (jand (X (jw v3).toNat) 63) = 45 then (chk (jin (v3 + 1) L) <| chk (jin (v3 + 2) L) <| bnd (f_X11_rooms n (X (jw (v3 + 1)).toNat) (X (jw (v3 + 2)).toNat) M) fun r166 M167 => chk (jin (v3 + 1) L) <| chk (jin (v3 + 2) L) <| bnd (f_X12_rooms n (X (jw (v3 + 1)).toNat) (X (jw (v3 + 2)).toNat) M167) fun r168 M169 => if jw r166 = jw r168 then (f_L_law_L1977 n L X (f_L_law_L18 n L X k) v3 M169) else (none)) else (if jw (jand (X (jw v3).toNat) 63) = 46 then (chk (jin (v3 + 1) L) <| chk (jin (v3 + 2) L) <| bnd (f_X11_roomSize n (X (jw (v3 + 1)).toNat) (X (jw (v3 + 2)).toNat) M) fun r170 M171 => chk (jin (v3 + 1) L) <| chk (jin (v3 + 2) L) <| bnd (f_X12_roomSize n (X (jw (v3 + 1)).toNat) (X (jw (v3 + 2)).toNat) M171) fun r172 M173 => if jw r170 = jw r172 then (f_L_law_L1977 n L X (f_L_law_L18 n L X k) v3 M173) else (none)) else (if jw (jand (X (jw v3).toNat) 63) = 47 then (chk (jin (v3 + 1) L) <| chk (jin (v3 + 2) L) <| chk (jin (v3 + 3) L) <| bnd (f_X11_sets n (X (jw (v3 + 1)).toNat) (X (jw (v3 + 2)).toNat) (X (jw (v3 + 3)).toNat) M) fun r174 M175 => chk (jin (v3 + 1) L) <| chk (jin (v3 + 2) L) <| chk (jin (v3 + 3) L) <| bnd (f_X12_sets n (X (jw (v3 + 1)).toNat) (X (jw (v3 + 2)).toNat) (X (jw (v3 + 3)).toNat) M175) fun r176 M177 => if jw r174 = jw r176 then (f_L_law_L1977 n L X (f_L_law_L18 n L X k) v3 M177) else (none)) else (if jw (jand (X (jw v3).toNat) 63) = 48 then (chk (jin (v3 + 1) L) <| chk (jin (v3 + 2) L) <| chk (jin (v3 + 3) L) <| bnd (f_X11_sure n (X (jw (v3 + 1)).toNat) (X (jw (v3 + 2)).toNat) (X (jw (v3 + 3)).toNat) M) fun r178 M179 => chk (jin (v3 + 1) L) <| chk (jin (v3 + 2) L) <| chk (jin (v3 + 3) L) <| bnd (f_X12_sure n (X (jw (v3 + 1)).toNat) (X (jw (v3 + 2)).toNat) (X (jw (v3 + 3)).toNat) M179) fun r180 M181 => if jw r178 = jw r180 then (f_L_law_L1977 n L X (f_L_law_L18 n L X k) v3 M181) else (none)) else (if jw (jand (X (jw v3).toNat) 63) = 49 then (chk (jin (v3 + 1) L) <| chk (jin (v3 + 2) L) <| bnd (f_X11_slips n (X (jw (v3 + 1)).toNat) (X (jw (v3 + 2)).toNat) M) fun r182 M183 => chk (jin (v3 + 1) L) <| chk (jin (v3 + 2) L) <| bnd (f_X12_slips n (X (jw (v3 + 1)).toNat) (X (jw (v3 + 2)).toNat) M183) fun r184 M185 => if jw r182 = jw r184 then (f_L_law_L1977 n L X (f_L_law_L18 n L X k) v3 M185) else (none)) else (if jw (jand (X (jw v3).toNat) 63) = 50 then (chk (jin (v3 + 1) L) <| bnd (f_X11_copyPlaces n (X (jw (v3 + 1)).toNat) M) fun r186 M187 => chk (jin (v3 + 1) L) <| bnd (f_X12_copyPlaces n (X (jw (v3 + 1)).toNat) M187) fun r188 M189 => if jw r186 = jw r188 then (f_L_law_L1977 n L X (f_L_law_L18 n L X k) v3 M189) else (none)) else (if jw (jand (X (jw v3).toNat) 63) = 51 then (chk (jin (v3 + 1) L) <| bnd (f_X11_live n (X (jw (v3 + 1)).toNat) M) fun r190 M191 => chk (jin (v3 + 1) L) <| bnd (f_X12_live n (X (jw (v3 + 1)).toNat) M191) fun r192 M193 => if jw r190 = jw r192 then (f_L_law_L1977 n L X (f_L_law_L18 n L X k) v3 M193) else (none)) else (if jw (jand (X (jw v3).toNat) 63) = 52 then (chk (jin (v3 + 1) L) <| bnd (f_X11_lived n (X (jw (v3 + 1)).toNat) M) fun r194 M195 => chk (jin (v3 + 1) L) <| bnd (f_X12_lived n (X (jw (v3 + 1)).toNat) M195) fun r196 M197 => if jw r194 = jw r196 then (f_L_law_L1977 n L X (f_L_law_L18 n L X k) v3 M197) else (none)) else (if jw (jand (X (jw v3).toNat) 63) = 53 then (chk (jin (v3 + 1) L) <| chk (jin (v3 + 2) L) <| bnd (f_X11_mean n (X (jw (v3 + 1)).toNat) (X (jw (v3 + 2)).toNat) M) fun r198 M199 => chk (jin (v3 + 1) L) <| chk (jin (v3 + 2) L) <| bnd (f_X12_mean n (X (jw (v3 + 1)).toNat) (X (jw (v3 + 2)).toNat) M199) fun r200 M201 => if jw r198 = jw r200 then (f_L_law_L1977 n L X (f_L_law_L18 n L X k) v3 M201) else (none)) else (if jw (jand (X (jw v3).toNat) 63) = 54 then (bnd (f_X11_mark n M) fun r202 M203 => bnd (f_X12_mark n M203) fun r204 M205 => if jw r202 = jw r204 then (f_L_law_L1977 n L X (f_L_law_L18 n L X k) v3 M205) else (none)) else (if jw (jand (X (jw v3).toNat) 63) = 55 then (bnd (f_X11_undo n M) fun r206 M207 => bnd (f_X12_undo n M207) fun r208 M209 => if jw r206 = jw r208 then (f_L_law_L1977 n L X (f_L_law_L18 n L X k) v3 M209) else (none)) else (f_L_law_L1977 n L X (f_L_law_L18 n L X k) v3 M)))))))))))))))))))))))))))))))))))))))))))))))))))))))))
set_option maxRecDepth 8000 in
set_option maxHeartbeats 4000000 in
theorem t_L_law_L18 {g : JG} {ad : Nat → Nat} (nm : String) (hs : jStr g ad) (hsc : ad 1005 = g.2.2.2.2.2.2.1) (n : Nat) : ∀ (k : Nat) (v3 : Int) (M : JMem), jL g nm ad 18 [some (.ref 1005), some (.ref 0), some (.ref 167), some (ji v3)] [] M (f_L_law_L18 n g.2.2.2.2.2.2.2.1 (fun j => (g.2.2.2.2.2.2.2.2 j).toInt) k v3 M) := by
  intro k
  induction k with
  | zero => intro v3 M; exact jO.none
  | succ k ih =>
    intro v3 M
    rw [f_L_law_L18]
    refine jo_iload 3 d_L_law_18 rfl rfl ?_
    refine jo_aload 0 d_L_law_19 rfl rfl ?_
    refine jo_slenL hsc d_L_law_20 ?_
    refine jo_bipush 6 d_L_law_21 (by decide) ?_
    refine jo_isub d_L_law_23 ?_
    refine jo_icmp_gt 1983 d_L_law_24 (by decide) ?_ ?_
    · skip
      refine jo_iconst 1 d_L_law_1983 ?_
      exact jo_lawret d_L_law_1984
    · skip
      refine jo_aload 0 d_L_law_27 rfl rfl ?_
      refine jo_iload 3 d_L_law_28 rfl rfl ?_
      refine jo_sld hsc d_L_law_29 ?_
      refine jo_bipush 63 d_L_law_30 (by decide) ?_
      refine jo_iand d_L_law_32 ?_
      refine jo_if (fun c1_0 => ?_) (fun c1_0 => ?_)
      · skip
        refine jo_tabIn 272 d_L_law_33 0 c1_0 (by decide) (by decide) rfl (by decide) ?_
        refine jo_aload 1 d_L_law_272 rfl rfl ?_
        refine jo_callV (st := []) (m_X11_status hs n M) ok_X11_status (And.intro (Nat.le_of_ble_eq_true rfl) (Nat.le_of_ble_eq_true rfl)) lm_L_13 in_X11_status se_X11_status rfl kc_0 rfl rfl (And.intro (Nat.le_of_ble_eq_true rfl) (Nat.le_of_ble_eq_true rfl)) rfl (Nat.le_of_ble_eq_true rfl) d_L_law_273 (fun r2 M3 => ?_)
        refine jo_aload 2 d_L_law_276 rfl rfl ?_
        refine jo_callV (st := [ji r2]) (m_X12_status hs n M3) ok_X12_status (And.intro (Nat.le_of_ble_eq_true rfl) (Nat.le_of_ble_eq_true rfl)) lm_L_17 in_X12_status se_X12_status rfl kc_167 rfl rfl (And.intro (Nat.le_of_ble_eq_true rfl) (Nat.le_of_ble_eq_true rfl)) rfl (Nat.le_of_ble_eq_true rfl) d_L_law_277 (fun r4 M5 => ?_)
        refine jo_icmp_eq 1977 d_L_law_280 (by decide) ?_ ?_
        · skip
          exact jO.sub (t_L_law_L1977 nm hs hsc n (f_L_law_L18 n g.2.2.2.2.2.2.2.1 (fun j => (g.2.2.2.2.2.2.2.2 j).toInt) k) ih v3 M5) (And.intro rfl (And.intro rfl (And.intro rfl (And.intro rfl True.intro))))
        · skip
          exact jO.none
      refine jo_if (fun c1_1 => ?_) (fun c1_1 => ?_)
      · skip
        refine jo_tabIn 285 d_L_law_33 1 c1_1 (by decide) (by decide) rfl (by decide) ?_
        refine jo_aload 1 d_L_law_285 rfl rfl ?_
        refine jo_callV (st := []) (m_X11_top hs n M) ok_X11_top (And.intro (Nat.le_of_ble_eq_true rfl) (Nat.le_of_ble_eq_true rfl)) lm_L_18 in_X11_top se_X11_top rfl kc_0 rfl rfl (And.intro (Nat.le_of_ble_eq_true rfl) (Nat.le_of_ble_eq_true rfl)) rfl (Nat.le_of_ble_eq_true rfl) d_L_law_286 (fun r6 M7 => ?_)
        refine jo_aload 2 d_L_law_289 rfl rfl ?_
        refine jo_callV (st := [jl r6]) (m_X12_top hs n M7) ok_X12_top (And.intro (Nat.le_of_ble_eq_true rfl) (Nat.le_of_ble_eq_true rfl)) lm_L_22 in_X12_top se_X12_top rfl kc_167 rfl rfl (And.intro (Nat.le_of_ble_eq_true rfl) (Nat.le_of_ble_eq_true rfl)) rfl (Nat.le_of_ble_eq_true rfl) d_L_law_290 (fun r8 M9 => ?_)
        refine jo_lcmp d_L_law_293 ?_
        refine jo_if_eq 1977 d_L_law_294 (by decide) ?_ ?_
        · skip
          exact jO.sub (t_L_law_L1977 nm hs hsc n (f_L_law_L18 n g.2.2.2.2.2.2.2.1 (fun j => (g.2.2.2.2.2.2.2.2 j).toInt) k) ih v3 M9) (And.intro rfl (And.intro rfl (And.intro rfl (And.intro rfl True.intro))))
        · skip
          exact jO.none
      refine jo_if (fun c1_2 => ?_) (fun c1_2 => ?_)
      · skip
        refine jo_tabIn 299 d_L_law_33 2 c1_2 (by decide) (by decide) rfl (by decide) ?_
        refine jo_aload 1 d_L_law_299 rfl rfl ?_
        refine jo_callV (st := []) (m_X11_bottom hs n M) ok_X11_bottom (And.intro (Nat.le_of_ble_eq_true rfl) (Nat.le_of_ble_eq_true rfl)) lm_L_23 in_X11_bottom se_X11_bottom rfl kc_0 rfl rfl (And.intro (Nat.le_of_ble_eq_true rfl) (Nat.le_of_ble_eq_true rfl)) rfl (Nat.le_of_ble_eq_true rfl) d_L_law_300 (fun r10 M11 => ?_)
        refine jo_aload 2 d_L_law_303 rfl rfl ?_
        refine jo_callV (st := [jl r10]) (m_X12_bottom hs n M11) ok_X12_bottom (And.intro (Nat.le_of_ble_eq_true rfl) (Nat.le_of_ble_eq_true rfl)) lm_L_26 in_X12_bottom se_X12_bottom rfl kc_167 rfl rfl (And.intro (Nat.le_of_ble_eq_true rfl) (Nat.le_of_ble_eq_true rfl)) rfl (Nat.le_of_ble_eq_true rfl) d_L_law_304 (fun r12 M13 => ?_)
        refine jo_lcmp d_L_law_307 ?_
        refine jo_if_eq 1977 d_L_law_308 (by decide) ?_ ?_
        · skip
          exact jO.sub (t_L_law_L1977 nm hs hsc n (f_L_law_L18 n g.2.2.2.2.2.2.2.1 (fun j => (g.2.2.2.2.2.2.2.2 j).toInt) k) ih v3 M13) (And.intro rfl (And.intro rfl (And.intro rfl (And.intro rfl True.intro))))
        · skip
          exact jO.none
      refine jo_if (fun c1_3 => ?_) (fun c1_3 => ?_)
      · skip
        refine jo_tabIn 313 d_L_law_33 3 c1_3 (by decide) (by decide) rfl (by decide) ?_
        refine jo_aload 1 d_L_law_313 rfl rfl ?_
        refine jo_aload 0 d_L_law_314 rfl rfl ?_
        refine jo_iload 3 d_L_law_315 rfl rfl ?_
        refine jo_iconst 1 d_L_law_316 ?_
        refine jo_iadd d_L_law_317 ?_
        refine jo_sld hsc d_L_law_318 ?_
        refine jo_aload 0 d_L_law_319 rfl rfl ?_
        refine jo_iload 3 d_L_law_320 rfl rfl ?_
        refine jo_iconst 2 d_L_law_321 ?_
        refine jo_iadd d_L_law_322 ?_
        refine jo_sld hsc d_L_law_323 ?_
        refine jo_aload 0 d_L_law_324 rfl rfl ?_
        refine jo_iload 3 d_L_law_325 rfl rfl ?_
        refine jo_iconst 3 d_L_law_326 ?_
        refine jo_iadd d_L_law_327 ?_
        refine jo_sld hsc d_L_law_328 ?_
        refine jo_callV (st := []) (m_X11_tray hs n ((fun j => (g.2.2.2.2.2.2.2.2 j).toInt) (jw (v3 + 1)).toNat) ((fun j => (g.2.2.2.2.2.2.2.2 j).toInt) (jw (v3 + 2)).toNat) ((fun j => (g.2.2.2.2.2.2.2.2 j).toInt) (jw (v3 + 3)).toNat) M) ok_X11_tray (And.intro (Nat.le_of_ble_eq_true rfl) (Nat.le_of_ble_eq_true rfl)) lm_L_27 in_X11_tray se_X11_tray rfl kc_0 rfl rfl (And.intro (Nat.le_of_ble_eq_true rfl) (Nat.le_of_ble_eq_true rfl)) rfl (Nat.le_of_ble_eq_true rfl) d_L_law_329 (fun r14 M15 => ?_)
        refine jo_aload 2 d_L_law_332 rfl rfl ?_
        refine jo_aload 0 d_L_law_333 rfl rfl ?_
        refine jo_iload 3 d_L_law_334 rfl rfl ?_
        refine jo_iconst 1 d_L_law_335 ?_
        refine jo_iadd d_L_law_336 ?_
        refine jo_sld hsc d_L_law_337 ?_
        refine jo_aload 0 d_L_law_338 rfl rfl ?_
        refine jo_iload 3 d_L_law_339 rfl rfl ?_
        refine jo_iconst 2 d_L_law_340 ?_
        refine jo_iadd d_L_law_341 ?_
        refine jo_sld hsc d_L_law_342 ?_
        refine jo_aload 0 d_L_law_343 rfl rfl ?_
        refine jo_iload 3 d_L_law_344 rfl rfl ?_
        refine jo_iconst 3 d_L_law_345 ?_
        refine jo_iadd d_L_law_346 ?_
        refine jo_sld hsc d_L_law_347 ?_
        refine jo_callV (st := [ji r14]) (m_X12_tray hs n ((fun j => (g.2.2.2.2.2.2.2.2 j).toInt) (jw (v3 + 1)).toNat) ((fun j => (g.2.2.2.2.2.2.2.2 j).toInt) (jw (v3 + 2)).toNat) ((fun j => (g.2.2.2.2.2.2.2.2 j).toInt) (jw (v3 + 3)).toNat) M15) ok_X12_tray (And.intro (Nat.le_of_ble_eq_true rfl) (Nat.le_of_ble_eq_true rfl)) lm_L_31 in_X12_tray se_X12_tray rfl kc_167 rfl rfl (And.intro (Nat.le_of_ble_eq_true rfl) (Nat.le_of_ble_eq_true rfl)) rfl (Nat.le_of_ble_eq_true rfl) d_L_law_348 (fun r16 M17 => ?_)
        refine jo_icmp_eq 1977 d_L_law_351 (by decide) ?_ ?_
        · skip
          exact jO.sub (t_L_law_L1977 nm hs hsc n (f_L_law_L18 n g.2.2.2.2.2.2.2.1 (fun j => (g.2.2.2.2.2.2.2.2 j).toInt) k) ih v3 M17) (And.intro rfl (And.intro rfl (And.intro rfl (And.intro rfl True.intro))))
        · skip
          exact jO.none
      refine jo_if (fun c1_4 => ?_) (fun c1_4 => ?_)
      · skip
        refine jo_tabIn 356 d_L_law_33 4 c1_4 (by decide) (by decide) rfl (by decide) ?_
        refine jo_aload 1 d_L_law_356 rfl rfl ?_
        refine jo_aload 0 d_L_law_357 rfl rfl ?_
        refine jo_iload 3 d_L_law_358 rfl rfl ?_
        refine jo_iconst 1 d_L_law_359 ?_
        refine jo_iadd d_L_law_360 ?_
        refine jo_sld hsc d_L_law_361 ?_
        refine jo_aload 0 d_L_law_362 rfl rfl ?_
        refine jo_iload 3 d_L_law_363 rfl rfl ?_
        refine jo_iconst 2 d_L_law_364 ?_
        refine jo_iadd d_L_law_365 ?_
        refine jo_sld hsc d_L_law_366 ?_
        refine jo_aload 0 d_L_law_367 rfl rfl ?_
        refine jo_iload 3 d_L_law_368 rfl rfl ?_
        refine jo_iconst 3 d_L_law_369 ?_
        refine jo_iadd d_L_law_370 ?_
        refine jo_sld hsc d_L_law_371 ?_
        refine jo_i2l d_L_law_372 ?_
        refine jo_bipush 32 d_L_law_373 (by decide) ?_
        refine jo_lshl d_L_law_375 ?_
        refine jo_aload 0 d_L_law_376 rfl rfl ?_
        refine jo_iload 3 d_L_law_377 rfl rfl ?_
        refine jo_iconst 4 d_L_law_378 ?_
        refine jo_iadd d_L_law_379 ?_
        refine jo_sld hsc d_L_law_380 ?_
        refine jo_i2l d_L_law_381 ?_
        refine jo_ldc2 4294967295 lc_L_32 d_L_law_382 ?_
        refine jo_land d_L_law_385 ?_
        refine jo_lor d_L_law_386 ?_
        refine jo_callV (st := []) (m_X11_write hs n ((fun j => (g.2.2.2.2.2.2.2.2 j).toInt) (jw (v3 + 1)).toNat) ((fun j => (g.2.2.2.2.2.2.2.2 j).toInt) (jw (v3 + 2)).toNat) (jlor (jlshl (jw ((fun j => (g.2.2.2.2.2.2.2.2 j).toInt) (jw (v3 + 3)).toNat)) 32) (jland (jw ((fun j => (g.2.2.2.2.2.2.2.2 j).toInt) (jw (v3 + 4)).toNat)) 4294967295)) M) ok_X11_write (And.intro (Nat.le_of_ble_eq_true rfl) (Nat.le_of_ble_eq_true rfl)) lm_L_34 in_X11_write se_X11_write rfl kc_0 rfl rfl (And.intro (Nat.le_of_ble_eq_true rfl) (Nat.le_of_ble_eq_true rfl)) rfl (Nat.le_of_ble_eq_true rfl) d_L_law_387 (fun r18 M19 => ?_)
        refine jo_aload 2 d_L_law_390 rfl rfl ?_
        refine jo_aload 0 d_L_law_391 rfl rfl ?_
        refine jo_iload 3 d_L_law_392 rfl rfl ?_
        refine jo_iconst 1 d_L_law_393 ?_
        refine jo_iadd d_L_law_394 ?_
        refine jo_sld hsc d_L_law_395 ?_
        refine jo_aload 0 d_L_law_396 rfl rfl ?_
        refine jo_iload 3 d_L_law_397 rfl rfl ?_
        refine jo_iconst 2 d_L_law_398 ?_
        refine jo_iadd d_L_law_399 ?_
        refine jo_sld hsc d_L_law_400 ?_
        refine jo_aload 0 d_L_law_401 rfl rfl ?_
        refine jo_iload 3 d_L_law_402 rfl rfl ?_
        refine jo_iconst 3 d_L_law_403 ?_
        refine jo_iadd d_L_law_404 ?_
        refine jo_sld hsc d_L_law_405 ?_
        refine jo_i2l d_L_law_406 ?_
        refine jo_bipush 32 d_L_law_407 (by decide) ?_
        refine jo_lshl d_L_law_409 ?_
        refine jo_aload 0 d_L_law_410 rfl rfl ?_
        refine jo_iload 3 d_L_law_411 rfl rfl ?_
        refine jo_iconst 4 d_L_law_412 ?_
        refine jo_iadd d_L_law_413 ?_
        refine jo_sld hsc d_L_law_414 ?_
        refine jo_i2l d_L_law_415 ?_
        refine jo_ldc2 4294967295 lc_L_32 d_L_law_416 ?_
        refine jo_land d_L_law_419 ?_
        refine jo_lor d_L_law_420 ?_
        refine jo_callV (st := [ji r18]) (m_X12_write hs n ((fun j => (g.2.2.2.2.2.2.2.2 j).toInt) (jw (v3 + 1)).toNat) ((fun j => (g.2.2.2.2.2.2.2.2 j).toInt) (jw (v3 + 2)).toNat) (jlor (jlshl (jw ((fun j => (g.2.2.2.2.2.2.2.2 j).toInt) (jw (v3 + 3)).toNat)) 32) (jland (jw ((fun j => (g.2.2.2.2.2.2.2.2 j).toInt) (jw (v3 + 4)).toNat)) 4294967295)) M19) ok_X12_write (And.intro (Nat.le_of_ble_eq_true rfl) (Nat.le_of_ble_eq_true rfl)) lm_L_38 in_X12_write se_X12_write rfl kc_167 rfl rfl (And.intro (Nat.le_of_ble_eq_true rfl) (Nat.le_of_ble_eq_true rfl)) rfl (Nat.le_of_ble_eq_true rfl) d_L_law_421 (fun r20 M21 => ?_)
        refine jo_icmp_eq 1977 d_L_law_424 (by decide) ?_ ?_
        · skip
          exact jO.sub (t_L_law_L1977 nm hs hsc n (f_L_law_L18 n g.2.2.2.2.2.2.2.1 (fun j => (g.2.2.2.2.2.2.2.2 j).toInt) k) ih v3 M21) (And.intro rfl (And.intro rfl (And.intro rfl (And.intro rfl True.intro))))
        · skip
          exact jO.none
      refine jo_if (fun c1_5 => ?_) (fun c1_5 => ?_)
      · skip
        refine jo_tabIn 429 d_L_law_33 5 c1_5 (by decide) (by decide) rfl (by decide) ?_
        refine jo_aload 1 d_L_law_429 rfl rfl ?_
        refine jo_aload 0 d_L_law_430 rfl rfl ?_
        refine jo_iload 3 d_L_law_431 rfl rfl ?_
        refine jo_iconst 1 d_L_law_432 ?_
        refine jo_iadd d_L_law_433 ?_
        refine jo_sld hsc d_L_law_434 ?_
        refine jo_aload 0 d_L_law_435 rfl rfl ?_
        refine jo_iload 3 d_L_law_436 rfl rfl ?_
        refine jo_iconst 2 d_L_law_437 ?_
        refine jo_iadd d_L_law_438 ?_
        refine jo_sld hsc d_L_law_439 ?_
        refine jo_callV (st := []) (m_X11_read hs n ((fun j => (g.2.2.2.2.2.2.2.2 j).toInt) (jw (v3 + 1)).toNat) ((fun j => (g.2.2.2.2.2.2.2.2 j).toInt) (jw (v3 + 2)).toNat) M) ok_X11_read (And.intro (Nat.le_of_ble_eq_true rfl) (Nat.le_of_ble_eq_true rfl)) lm_L_39 in_X11_read se_X11_read rfl kc_0 rfl rfl (And.intro (Nat.le_of_ble_eq_true rfl) (Nat.le_of_ble_eq_true rfl)) rfl (Nat.le_of_ble_eq_true rfl) d_L_law_440 (fun r22 M23 => ?_)
        refine jo_aload 2 d_L_law_443 rfl rfl ?_
        refine jo_aload 0 d_L_law_444 rfl rfl ?_
        refine jo_iload 3 d_L_law_445 rfl rfl ?_
        refine jo_iconst 1 d_L_law_446 ?_
        refine jo_iadd d_L_law_447 ?_
        refine jo_sld hsc d_L_law_448 ?_
        refine jo_aload 0 d_L_law_449 rfl rfl ?_
        refine jo_iload 3 d_L_law_450 rfl rfl ?_
        refine jo_iconst 2 d_L_law_451 ?_
        refine jo_iadd d_L_law_452 ?_
        refine jo_sld hsc d_L_law_453 ?_
        refine jo_callV (st := [jl r22]) (m_X12_read hs n ((fun j => (g.2.2.2.2.2.2.2.2 j).toInt) (jw (v3 + 1)).toNat) ((fun j => (g.2.2.2.2.2.2.2.2 j).toInt) (jw (v3 + 2)).toNat) M23) ok_X12_read (And.intro (Nat.le_of_ble_eq_true rfl) (Nat.le_of_ble_eq_true rfl)) lm_L_43 in_X12_read se_X12_read rfl kc_167 rfl rfl (And.intro (Nat.le_of_ble_eq_true rfl) (Nat.le_of_ble_eq_true rfl)) rfl (Nat.le_of_ble_eq_true rfl) d_L_law_454 (fun r24 M25 => ?_)
        refine jo_lcmp d_L_law_457 ?_
        refine jo_if_eq 1977 d_L_law_458 (by decide) ?_ ?_
        · skip
          exact jO.sub (t_L_law_L1977 nm hs hsc n (f_L_law_L18 n g.2.2.2.2.2.2.2.1 (fun j => (g.2.2.2.2.2.2.2.2 j).toInt) k) ih v3 M25) (And.intro rfl (And.intro rfl (And.intro rfl (And.intro rfl True.intro))))
        · skip
          exact jO.none
      refine jo_if (fun c1_6 => ?_) (fun c1_6 => ?_)
      · skip
        refine jo_tabIn 463 d_L_law_33 6 c1_6 (by decide) (by decide) rfl (by decide) ?_
        refine jo_aload 1 d_L_law_463 rfl rfl ?_
        refine jo_aload 0 d_L_law_464 rfl rfl ?_
        refine jo_iload 3 d_L_law_465 rfl rfl ?_
        refine jo_iconst 1 d_L_law_466 ?_
        refine jo_iadd d_L_law_467 ?_
        refine jo_sld hsc d_L_law_468 ?_
        refine jo_aload 0 d_L_law_469 rfl rfl ?_
        refine jo_iload 3 d_L_law_470 rfl rfl ?_
        refine jo_iconst 2 d_L_law_471 ?_
        refine jo_iadd d_L_law_472 ?_
        refine jo_sld hsc d_L_law_473 ?_
        refine jo_aload 0 d_L_law_474 rfl rfl ?_
        refine jo_iload 3 d_L_law_475 rfl rfl ?_
        refine jo_iconst 3 d_L_law_476 ?_
        refine jo_iadd d_L_law_477 ?_
        refine jo_sld hsc d_L_law_478 ?_
        refine jo_aload 0 d_L_law_479 rfl rfl ?_
        refine jo_iload 3 d_L_law_480 rfl rfl ?_
        refine jo_iconst 4 d_L_law_481 ?_
        refine jo_iadd d_L_law_482 ?_
        refine jo_sld hsc d_L_law_483 ?_
        refine jo_aload 0 d_L_law_484 rfl rfl ?_
        refine jo_iload 3 d_L_law_485 rfl rfl ?_
        refine jo_iconst 5 d_L_law_486 ?_
        refine jo_iadd d_L_law_487 ?_
        refine jo_sld hsc d_L_law_488 ?_
        refine jo_callV (st := []) (m_X11_pour hs n ((fun j => (g.2.2.2.2.2.2.2.2 j).toInt) (jw (v3 + 1)).toNat) ((fun j => (g.2.2.2.2.2.2.2.2 j).toInt) (jw (v3 + 2)).toNat) ((fun j => (g.2.2.2.2.2.2.2.2 j).toInt) (jw (v3 + 3)).toNat) ((fun j => (g.2.2.2.2.2.2.2.2 j).toInt) (jw (v3 + 4)).toNat) ((fun j => (g.2.2.2.2.2.2.2.2 j).toInt) (jw (v3 + 5)).toNat) M) ok_X11_pour (And.intro (Nat.le_of_ble_eq_true rfl) (Nat.le_of_ble_eq_true rfl)) lm_L_44 in_X11_pour se_X11_pour rfl kc_0 rfl rfl (And.intro (Nat.le_of_ble_eq_true rfl) (Nat.le_of_ble_eq_true rfl)) rfl (Nat.le_of_ble_eq_true rfl) d_L_law_489 (fun r26 M27 => ?_)
        refine jo_aload 2 d_L_law_492 rfl rfl ?_
        refine jo_aload 0 d_L_law_493 rfl rfl ?_
        refine jo_iload 3 d_L_law_494 rfl rfl ?_
        refine jo_iconst 1 d_L_law_495 ?_
        refine jo_iadd d_L_law_496 ?_
        refine jo_sld hsc d_L_law_497 ?_
        refine jo_aload 0 d_L_law_498 rfl rfl ?_
        refine jo_iload 3 d_L_law_499 rfl rfl ?_
        refine jo_iconst 2 d_L_law_500 ?_
        refine jo_iadd d_L_law_501 ?_
        refine jo_sld hsc d_L_law_502 ?_
        refine jo_aload 0 d_L_law_503 rfl rfl ?_
        refine jo_iload 3 d_L_law_504 rfl rfl ?_
        refine jo_iconst 3 d_L_law_505 ?_
        refine jo_iadd d_L_law_506 ?_
        refine jo_sld hsc d_L_law_507 ?_
        refine jo_aload 0 d_L_law_508 rfl rfl ?_
        refine jo_iload 3 d_L_law_509 rfl rfl ?_
        refine jo_iconst 4 d_L_law_510 ?_
        refine jo_iadd d_L_law_511 ?_
        refine jo_sld hsc d_L_law_512 ?_
        refine jo_aload 0 d_L_law_513 rfl rfl ?_
        refine jo_iload 3 d_L_law_514 rfl rfl ?_
        refine jo_iconst 5 d_L_law_515 ?_
        refine jo_iadd d_L_law_516 ?_
        refine jo_sld hsc d_L_law_517 ?_
        refine jo_callV (st := [ji r26]) (m_X12_pour hs n ((fun j => (g.2.2.2.2.2.2.2.2 j).toInt) (jw (v3 + 1)).toNat) ((fun j => (g.2.2.2.2.2.2.2.2 j).toInt) (jw (v3 + 2)).toNat) ((fun j => (g.2.2.2.2.2.2.2.2 j).toInt) (jw (v3 + 3)).toNat) ((fun j => (g.2.2.2.2.2.2.2.2 j).toInt) (jw (v3 + 4)).toNat) ((fun j => (g.2.2.2.2.2.2.2.2 j).toInt) (jw (v3 + 5)).toNat) M27) ok_X12_pour (And.intro (Nat.le_of_ble_eq_true rfl) (Nat.le_of_ble_eq_true rfl)) lm_L_48 in_X12_pour se_X12_pour rfl kc_167 rfl rfl (And.intro (Nat.le_of_ble_eq_true rfl) (Nat.le_of_ble_eq_true rfl)) rfl (Nat.le_of_ble_eq_true rfl) d_L_law_518 (fun r28 M29 => ?_)
        refine jo_icmp_eq 1977 d_L_law_521 (by decide) ?_ ?_
        · skip
          exact jO.sub (t_L_law_L1977 nm hs hsc n (f_L_law_L18 n g.2.2.2.2.2.2.2.1 (fun j => (g.2.2.2.2.2.2.2.2 j).toInt) k) ih v3 M29) (And.intro rfl (And.intro rfl (And.intro rfl (And.intro rfl True.intro))))
        · skip
          exact jO.none
      refine jo_if (fun c1_7 => ?_) (fun c1_7 => ?_)
      · skip
        refine jo_tabIn 526 d_L_law_33 7 c1_7 (by decide) (by decide) rfl (by decide) ?_
        refine jo_aload 1 d_L_law_526 rfl rfl ?_
        refine jo_aload 0 d_L_law_527 rfl rfl ?_
        refine jo_iload 3 d_L_law_528 rfl rfl ?_
        refine jo_iconst 1 d_L_law_529 ?_
        refine jo_iadd d_L_law_530 ?_
        refine jo_sld hsc d_L_law_531 ?_
        refine jo_aload 0 d_L_law_532 rfl rfl ?_
        refine jo_iload 3 d_L_law_533 rfl rfl ?_
        refine jo_iconst 2 d_L_law_534 ?_
        refine jo_iadd d_L_law_535 ?_
        refine jo_sld hsc d_L_law_536 ?_
        refine jo_aload 0 d_L_law_537 rfl rfl ?_
        refine jo_iload 3 d_L_law_538 rfl rfl ?_
        refine jo_iconst 3 d_L_law_539 ?_
        refine jo_iadd d_L_law_540 ?_
        refine jo_sld hsc d_L_law_541 ?_
        refine jo_aload 0 d_L_law_542 rfl rfl ?_
        refine jo_iload 3 d_L_law_543 rfl rfl ?_
        refine jo_iconst 4 d_L_law_544 ?_
        refine jo_iadd d_L_law_545 ?_
        refine jo_sld hsc d_L_law_546 ?_
        refine jo_aload 0 d_L_law_547 rfl rfl ?_
        refine jo_iload 3 d_L_law_548 rfl rfl ?_
        refine jo_iconst 5 d_L_law_549 ?_
        refine jo_iadd d_L_law_550 ?_
        refine jo_sld hsc d_L_law_551 ?_
        refine jo_callV (st := []) (m_X11_feed hs n ((fun j => (g.2.2.2.2.2.2.2.2 j).toInt) (jw (v3 + 1)).toNat) ((fun j => (g.2.2.2.2.2.2.2.2 j).toInt) (jw (v3 + 2)).toNat) ((fun j => (g.2.2.2.2.2.2.2.2 j).toInt) (jw (v3 + 3)).toNat) ((fun j => (g.2.2.2.2.2.2.2.2 j).toInt) (jw (v3 + 4)).toNat) ((fun j => (g.2.2.2.2.2.2.2.2 j).toInt) (jw (v3 + 5)).toNat) M) ok_X11_feed (And.intro (Nat.le_of_ble_eq_true rfl) (Nat.le_of_ble_eq_true rfl)) lm_L_49 in_X11_feed se_X11_feed rfl kc_0 rfl rfl (And.intro (Nat.le_of_ble_eq_true rfl) (Nat.le_of_ble_eq_true rfl)) rfl (Nat.le_of_ble_eq_true rfl) d_L_law_552 (fun r30 M31 => ?_)
        refine jo_aload 2 d_L_law_555 rfl rfl ?_
        refine jo_aload 0 d_L_law_556 rfl rfl ?_
        refine jo_iload 3 d_L_law_557 rfl rfl ?_
        refine jo_iconst 1 d_L_law_558 ?_
        refine jo_iadd d_L_law_559 ?_
        refine jo_sld hsc d_L_law_560 ?_
        refine jo_aload 0 d_L_law_561 rfl rfl ?_
        refine jo_iload 3 d_L_law_562 rfl rfl ?_
        refine jo_iconst 2 d_L_law_563 ?_
        refine jo_iadd d_L_law_564 ?_
        refine jo_sld hsc d_L_law_565 ?_
        refine jo_aload 0 d_L_law_566 rfl rfl ?_
        refine jo_iload 3 d_L_law_567 rfl rfl ?_
        refine jo_iconst 3 d_L_law_568 ?_
        refine jo_iadd d_L_law_569 ?_
        refine jo_sld hsc d_L_law_570 ?_
        refine jo_aload 0 d_L_law_571 rfl rfl ?_
        refine jo_iload 3 d_L_law_572 rfl rfl ?_
        refine jo_iconst 4 d_L_law_573 ?_
        refine jo_iadd d_L_law_574 ?_
        refine jo_sld hsc d_L_law_575 ?_
        refine jo_aload 0 d_L_law_576 rfl rfl ?_
        refine jo_iload 3 d_L_law_577 rfl rfl ?_
        refine jo_iconst 5 d_L_law_578 ?_
        refine jo_iadd d_L_law_579 ?_
        refine jo_sld hsc d_L_law_580 ?_
        refine jo_callV (st := [ji r30]) (m_X12_feed hs n ((fun j => (g.2.2.2.2.2.2.2.2 j).toInt) (jw (v3 + 1)).toNat) ((fun j => (g.2.2.2.2.2.2.2.2 j).toInt) (jw (v3 + 2)).toNat) ((fun j => (g.2.2.2.2.2.2.2.2 j).toInt) (jw (v3 + 3)).toNat) ((fun j => (g.2.2.2.2.2.2.2.2 j).toInt) (jw (v3 + 4)).toNat) ((fun j => (g.2.2.2.2.2.2.2.2 j).toInt) (jw (v3 + 5)).toNat) M31) ok_X12_feed (And.intro (Nat.le_of_ble_eq_true rfl) (Nat.le_of_ble_eq_true rfl)) lm_L_53 in_X12_feed se_X12_feed rfl kc_167 rfl rfl (And.intro (Nat.le_of_ble_eq_true rfl) (Nat.le_of_ble_eq_true rfl)) rfl (Nat.le_of_ble_eq_true rfl) d_L_law_581 (fun r32 M33 => ?_)
        refine jo_icmp_eq 1977 d_L_law_584 (by decide) ?_ ?_
        · skip
          exact jO.sub (t_L_law_L1977 nm hs hsc n (f_L_law_L18 n g.2.2.2.2.2.2.2.1 (fun j => (g.2.2.2.2.2.2.2.2 j).toInt) k) ih v3 M33) (And.intro rfl (And.intro rfl (And.intro rfl (And.intro rfl True.intro))))
        · skip
          exact jO.none
      refine jo_if (fun c1_8 => ?_) (fun c1_8 => ?_)
      · skip
        refine jo_tabIn 589 d_L_law_33 8 c1_8 (by decide) (by decide) rfl (by decide) ?_
        refine jo_aload 1 d_L_law_589 rfl rfl ?_
        refine jo_aload 0 d_L_law_590 rfl rfl ?_
        refine jo_iload 3 d_L_law_591 rfl rfl ?_
        refine jo_iconst 1 d_L_law_592 ?_
        refine jo_iadd d_L_law_593 ?_
        refine jo_sld hsc d_L_law_594 ?_
        refine jo_callV (st := []) (m_X11_park hs n ((fun j => (g.2.2.2.2.2.2.2.2 j).toInt) (jw (v3 + 1)).toNat) M) ok_X11_park (And.intro (Nat.le_of_ble_eq_true rfl) (Nat.le_of_ble_eq_true rfl)) lm_L_54 in_X11_park se_X11_park rfl kc_0 rfl rfl (And.intro (Nat.le_of_ble_eq_true rfl) (Nat.le_of_ble_eq_true rfl)) rfl (Nat.le_of_ble_eq_true rfl) d_L_law_595 (fun r34 M35 => ?_)
        refine jo_aload 2 d_L_law_598 rfl rfl ?_
        refine jo_aload 0 d_L_law_599 rfl rfl ?_
        refine jo_iload 3 d_L_law_600 rfl rfl ?_
        refine jo_iconst 1 d_L_law_601 ?_
        refine jo_iadd d_L_law_602 ?_
        refine jo_sld hsc d_L_law_603 ?_
        refine jo_callV (st := [ji r34]) (m_X12_park hs n ((fun j => (g.2.2.2.2.2.2.2.2 j).toInt) (jw (v3 + 1)).toNat) M35) ok_X12_park (And.intro (Nat.le_of_ble_eq_true rfl) (Nat.le_of_ble_eq_true rfl)) lm_L_58 in_X12_park se_X12_park rfl kc_167 rfl rfl (And.intro (Nat.le_of_ble_eq_true rfl) (Nat.le_of_ble_eq_true rfl)) rfl (Nat.le_of_ble_eq_true rfl) d_L_law_604 (fun r36 M37 => ?_)
        refine jo_icmp_eq 1977 d_L_law_607 (by decide) ?_ ?_
        · skip
          exact jO.sub (t_L_law_L1977 nm hs hsc n (f_L_law_L18 n g.2.2.2.2.2.2.2.1 (fun j => (g.2.2.2.2.2.2.2.2 j).toInt) k) ih v3 M37) (And.intro rfl (And.intro rfl (And.intro rfl (And.intro rfl True.intro))))
        · skip
          exact jO.none
      refine jo_if (fun c1_9 => ?_) (fun c1_9 => ?_)
      · skip
        refine jo_tabIn 612 d_L_law_33 9 c1_9 (by decide) (by decide) rfl (by decide) ?_
        refine jo_aload 1 d_L_law_612 rfl rfl ?_
        refine jo_aload 0 d_L_law_613 rfl rfl ?_
        refine jo_iload 3 d_L_law_614 rfl rfl ?_
        refine jo_iconst 1 d_L_law_615 ?_
        refine jo_iadd d_L_law_616 ?_
        refine jo_sld hsc d_L_law_617 ?_
        refine jo_callV (st := []) (m_X11_weeks hs n ((fun j => (g.2.2.2.2.2.2.2.2 j).toInt) (jw (v3 + 1)).toNat) M) ok_X11_weeks (And.intro (Nat.le_of_ble_eq_true rfl) (Nat.le_of_ble_eq_true rfl)) lm_L_59 in_X11_weeks se_X11_weeks rfl kc_0 rfl rfl (And.intro (Nat.le_of_ble_eq_true rfl) (Nat.le_of_ble_eq_true rfl)) rfl (Nat.le_of_ble_eq_true rfl) d_L_law_618 (fun r38 M39 => ?_)
        refine jo_aload 2 d_L_law_621 rfl rfl ?_
        refine jo_aload 0 d_L_law_622 rfl rfl ?_
        refine jo_iload 3 d_L_law_623 rfl rfl ?_
        refine jo_iconst 1 d_L_law_624 ?_
        refine jo_iadd d_L_law_625 ?_
        refine jo_sld hsc d_L_law_626 ?_
        refine jo_callV (st := [ji r38]) (m_X12_weeks hs n ((fun j => (g.2.2.2.2.2.2.2.2 j).toInt) (jw (v3 + 1)).toNat) M39) ok_X12_weeks (And.intro (Nat.le_of_ble_eq_true rfl) (Nat.le_of_ble_eq_true rfl)) lm_L_62 in_X12_weeks se_X12_weeks rfl kc_167 rfl rfl (And.intro (Nat.le_of_ble_eq_true rfl) (Nat.le_of_ble_eq_true rfl)) rfl (Nat.le_of_ble_eq_true rfl) d_L_law_627 (fun r40 M41 => ?_)
        refine jo_icmp_eq 1977 d_L_law_630 (by decide) ?_ ?_
        · skip
          exact jO.sub (t_L_law_L1977 nm hs hsc n (f_L_law_L18 n g.2.2.2.2.2.2.2.1 (fun j => (g.2.2.2.2.2.2.2.2 j).toInt) k) ih v3 M41) (And.intro rfl (And.intro rfl (And.intro rfl (And.intro rfl True.intro))))
        · skip
          exact jO.none
      refine jo_if (fun c1_10 => ?_) (fun c1_10 => ?_)
      · skip
        refine jo_tabIn 635 d_L_law_33 10 c1_10 (by decide) (by decide) rfl (by decide) ?_
        refine jo_aload 1 d_L_law_635 rfl rfl ?_
        refine jo_aload 0 d_L_law_636 rfl rfl ?_
        refine jo_iload 3 d_L_law_637 rfl rfl ?_
        refine jo_iconst 1 d_L_law_638 ?_
        refine jo_iadd d_L_law_639 ?_
        refine jo_sld hsc d_L_law_640 ?_
        refine jo_callV (st := []) (m_X11_fault hs n ((fun j => (g.2.2.2.2.2.2.2.2 j).toInt) (jw (v3 + 1)).toNat) M) ok_X11_fault (And.intro (Nat.le_of_ble_eq_true rfl) (Nat.le_of_ble_eq_true rfl)) lm_L_63 in_X11_fault se_X11_fault rfl kc_0 rfl rfl (And.intro (Nat.le_of_ble_eq_true rfl) (Nat.le_of_ble_eq_true rfl)) rfl (Nat.le_of_ble_eq_true rfl) d_L_law_641 (fun r42 M43 => ?_)
        refine jo_aload 2 d_L_law_644 rfl rfl ?_
        refine jo_aload 0 d_L_law_645 rfl rfl ?_
        refine jo_iload 3 d_L_law_646 rfl rfl ?_
        refine jo_iconst 1 d_L_law_647 ?_
        refine jo_iadd d_L_law_648 ?_
        refine jo_sld hsc d_L_law_649 ?_
        refine jo_callV (st := [ji r42]) (m_X12_fault hs n ((fun j => (g.2.2.2.2.2.2.2.2 j).toInt) (jw (v3 + 1)).toNat) M43) ok_X12_fault (And.intro (Nat.le_of_ble_eq_true rfl) (Nat.le_of_ble_eq_true rfl)) lm_L_66 in_X12_fault se_X12_fault rfl kc_167 rfl rfl (And.intro (Nat.le_of_ble_eq_true rfl) (Nat.le_of_ble_eq_true rfl)) rfl (Nat.le_of_ble_eq_true rfl) d_L_law_650 (fun r44 M45 => ?_)
        refine jo_icmp_eq 1977 d_L_law_653 (by decide) ?_ ?_
        · skip
          exact jO.sub (t_L_law_L1977 nm hs hsc n (f_L_law_L18 n g.2.2.2.2.2.2.2.1 (fun j => (g.2.2.2.2.2.2.2.2 j).toInt) k) ih v3 M45) (And.intro rfl (And.intro rfl (And.intro rfl (And.intro rfl True.intro))))
        · skip
          exact jO.none
      refine jo_if (fun c1_11 => ?_) (fun c1_11 => ?_)
      · skip
        refine jo_tabIn 658 d_L_law_33 11 c1_11 (by decide) (by decide) rfl (by decide) ?_
        refine jo_aload 1 d_L_law_658 rfl rfl ?_
        refine jo_aload 0 d_L_law_659 rfl rfl ?_
        refine jo_iload 3 d_L_law_660 rfl rfl ?_
        refine jo_iconst 1 d_L_law_661 ?_
        refine jo_iadd d_L_law_662 ?_
        refine jo_sld hsc d_L_law_663 ?_
        refine jo_callV (st := []) (m_X11_told hs n ((fun j => (g.2.2.2.2.2.2.2.2 j).toInt) (jw (v3 + 1)).toNat) M) ok_X11_told (And.intro (Nat.le_of_ble_eq_true rfl) (Nat.le_of_ble_eq_true rfl)) lm_L_67 in_X11_told se_X11_told rfl kc_0 rfl rfl (And.intro (Nat.le_of_ble_eq_true rfl) (Nat.le_of_ble_eq_true rfl)) rfl (Nat.le_of_ble_eq_true rfl) d_L_law_664 (fun r46 M47 => ?_)
        refine jo_aload 2 d_L_law_667 rfl rfl ?_
        refine jo_aload 0 d_L_law_668 rfl rfl ?_
        refine jo_iload 3 d_L_law_669 rfl rfl ?_
        refine jo_iconst 1 d_L_law_670 ?_
        refine jo_iadd d_L_law_671 ?_
        refine jo_sld hsc d_L_law_672 ?_
        refine jo_callV (st := [ji r46]) (m_X12_told hs n ((fun j => (g.2.2.2.2.2.2.2.2 j).toInt) (jw (v3 + 1)).toNat) M47) ok_X12_told (And.intro (Nat.le_of_ble_eq_true rfl) (Nat.le_of_ble_eq_true rfl)) lm_L_70 in_X12_told se_X12_told rfl kc_167 rfl rfl (And.intro (Nat.le_of_ble_eq_true rfl) (Nat.le_of_ble_eq_true rfl)) rfl (Nat.le_of_ble_eq_true rfl) d_L_law_673 (fun r48 M49 => ?_)
        refine jo_icmp_eq 1977 d_L_law_676 (by decide) ?_ ?_
        · skip
          exact jO.sub (t_L_law_L1977 nm hs hsc n (f_L_law_L18 n g.2.2.2.2.2.2.2.1 (fun j => (g.2.2.2.2.2.2.2.2 j).toInt) k) ih v3 M49) (And.intro rfl (And.intro rfl (And.intro rfl (And.intro rfl True.intro))))
        · skip
          exact jO.none
      refine jo_if (fun c1_12 => ?_) (fun c1_12 => ?_)
      · skip
        refine jo_tabIn 681 d_L_law_33 12 c1_12 (by decide) (by decide) rfl (by decide) ?_
        refine jo_aload 1 d_L_law_681 rfl rfl ?_
        refine jo_aload 0 d_L_law_682 rfl rfl ?_
        refine jo_iload 3 d_L_law_683 rfl rfl ?_
        refine jo_iconst 1 d_L_law_684 ?_
        refine jo_iadd d_L_law_685 ?_
        refine jo_sld hsc d_L_law_686 ?_
        refine jo_aload 0 d_L_law_687 rfl rfl ?_
        refine jo_iload 3 d_L_law_688 rfl rfl ?_
        refine jo_iconst 2 d_L_law_689 ?_
        refine jo_iadd d_L_law_690 ?_
        refine jo_sld hsc d_L_law_691 ?_
        refine jo_callV (st := []) (m_X11_train hs n ((fun j => (g.2.2.2.2.2.2.2.2 j).toInt) (jw (v3 + 1)).toNat) ((fun j => (g.2.2.2.2.2.2.2.2 j).toInt) (jw (v3 + 2)).toNat) M) ok_X11_train (And.intro (Nat.le_of_ble_eq_true rfl) (Nat.le_of_ble_eq_true rfl)) lm_L_71 in_X11_train se_X11_train rfl kc_0 rfl rfl (And.intro (Nat.le_of_ble_eq_true rfl) (Nat.le_of_ble_eq_true rfl)) rfl (Nat.le_of_ble_eq_true rfl) d_L_law_692 (fun r50 M51 => ?_)
        refine jo_aload 2 d_L_law_695 rfl rfl ?_
        refine jo_aload 0 d_L_law_696 rfl rfl ?_
        refine jo_iload 3 d_L_law_697 rfl rfl ?_
        refine jo_iconst 1 d_L_law_698 ?_
        refine jo_iadd d_L_law_699 ?_
        refine jo_sld hsc d_L_law_700 ?_
        refine jo_aload 0 d_L_law_701 rfl rfl ?_
        refine jo_iload 3 d_L_law_702 rfl rfl ?_
        refine jo_iconst 2 d_L_law_703 ?_
        refine jo_iadd d_L_law_704 ?_
        refine jo_sld hsc d_L_law_705 ?_
        refine jo_callV (st := [ji r50]) (m_X12_train hs n ((fun j => (g.2.2.2.2.2.2.2.2 j).toInt) (jw (v3 + 1)).toNat) ((fun j => (g.2.2.2.2.2.2.2.2 j).toInt) (jw (v3 + 2)).toNat) M51) ok_X12_train (And.intro (Nat.le_of_ble_eq_true rfl) (Nat.le_of_ble_eq_true rfl)) lm_L_75 in_X12_train se_X12_train rfl kc_167 rfl rfl (And.intro (Nat.le_of_ble_eq_true rfl) (Nat.le_of_ble_eq_true rfl)) rfl (Nat.le_of_ble_eq_true rfl) d_L_law_706 (fun r52 M53 => ?_)
        refine jo_icmp_eq 1977 d_L_law_709 (by decide) ?_ ?_
        · skip
          exact jO.sub (t_L_law_L1977 nm hs hsc n (f_L_law_L18 n g.2.2.2.2.2.2.2.1 (fun j => (g.2.2.2.2.2.2.2.2 j).toInt) k) ih v3 M53) (And.intro rfl (And.intro rfl (And.intro rfl (And.intro rfl True.intro))))
        · skip
          exact jO.none
      refine jo_if (fun c1_13 => ?_) (fun c1_13 => ?_)
      · skip
        refine jo_tabIn 714 d_L_law_33 13 c1_13 (by decide) (by decide) rfl (by decide) ?_
        refine jo_aload 1 d_L_law_714 rfl rfl ?_
        refine jo_aload 0 d_L_law_715 rfl rfl ?_
        refine jo_iload 3 d_L_law_716 rfl rfl ?_
        refine jo_iconst 1 d_L_law_717 ?_
        refine jo_iadd d_L_law_718 ?_
        refine jo_sld hsc d_L_law_719 ?_
        refine jo_aload 0 d_L_law_720 rfl rfl ?_
        refine jo_iload 3 d_L_law_721 rfl rfl ?_
        refine jo_iconst 2 d_L_law_722 ?_
        refine jo_iadd d_L_law_723 ?_
        refine jo_sld hsc d_L_law_724 ?_
        refine jo_callV (st := []) (m_X11_beast hs n ((fun j => (g.2.2.2.2.2.2.2.2 j).toInt) (jw (v3 + 1)).toNat) ((fun j => (g.2.2.2.2.2.2.2.2 j).toInt) (jw (v3 + 2)).toNat) M) ok_X11_beast (And.intro (Nat.le_of_ble_eq_true rfl) (Nat.le_of_ble_eq_true rfl)) lm_L_76 in_X11_beast se_X11_beast rfl kc_0 rfl rfl (And.intro (Nat.le_of_ble_eq_true rfl) (Nat.le_of_ble_eq_true rfl)) rfl (Nat.le_of_ble_eq_true rfl) d_L_law_725 (fun r54 M55 => ?_)
        refine jo_aload 2 d_L_law_728 rfl rfl ?_
        refine jo_aload 0 d_L_law_729 rfl rfl ?_
        refine jo_iload 3 d_L_law_730 rfl rfl ?_
        refine jo_iconst 1 d_L_law_731 ?_
        refine jo_iadd d_L_law_732 ?_
        refine jo_sld hsc d_L_law_733 ?_
        refine jo_aload 0 d_L_law_734 rfl rfl ?_
        refine jo_iload 3 d_L_law_735 rfl rfl ?_
        refine jo_iconst 2 d_L_law_736 ?_
        refine jo_iadd d_L_law_737 ?_
        refine jo_sld hsc d_L_law_738 ?_
        refine jo_callV (st := [ji r54]) (m_X12_beast hs n ((fun j => (g.2.2.2.2.2.2.2.2 j).toInt) (jw (v3 + 1)).toNat) ((fun j => (g.2.2.2.2.2.2.2.2 j).toInt) (jw (v3 + 2)).toNat) M55) ok_X12_beast (And.intro (Nat.le_of_ble_eq_true rfl) (Nat.le_of_ble_eq_true rfl)) lm_L_79 in_X12_beast se_X12_beast rfl kc_167 rfl rfl (And.intro (Nat.le_of_ble_eq_true rfl) (Nat.le_of_ble_eq_true rfl)) rfl (Nat.le_of_ble_eq_true rfl) d_L_law_739 (fun r56 M57 => ?_)
        refine jo_icmp_eq 1977 d_L_law_742 (by decide) ?_ ?_
        · skip
          exact jO.sub (t_L_law_L1977 nm hs hsc n (f_L_law_L18 n g.2.2.2.2.2.2.2.1 (fun j => (g.2.2.2.2.2.2.2.2 j).toInt) k) ih v3 M57) (And.intro rfl (And.intro rfl (And.intro rfl (And.intro rfl True.intro))))
        · skip
          exact jO.none
      refine jo_if (fun c1_14 => ?_) (fun c1_14 => ?_)
      · skip
        refine jo_tabIn 747 d_L_law_33 14 c1_14 (by decide) (by decide) rfl (by decide) ?_
        refine jo_aload 1 d_L_law_747 rfl rfl ?_
        refine jo_aload 0 d_L_law_748 rfl rfl ?_
        refine jo_iload 3 d_L_law_749 rfl rfl ?_
        refine jo_iconst 1 d_L_law_750 ?_
        refine jo_iadd d_L_law_751 ?_
        refine jo_sld hsc d_L_law_752 ?_
        refine jo_callV (st := []) (m_X11_at hs n ((fun j => (g.2.2.2.2.2.2.2.2 j).toInt) (jw (v3 + 1)).toNat) M) ok_X11_at (And.intro (Nat.le_of_ble_eq_true rfl) (Nat.le_of_ble_eq_true rfl)) lm_L_80 in_X11_at se_X11_at rfl kc_0 rfl rfl (And.intro (Nat.le_of_ble_eq_true rfl) (Nat.le_of_ble_eq_true rfl)) rfl (Nat.le_of_ble_eq_true rfl) d_L_law_753 (fun r58 M59 => ?_)
        refine jo_aload 2 d_L_law_756 rfl rfl ?_
        refine jo_aload 0 d_L_law_757 rfl rfl ?_
        refine jo_iload 3 d_L_law_758 rfl rfl ?_
        refine jo_iconst 1 d_L_law_759 ?_
        refine jo_iadd d_L_law_760 ?_
        refine jo_sld hsc d_L_law_761 ?_
        refine jo_callV (st := [ji r58]) (m_X12_at hs n ((fun j => (g.2.2.2.2.2.2.2.2 j).toInt) (jw (v3 + 1)).toNat) M59) ok_X12_at (And.intro (Nat.le_of_ble_eq_true rfl) (Nat.le_of_ble_eq_true rfl)) lm_L_83 in_X12_at se_X12_at rfl kc_167 rfl rfl (And.intro (Nat.le_of_ble_eq_true rfl) (Nat.le_of_ble_eq_true rfl)) rfl (Nat.le_of_ble_eq_true rfl) d_L_law_762 (fun r60 M61 => ?_)
        refine jo_icmp_eq 1977 d_L_law_765 (by decide) ?_ ?_
        · skip
          exact jO.sub (t_L_law_L1977 nm hs hsc n (f_L_law_L18 n g.2.2.2.2.2.2.2.1 (fun j => (g.2.2.2.2.2.2.2.2 j).toInt) k) ih v3 M61) (And.intro rfl (And.intro rfl (And.intro rfl (And.intro rfl True.intro))))
        · skip
          exact jO.none
      refine jo_if (fun c1_15 => ?_) (fun c1_15 => ?_)
      · skip
        refine jo_tabIn 770 d_L_law_33 15 c1_15 (by decide) (by decide) rfl (by decide) ?_
        refine jo_aload 1 d_L_law_770 rfl rfl ?_
        refine jo_aload 0 d_L_law_771 rfl rfl ?_
        refine jo_iload 3 d_L_law_772 rfl rfl ?_
        refine jo_iconst 1 d_L_law_773 ?_
        refine jo_iadd d_L_law_774 ?_
        refine jo_sld hsc d_L_law_775 ?_
        refine jo_callV (st := []) (m_X11_there hs n ((fun j => (g.2.2.2.2.2.2.2.2 j).toInt) (jw (v3 + 1)).toNat) M) ok_X11_there (And.intro (Nat.le_of_ble_eq_true rfl) (Nat.le_of_ble_eq_true rfl)) lm_L_84 in_X11_there se_X11_there rfl kc_0 rfl rfl (And.intro (Nat.le_of_ble_eq_true rfl) (Nat.le_of_ble_eq_true rfl)) rfl (Nat.le_of_ble_eq_true rfl) d_L_law_776 (fun r62 M63 => ?_)
        refine jo_aload 2 d_L_law_779 rfl rfl ?_
        refine jo_aload 0 d_L_law_780 rfl rfl ?_
        refine jo_iload 3 d_L_law_781 rfl rfl ?_
        refine jo_iconst 1 d_L_law_782 ?_
        refine jo_iadd d_L_law_783 ?_
        refine jo_sld hsc d_L_law_784 ?_
        refine jo_callV (st := [ji r62]) (m_X12_there hs n ((fun j => (g.2.2.2.2.2.2.2.2 j).toInt) (jw (v3 + 1)).toNat) M63) ok_X12_there (And.intro (Nat.le_of_ble_eq_true rfl) (Nat.le_of_ble_eq_true rfl)) lm_L_87 in_X12_there se_X12_there rfl kc_167 rfl rfl (And.intro (Nat.le_of_ble_eq_true rfl) (Nat.le_of_ble_eq_true rfl)) rfl (Nat.le_of_ble_eq_true rfl) d_L_law_785 (fun r64 M65 => ?_)
        refine jo_icmp_eq 1977 d_L_law_788 (by decide) ?_ ?_
        · skip
          exact jO.sub (t_L_law_L1977 nm hs hsc n (f_L_law_L18 n g.2.2.2.2.2.2.2.1 (fun j => (g.2.2.2.2.2.2.2.2 j).toInt) k) ih v3 M65) (And.intro rfl (And.intro rfl (And.intro rfl (And.intro rfl True.intro))))
        · skip
          exact jO.none
      refine jo_if (fun c1_16 => ?_) (fun c1_16 => ?_)
      · skip
        refine jo_tabIn 793 d_L_law_33 16 c1_16 (by decide) (by decide) rfl (by decide) ?_
        refine jo_aload 1 d_L_law_793 rfl rfl ?_
        refine jo_aload 0 d_L_law_794 rfl rfl ?_
        refine jo_iload 3 d_L_law_795 rfl rfl ?_
        refine jo_iconst 1 d_L_law_796 ?_
        refine jo_iadd d_L_law_797 ?_
        refine jo_sld hsc d_L_law_798 ?_
        refine jo_aload 0 d_L_law_799 rfl rfl ?_
        refine jo_iload 3 d_L_law_800 rfl rfl ?_
        refine jo_iconst 2 d_L_law_801 ?_
        refine jo_iadd d_L_law_802 ?_
        refine jo_sld hsc d_L_law_803 ?_
        refine jo_callV (st := []) (m_X11_together hs n ((fun j => (g.2.2.2.2.2.2.2.2 j).toInt) (jw (v3 + 1)).toNat) ((fun j => (g.2.2.2.2.2.2.2.2 j).toInt) (jw (v3 + 2)).toNat) M) ok_X11_together (And.intro (Nat.le_of_ble_eq_true rfl) (Nat.le_of_ble_eq_true rfl)) lm_L_88 in_X11_together se_X11_together rfl kc_0 rfl rfl (And.intro (Nat.le_of_ble_eq_true rfl) (Nat.le_of_ble_eq_true rfl)) rfl (Nat.le_of_ble_eq_true rfl) d_L_law_804 (fun r66 M67 => ?_)
        refine jo_aload 2 d_L_law_807 rfl rfl ?_
        refine jo_aload 0 d_L_law_808 rfl rfl ?_
        refine jo_iload 3 d_L_law_809 rfl rfl ?_
        refine jo_iconst 1 d_L_law_810 ?_
        refine jo_iadd d_L_law_811 ?_
        refine jo_sld hsc d_L_law_812 ?_
        refine jo_aload 0 d_L_law_813 rfl rfl ?_
        refine jo_iload 3 d_L_law_814 rfl rfl ?_
        refine jo_iconst 2 d_L_law_815 ?_
        refine jo_iadd d_L_law_816 ?_
        refine jo_sld hsc d_L_law_817 ?_
        refine jo_callV (st := [ji r66]) (m_X12_together hs n ((fun j => (g.2.2.2.2.2.2.2.2 j).toInt) (jw (v3 + 1)).toNat) ((fun j => (g.2.2.2.2.2.2.2.2 j).toInt) (jw (v3 + 2)).toNat) M67) ok_X12_together (And.intro (Nat.le_of_ble_eq_true rfl) (Nat.le_of_ble_eq_true rfl)) lm_L_91 in_X12_together se_X12_together rfl kc_167 rfl rfl (And.intro (Nat.le_of_ble_eq_true rfl) (Nat.le_of_ble_eq_true rfl)) rfl (Nat.le_of_ble_eq_true rfl) d_L_law_818 (fun r68 M69 => ?_)
        refine jo_icmp_eq 1977 d_L_law_821 (by decide) ?_ ?_
        · skip
          exact jO.sub (t_L_law_L1977 nm hs hsc n (f_L_law_L18 n g.2.2.2.2.2.2.2.1 (fun j => (g.2.2.2.2.2.2.2.2 j).toInt) k) ih v3 M69) (And.intro rfl (And.intro rfl (And.intro rfl (And.intro rfl True.intro))))
        · skip
          exact jO.none
      refine jo_if (fun c1_17 => ?_) (fun c1_17 => ?_)
      · skip
        refine jo_tabIn 826 d_L_law_33 17 c1_17 (by decide) (by decide) rfl (by decide) ?_
        refine jo_aload 1 d_L_law_826 rfl rfl ?_
        refine jo_aload 0 d_L_law_827 rfl rfl ?_
        refine jo_iload 3 d_L_law_828 rfl rfl ?_
        refine jo_iconst 1 d_L_law_829 ?_
        refine jo_iadd d_L_law_830 ?_
        refine jo_sld hsc d_L_law_831 ?_
        refine jo_callV (st := []) (m_X11_hour hs n ((fun j => (g.2.2.2.2.2.2.2.2 j).toInt) (jw (v3 + 1)).toNat) M) ok_X11_hour (And.intro (Nat.le_of_ble_eq_true rfl) (Nat.le_of_ble_eq_true rfl)) lm_L_92 in_X11_hour se_X11_hour rfl kc_0 rfl rfl (And.intro (Nat.le_of_ble_eq_true rfl) (Nat.le_of_ble_eq_true rfl)) rfl (Nat.le_of_ble_eq_true rfl) d_L_law_832 (fun r70 M71 => ?_)
        refine jo_aload 2 d_L_law_835 rfl rfl ?_
        refine jo_aload 0 d_L_law_836 rfl rfl ?_
        refine jo_iload 3 d_L_law_837 rfl rfl ?_
        refine jo_iconst 1 d_L_law_838 ?_
        refine jo_iadd d_L_law_839 ?_
        refine jo_sld hsc d_L_law_840 ?_
        refine jo_callV (st := [ji r70]) (m_X12_hour hs n ((fun j => (g.2.2.2.2.2.2.2.2 j).toInt) (jw (v3 + 1)).toNat) M71) ok_X12_hour (And.intro (Nat.le_of_ble_eq_true rfl) (Nat.le_of_ble_eq_true rfl)) lm_L_95 in_X12_hour se_X12_hour rfl kc_167 rfl rfl (And.intro (Nat.le_of_ble_eq_true rfl) (Nat.le_of_ble_eq_true rfl)) rfl (Nat.le_of_ble_eq_true rfl) d_L_law_841 (fun r72 M73 => ?_)
        refine jo_icmp_eq 1977 d_L_law_844 (by decide) ?_ ?_
        · skip
          exact jO.sub (t_L_law_L1977 nm hs hsc n (f_L_law_L18 n g.2.2.2.2.2.2.2.1 (fun j => (g.2.2.2.2.2.2.2.2 j).toInt) k) ih v3 M73) (And.intro rfl (And.intro rfl (And.intro rfl (And.intro rfl True.intro))))
        · skip
          exact jO.none
      refine jo_if (fun c1_18 => ?_) (fun c1_18 => ?_)
      · skip
        refine jo_tabIn 849 d_L_law_33 18 c1_18 (by decide) (by decide) rfl (by decide) ?_
        refine jo_aload 1 d_L_law_849 rfl rfl ?_
        refine jo_callV (st := []) (m_X11_monday hs n M) ok_X11_monday (And.intro (Nat.le_of_ble_eq_true rfl) (Nat.le_of_ble_eq_true rfl)) lm_L_96 in_X11_monday se_X11_monday rfl kc_0 rfl rfl (And.intro (Nat.le_of_ble_eq_true rfl) (Nat.le_of_ble_eq_true rfl)) rfl (Nat.le_of_ble_eq_true rfl) d_L_law_850 (fun r74 M75 => ?_)
        refine jo_aload 2 d_L_law_853 rfl rfl ?_
        refine jo_callV (st := [ji r74]) (m_X12_monday hs n M75) ok_X12_monday (And.intro (Nat.le_of_ble_eq_true rfl) (Nat.le_of_ble_eq_true rfl)) lm_L_99 in_X12_monday se_X12_monday rfl kc_167 rfl rfl (And.intro (Nat.le_of_ble_eq_true rfl) (Nat.le_of_ble_eq_true rfl)) rfl (Nat.le_of_ble_eq_true rfl) d_L_law_854 (fun r76 M77 => ?_)
        refine jo_icmp_eq 1977 d_L_law_857 (by decide) ?_ ?_
        · skip
          exact jO.sub (t_L_law_L1977 nm hs hsc n (f_L_law_L18 n g.2.2.2.2.2.2.2.1 (fun j => (g.2.2.2.2.2.2.2.2 j).toInt) k) ih v3 M77) (And.intro rfl (And.intro rfl (And.intro rfl (And.intro rfl True.intro))))
        · skip
          exact jO.none
      refine jo_if (fun c1_19 => ?_) (fun c1_19 => ?_)
      · skip
        refine jo_tabIn 862 d_L_law_33 19 c1_19 (by decide) (by decide) rfl (by decide) ?_
        refine jo_aload 1 d_L_law_862 rfl rfl ?_
        refine jo_aload 0 d_L_law_863 rfl rfl ?_
        refine jo_iload 3 d_L_law_864 rfl rfl ?_
        refine jo_iconst 1 d_L_law_865 ?_
        refine jo_iadd d_L_law_866 ?_
        refine jo_sld hsc d_L_law_867 ?_
        refine jo_aload 0 d_L_law_868 rfl rfl ?_
        refine jo_iload 3 d_L_law_869 rfl rfl ?_
        refine jo_iconst 2 d_L_law_870 ?_
        refine jo_iadd d_L_law_871 ?_
        refine jo_sld hsc d_L_law_872 ?_
        refine jo_aload 0 d_L_law_873 rfl rfl ?_
        refine jo_iload 3 d_L_law_874 rfl rfl ?_
        refine jo_iconst 3 d_L_law_875 ?_
        refine jo_iadd d_L_law_876 ?_
        refine jo_sld hsc d_L_law_877 ?_
        refine jo_if_eq 885 d_L_law_878 (by decide) ?_ ?_
        · skip
          refine jo_iconst 0 d_L_law_885 ?_
          exact jO.sub (t_L_law_L886 nm hs hsc n (f_L_law_L18 n g.2.2.2.2.2.2.2.1 (fun j => (g.2.2.2.2.2.2.2.2 j).toInt) k) ih v3 ((fun j => (g.2.2.2.2.2.2.2.2 j).toInt) (jw (v3 + 1)).toNat) ((fun j => (g.2.2.2.2.2.2.2.2 j).toInt) (jw (v3 + 2)).toNat) 0 M) (And.intro rfl (And.intro rfl (And.intro rfl (And.intro rfl True.intro))))
        · skip
          refine jo_iconst 1 d_L_law_881 ?_
          refine jo_goto 886 d_L_law_882 (by decide) ?_
          exact jO.sub (t_L_law_L886 nm hs hsc n (f_L_law_L18 n g.2.2.2.2.2.2.2.1 (fun j => (g.2.2.2.2.2.2.2.2 j).toInt) k) ih v3 ((fun j => (g.2.2.2.2.2.2.2.2 j).toInt) (jw (v3 + 1)).toNat) ((fun j => (g.2.2.2.2.2.2.2.2 j).toInt) (jw (v3 + 2)).toNat) 1 M) (And.intro rfl (And.intro rfl (And.intro rfl (And.intro rfl True.intro))))
      refine jo_if (fun c1_20 => ?_) (fun c1_20 => ?_)
      · skip
        refine jo_tabIn 921 d_L_law_33 20 c1_20 (by decide) (by decide) rfl (by decide) ?_
        refine jo_aload 1 d_L_law_921 rfl rfl ?_
        refine jo_aload 0 d_L_law_922 rfl rfl ?_
        refine jo_iload 3 d_L_law_923 rfl rfl ?_
        refine jo_iconst 1 d_L_law_924 ?_
        refine jo_iadd d_L_law_925 ?_
        refine jo_sld hsc d_L_law_926 ?_
        refine jo_aload 0 d_L_law_927 rfl rfl ?_
        refine jo_iload 3 d_L_law_928 rfl rfl ?_
        refine jo_iconst 2 d_L_law_929 ?_
        refine jo_iadd d_L_law_930 ?_
        refine jo_sld hsc d_L_law_931 ?_
        refine jo_if_eq 939 d_L_law_932 (by decide) ?_ ?_
        · skip
          refine jo_iconst 0 d_L_law_939 ?_
          exact jO.sub (t_L_law_L940 nm hs hsc n (f_L_law_L18 n g.2.2.2.2.2.2.2.1 (fun j => (g.2.2.2.2.2.2.2.2 j).toInt) k) ih v3 ((fun j => (g.2.2.2.2.2.2.2.2 j).toInt) (jw (v3 + 1)).toNat) 0 M) (And.intro rfl (And.intro rfl (And.intro rfl (And.intro rfl True.intro))))
        · skip
          refine jo_iconst 1 d_L_law_935 ?_
          refine jo_goto 940 d_L_law_936 (by decide) ?_
          exact jO.sub (t_L_law_L940 nm hs hsc n (f_L_law_L18 n g.2.2.2.2.2.2.2.1 (fun j => (g.2.2.2.2.2.2.2.2 j).toInt) k) ih v3 ((fun j => (g.2.2.2.2.2.2.2.2 j).toInt) (jw (v3 + 1)).toNat) 1 M) (And.intro rfl (And.intro rfl (And.intro rfl (And.intro rfl True.intro))))
      refine jo_if (fun c1_21 => ?_) (fun c1_21 => ?_)
      · skip
        refine jo_tabIn 970 d_L_law_33 21 c1_21 (by decide) (by decide) rfl (by decide) ?_
        refine jo_aload 1 d_L_law_970 rfl rfl ?_
        refine jo_aload 0 d_L_law_971 rfl rfl ?_
        refine jo_iload 3 d_L_law_972 rfl rfl ?_
        refine jo_iconst 1 d_L_law_973 ?_
        refine jo_iadd d_L_law_974 ?_
        refine jo_sld hsc d_L_law_975 ?_
        refine jo_aload 0 d_L_law_976 rfl rfl ?_
        refine jo_iload 3 d_L_law_977 rfl rfl ?_
        refine jo_iconst 2 d_L_law_978 ?_
        refine jo_iadd d_L_law_979 ?_
        refine jo_sld hsc d_L_law_980 ?_
        refine jo_if_eq 988 d_L_law_981 (by decide) ?_ ?_
        · skip
          refine jo_iconst 0 d_L_law_988 ?_
          exact jO.sub (t_L_law_L989 nm hs hsc n (f_L_law_L18 n g.2.2.2.2.2.2.2.1 (fun j => (g.2.2.2.2.2.2.2.2 j).toInt) k) ih v3 ((fun j => (g.2.2.2.2.2.2.2.2 j).toInt) (jw (v3 + 1)).toNat) 0 M) (And.intro rfl (And.intro rfl (And.intro rfl (And.intro rfl True.intro))))
        · skip
          refine jo_iconst 1 d_L_law_984 ?_
          refine jo_goto 989 d_L_law_985 (by decide) ?_
          exact jO.sub (t_L_law_L989 nm hs hsc n (f_L_law_L18 n g.2.2.2.2.2.2.2.1 (fun j => (g.2.2.2.2.2.2.2.2 j).toInt) k) ih v3 ((fun j => (g.2.2.2.2.2.2.2.2 j).toInt) (jw (v3 + 1)).toNat) 1 M) (And.intro rfl (And.intro rfl (And.intro rfl (And.intro rfl True.intro))))
      refine jo_if (fun c1_22 => ?_) (fun c1_22 => ?_)
      · skip
        refine jo_tabIn 1019 d_L_law_33 22 c1_22 (by decide) (by decide) rfl (by decide) ?_
        refine jo_aload 1 d_L_law_1019 rfl rfl ?_
        refine jo_aload 0 d_L_law_1020 rfl rfl ?_
        refine jo_iload 3 d_L_law_1021 rfl rfl ?_
        refine jo_iconst 1 d_L_law_1022 ?_
        refine jo_iadd d_L_law_1023 ?_
        refine jo_sld hsc d_L_law_1024 ?_
        refine jo_aload 0 d_L_law_1025 rfl rfl ?_
        refine jo_iload 3 d_L_law_1026 rfl rfl ?_
        refine jo_iconst 2 d_L_law_1027 ?_
        refine jo_iadd d_L_law_1028 ?_
        refine jo_sld hsc d_L_law_1029 ?_
        refine jo_callV (st := []) (m_X11_trust hs n ((fun j => (g.2.2.2.2.2.2.2.2 j).toInt) (jw (v3 + 1)).toNat) ((fun j => (g.2.2.2.2.2.2.2.2 j).toInt) (jw (v3 + 2)).toNat) M) ok_X11_trust (And.intro (Nat.le_of_ble_eq_true rfl) (Nat.le_of_ble_eq_true rfl)) lm_L_114 in_X11_trust se_X11_trust rfl kc_0 rfl rfl (And.intro (Nat.le_of_ble_eq_true rfl) (Nat.le_of_ble_eq_true rfl)) rfl (Nat.le_of_ble_eq_true rfl) d_L_law_1030 (fun r78 M79 => ?_)
        refine jo_aload 2 d_L_law_1033 rfl rfl ?_
        refine jo_aload 0 d_L_law_1034 rfl rfl ?_
        refine jo_iload 3 d_L_law_1035 rfl rfl ?_
        refine jo_iconst 1 d_L_law_1036 ?_
        refine jo_iadd d_L_law_1037 ?_
        refine jo_sld hsc d_L_law_1038 ?_
        refine jo_aload 0 d_L_law_1039 rfl rfl ?_
        refine jo_iload 3 d_L_law_1040 rfl rfl ?_
        refine jo_iconst 2 d_L_law_1041 ?_
        refine jo_iadd d_L_law_1042 ?_
        refine jo_sld hsc d_L_law_1043 ?_
        refine jo_callV (st := [ji r78]) (m_X12_trust hs n ((fun j => (g.2.2.2.2.2.2.2.2 j).toInt) (jw (v3 + 1)).toNat) ((fun j => (g.2.2.2.2.2.2.2.2 j).toInt) (jw (v3 + 2)).toNat) M79) ok_X12_trust (And.intro (Nat.le_of_ble_eq_true rfl) (Nat.le_of_ble_eq_true rfl)) lm_L_118 in_X12_trust se_X12_trust rfl kc_167 rfl rfl (And.intro (Nat.le_of_ble_eq_true rfl) (Nat.le_of_ble_eq_true rfl)) rfl (Nat.le_of_ble_eq_true rfl) d_L_law_1044 (fun r80 M81 => ?_)
        refine jo_icmp_eq 1977 d_L_law_1047 (by decide) ?_ ?_
        · skip
          exact jO.sub (t_L_law_L1977 nm hs hsc n (f_L_law_L18 n g.2.2.2.2.2.2.2.1 (fun j => (g.2.2.2.2.2.2.2.2 j).toInt) k) ih v3 M81) (And.intro rfl (And.intro rfl (And.intro rfl (And.intro rfl True.intro))))
        · skip
          exact jO.none
      refine jo_if (fun c1_23 => ?_) (fun c1_23 => ?_)
      · skip
        refine jo_tabIn 1052 d_L_law_33 23 c1_23 (by decide) (by decide) rfl (by decide) ?_
        refine jo_aload 1 d_L_law_1052 rfl rfl ?_
        refine jo_aload 0 d_L_law_1053 rfl rfl ?_
        refine jo_iload 3 d_L_law_1054 rfl rfl ?_
        refine jo_iconst 1 d_L_law_1055 ?_
        refine jo_iadd d_L_law_1056 ?_
        refine jo_sld hsc d_L_law_1057 ?_
        refine jo_aload 0 d_L_law_1058 rfl rfl ?_
        refine jo_iload 3 d_L_law_1059 rfl rfl ?_
        refine jo_iconst 2 d_L_law_1060 ?_
        refine jo_iadd d_L_law_1061 ?_
        refine jo_sld hsc d_L_law_1062 ?_
        refine jo_callV (st := []) (m_X11_shift hs n ((fun j => (g.2.2.2.2.2.2.2.2 j).toInt) (jw (v3 + 1)).toNat) ((fun j => (g.2.2.2.2.2.2.2.2 j).toInt) (jw (v3 + 2)).toNat) M) ok_X11_shift (And.intro (Nat.le_of_ble_eq_true rfl) (Nat.le_of_ble_eq_true rfl)) lm_L_119 in_X11_shift se_X11_shift rfl kc_0 rfl rfl (And.intro (Nat.le_of_ble_eq_true rfl) (Nat.le_of_ble_eq_true rfl)) rfl (Nat.le_of_ble_eq_true rfl) d_L_law_1063 (fun r82 M83 => ?_)
        refine jo_aload 2 d_L_law_1066 rfl rfl ?_
        refine jo_aload 0 d_L_law_1067 rfl rfl ?_
        refine jo_iload 3 d_L_law_1068 rfl rfl ?_
        refine jo_iconst 1 d_L_law_1069 ?_
        refine jo_iadd d_L_law_1070 ?_
        refine jo_sld hsc d_L_law_1071 ?_
        refine jo_aload 0 d_L_law_1072 rfl rfl ?_
        refine jo_iload 3 d_L_law_1073 rfl rfl ?_
        refine jo_iconst 2 d_L_law_1074 ?_
        refine jo_iadd d_L_law_1075 ?_
        refine jo_sld hsc d_L_law_1076 ?_
        refine jo_callV (st := [ji r82]) (m_X12_shift hs n ((fun j => (g.2.2.2.2.2.2.2.2 j).toInt) (jw (v3 + 1)).toNat) ((fun j => (g.2.2.2.2.2.2.2.2 j).toInt) (jw (v3 + 2)).toNat) M83) ok_X12_shift (And.intro (Nat.le_of_ble_eq_true rfl) (Nat.le_of_ble_eq_true rfl)) lm_L_122 in_X12_shift se_X12_shift rfl kc_167 rfl rfl (And.intro (Nat.le_of_ble_eq_true rfl) (Nat.le_of_ble_eq_true rfl)) rfl (Nat.le_of_ble_eq_true rfl) d_L_law_1077 (fun r84 M85 => ?_)
        refine jo_icmp_eq 1977 d_L_law_1080 (by decide) ?_ ?_
        · skip
          exact jO.sub (t_L_law_L1977 nm hs hsc n (f_L_law_L18 n g.2.2.2.2.2.2.2.1 (fun j => (g.2.2.2.2.2.2.2.2 j).toInt) k) ih v3 M85) (And.intro rfl (And.intro rfl (And.intro rfl (And.intro rfl True.intro))))
        · skip
          exact jO.none
      refine jo_if (fun c1_24 => ?_) (fun c1_24 => ?_)
      · skip
        refine jo_tabIn 1085 d_L_law_33 24 c1_24 (by decide) (by decide) rfl (by decide) ?_
        refine jo_aload 1 d_L_law_1085 rfl rfl ?_
        refine jo_aload 0 d_L_law_1086 rfl rfl ?_
        refine jo_iload 3 d_L_law_1087 rfl rfl ?_
        refine jo_iconst 1 d_L_law_1088 ?_
        refine jo_iadd d_L_law_1089 ?_
        refine jo_sld hsc d_L_law_1090 ?_
        refine jo_aload 0 d_L_law_1091 rfl rfl ?_
        refine jo_iload 3 d_L_law_1092 rfl rfl ?_
        refine jo_iconst 2 d_L_law_1093 ?_
        refine jo_iadd d_L_law_1094 ?_
        refine jo_sld hsc d_L_law_1095 ?_
        refine jo_aload 0 d_L_law_1096 rfl rfl ?_
        refine jo_iload 3 d_L_law_1097 rfl rfl ?_
        refine jo_iconst 3 d_L_law_1098 ?_
        refine jo_iadd d_L_law_1099 ?_
        refine jo_sld hsc d_L_law_1100 ?_
        refine jo_if_eq 1108 d_L_law_1101 (by decide) ?_ ?_
        · skip
          refine jo_iconst 0 d_L_law_1108 ?_
          exact jO.sub (t_L_law_L1109 nm hs hsc n (f_L_law_L18 n g.2.2.2.2.2.2.2.1 (fun j => (g.2.2.2.2.2.2.2.2 j).toInt) k) ih v3 ((fun j => (g.2.2.2.2.2.2.2.2 j).toInt) (jw (v3 + 1)).toNat) ((fun j => (g.2.2.2.2.2.2.2.2 j).toInt) (jw (v3 + 2)).toNat) 0 M) (And.intro rfl (And.intro rfl (And.intro rfl (And.intro rfl True.intro))))
        · skip
          refine jo_iconst 1 d_L_law_1104 ?_
          refine jo_goto 1109 d_L_law_1105 (by decide) ?_
          exact jO.sub (t_L_law_L1109 nm hs hsc n (f_L_law_L18 n g.2.2.2.2.2.2.2.1 (fun j => (g.2.2.2.2.2.2.2.2 j).toInt) k) ih v3 ((fun j => (g.2.2.2.2.2.2.2.2 j).toInt) (jw (v3 + 1)).toNat) ((fun j => (g.2.2.2.2.2.2.2.2 j).toInt) (jw (v3 + 2)).toNat) 1 M) (And.intro rfl (And.intro rfl (And.intro rfl (And.intro rfl True.intro))))
      refine jo_if (fun c1_25 => ?_) (fun c1_25 => ?_)
      · skip
        refine jo_tabIn 1144 d_L_law_33 25 c1_25 (by decide) (by decide) rfl (by decide) ?_
        refine jo_aload 1 d_L_law_1144 rfl rfl ?_
        refine jo_aload 0 d_L_law_1145 rfl rfl ?_
        refine jo_iload 3 d_L_law_1146 rfl rfl ?_
        refine jo_iconst 1 d_L_law_1147 ?_
        refine jo_iadd d_L_law_1148 ?_
        refine jo_sld hsc d_L_law_1149 ?_
        refine jo_callV (st := []) (m_X11_mourn hs n ((fun j => (g.2.2.2.2.2.2.2.2 j).toInt) (jw (v3 + 1)).toNat) M) ok_X11_mourn (And.intro (Nat.le_of_ble_eq_true rfl) (Nat.le_of_ble_eq_true rfl)) lm_L_127 in_X11_mourn se_X11_mourn rfl kc_0 rfl rfl (And.intro (Nat.le_of_ble_eq_true rfl) (Nat.le_of_ble_eq_true rfl)) rfl (Nat.le_of_ble_eq_true rfl) d_L_law_1150 (fun r86 M87 => ?_)
        refine jo_aload 2 d_L_law_1153 rfl rfl ?_
        refine jo_aload 0 d_L_law_1154 rfl rfl ?_
        refine jo_iload 3 d_L_law_1155 rfl rfl ?_
        refine jo_iconst 1 d_L_law_1156 ?_
        refine jo_iadd d_L_law_1157 ?_
        refine jo_sld hsc d_L_law_1158 ?_
        refine jo_callV (st := [ji r86]) (m_X12_mourn hs n ((fun j => (g.2.2.2.2.2.2.2.2 j).toInt) (jw (v3 + 1)).toNat) M87) ok_X12_mourn (And.intro (Nat.le_of_ble_eq_true rfl) (Nat.le_of_ble_eq_true rfl)) lm_L_131 in_X12_mourn se_X12_mourn rfl kc_167 rfl rfl (And.intro (Nat.le_of_ble_eq_true rfl) (Nat.le_of_ble_eq_true rfl)) rfl (Nat.le_of_ble_eq_true rfl) d_L_law_1159 (fun r88 M89 => ?_)
        refine jo_icmp_eq 1977 d_L_law_1162 (by decide) ?_ ?_
        · skip
          exact jO.sub (t_L_law_L1977 nm hs hsc n (f_L_law_L18 n g.2.2.2.2.2.2.2.1 (fun j => (g.2.2.2.2.2.2.2.2 j).toInt) k) ih v3 M89) (And.intro rfl (And.intro rfl (And.intro rfl (And.intro rfl True.intro))))
        · skip
          exact jO.none
      refine jo_if (fun c1_26 => ?_) (fun c1_26 => ?_)
      · skip
        refine jo_tabIn 1167 d_L_law_33 26 c1_26 (by decide) (by decide) rfl (by decide) ?_
        refine jo_aload 1 d_L_law_1167 rfl rfl ?_
        refine jo_aload 0 d_L_law_1168 rfl rfl ?_
        refine jo_iload 3 d_L_law_1169 rfl rfl ?_
        refine jo_iconst 1 d_L_law_1170 ?_
        refine jo_iadd d_L_law_1171 ?_
        refine jo_sld hsc d_L_law_1172 ?_
        refine jo_callV (st := []) (m_X11_rule hs n ((fun j => (g.2.2.2.2.2.2.2.2 j).toInt) (jw (v3 + 1)).toNat) M) ok_X11_rule (And.intro (Nat.le_of_ble_eq_true rfl) (Nat.le_of_ble_eq_true rfl)) lm_L_132 in_X11_rule se_X11_rule rfl kc_0 rfl rfl (And.intro (Nat.le_of_ble_eq_true rfl) (Nat.le_of_ble_eq_true rfl)) rfl (Nat.le_of_ble_eq_true rfl) d_L_law_1173 (fun r90 M91 => ?_)
        refine jo_aload 2 d_L_law_1176 rfl rfl ?_
        refine jo_aload 0 d_L_law_1177 rfl rfl ?_
        refine jo_iload 3 d_L_law_1178 rfl rfl ?_
        refine jo_iconst 1 d_L_law_1179 ?_
        refine jo_iadd d_L_law_1180 ?_
        refine jo_sld hsc d_L_law_1181 ?_
        refine jo_callV (st := [ji r90]) (m_X12_rule hs n ((fun j => (g.2.2.2.2.2.2.2.2 j).toInt) (jw (v3 + 1)).toNat) M91) ok_X12_rule (And.intro (Nat.le_of_ble_eq_true rfl) (Nat.le_of_ble_eq_true rfl)) lm_L_135 in_X12_rule se_X12_rule rfl kc_167 rfl rfl (And.intro (Nat.le_of_ble_eq_true rfl) (Nat.le_of_ble_eq_true rfl)) rfl (Nat.le_of_ble_eq_true rfl) d_L_law_1182 (fun r92 M93 => ?_)
        refine jo_icmp_eq 1977 d_L_law_1185 (by decide) ?_ ?_
        · skip
          exact jO.sub (t_L_law_L1977 nm hs hsc n (f_L_law_L18 n g.2.2.2.2.2.2.2.1 (fun j => (g.2.2.2.2.2.2.2.2 j).toInt) k) ih v3 M93) (And.intro rfl (And.intro rfl (And.intro rfl (And.intro rfl True.intro))))
        · skip
          exact jO.none
      refine jo_if (fun c1_27 => ?_) (fun c1_27 => ?_)
      · skip
        refine jo_tabIn 1190 d_L_law_33 27 c1_27 (by decide) (by decide) rfl (by decide) ?_
        refine jo_aload 1 d_L_law_1190 rfl rfl ?_
        refine jo_aload 0 d_L_law_1191 rfl rfl ?_
        refine jo_iload 3 d_L_law_1192 rfl rfl ?_
        refine jo_iconst 1 d_L_law_1193 ?_
        refine jo_iadd d_L_law_1194 ?_
        refine jo_sld hsc d_L_law_1195 ?_
        refine jo_aload 0 d_L_law_1196 rfl rfl ?_
        refine jo_iload 3 d_L_law_1197 rfl rfl ?_
        refine jo_iconst 2 d_L_law_1198 ?_
        refine jo_iadd d_L_law_1199 ?_
        refine jo_sld hsc d_L_law_1200 ?_
        refine jo_callV (st := []) (m_X11_where hs n ((fun j => (g.2.2.2.2.2.2.2.2 j).toInt) (jw (v3 + 1)).toNat) ((fun j => (g.2.2.2.2.2.2.2.2 j).toInt) (jw (v3 + 2)).toNat) M) ok_X11_where (And.intro (Nat.le_of_ble_eq_true rfl) (Nat.le_of_ble_eq_true rfl)) lm_L_136 in_X11_where se_X11_where rfl kc_0 rfl rfl (And.intro (Nat.le_of_ble_eq_true rfl) (Nat.le_of_ble_eq_true rfl)) rfl (Nat.le_of_ble_eq_true rfl) d_L_law_1201 (fun r94 M95 => ?_)
        refine jo_aload 2 d_L_law_1204 rfl rfl ?_
        refine jo_aload 0 d_L_law_1205 rfl rfl ?_
        refine jo_iload 3 d_L_law_1206 rfl rfl ?_
        refine jo_iconst 1 d_L_law_1207 ?_
        refine jo_iadd d_L_law_1208 ?_
        refine jo_sld hsc d_L_law_1209 ?_
        refine jo_aload 0 d_L_law_1210 rfl rfl ?_
        refine jo_iload 3 d_L_law_1211 rfl rfl ?_
        refine jo_iconst 2 d_L_law_1212 ?_
        refine jo_iadd d_L_law_1213 ?_
        refine jo_sld hsc d_L_law_1214 ?_
        refine jo_callV (st := [ji r94]) (m_X12_where hs n ((fun j => (g.2.2.2.2.2.2.2.2 j).toInt) (jw (v3 + 1)).toNat) ((fun j => (g.2.2.2.2.2.2.2.2 j).toInt) (jw (v3 + 2)).toNat) M95) ok_X12_where (And.intro (Nat.le_of_ble_eq_true rfl) (Nat.le_of_ble_eq_true rfl)) lm_L_139 in_X12_where se_X12_where rfl kc_167 rfl rfl (And.intro (Nat.le_of_ble_eq_true rfl) (Nat.le_of_ble_eq_true rfl)) rfl (Nat.le_of_ble_eq_true rfl) d_L_law_1215 (fun r96 M97 => ?_)
        refine jo_icmp_eq 1977 d_L_law_1218 (by decide) ?_ ?_
        · skip
          exact jO.sub (t_L_law_L1977 nm hs hsc n (f_L_law_L18 n g.2.2.2.2.2.2.2.1 (fun j => (g.2.2.2.2.2.2.2.2 j).toInt) k) ih v3 M97) (And.intro rfl (And.intro rfl (And.intro rfl (And.intro rfl True.intro))))
        · skip
          exact jO.none
      refine jo_if (fun c1_28 => ?_) (fun c1_28 => ?_)
      · skip
        refine jo_tabIn 1223 d_L_law_33 28 c1_28 (by decide) (by decide) rfl (by decide) ?_
        refine jo_aload 1 d_L_law_1223 rfl rfl ?_
        refine jo_aload 0 d_L_law_1224 rfl rfl ?_
        refine jo_iload 3 d_L_law_1225 rfl rfl ?_
        refine jo_iconst 1 d_L_law_1226 ?_
        refine jo_iadd d_L_law_1227 ?_
        refine jo_sld hsc d_L_law_1228 ?_
        refine jo_callV (st := []) (m_X11_eatenAt hs n ((fun j => (g.2.2.2.2.2.2.2.2 j).toInt) (jw (v3 + 1)).toNat) M) ok_X11_eatenAt (And.intro (Nat.le_of_ble_eq_true rfl) (Nat.le_of_ble_eq_true rfl)) lm_L_140 in_X11_eatenAt se_X11_eatenAt rfl kc_0 rfl rfl (And.intro (Nat.le_of_ble_eq_true rfl) (Nat.le_of_ble_eq_true rfl)) rfl (Nat.le_of_ble_eq_true rfl) d_L_law_1229 (fun r98 M99 => ?_)
        refine jo_aload 2 d_L_law_1232 rfl rfl ?_
        refine jo_aload 0 d_L_law_1233 rfl rfl ?_
        refine jo_iload 3 d_L_law_1234 rfl rfl ?_
        refine jo_iconst 1 d_L_law_1235 ?_
        refine jo_iadd d_L_law_1236 ?_
        refine jo_sld hsc d_L_law_1237 ?_
        refine jo_callV (st := [ji r98]) (m_X12_eatenAt hs n ((fun j => (g.2.2.2.2.2.2.2.2 j).toInt) (jw (v3 + 1)).toNat) M99) ok_X12_eatenAt (And.intro (Nat.le_of_ble_eq_true rfl) (Nat.le_of_ble_eq_true rfl)) lm_L_143 in_X12_eatenAt se_X12_eatenAt rfl kc_167 rfl rfl (And.intro (Nat.le_of_ble_eq_true rfl) (Nat.le_of_ble_eq_true rfl)) rfl (Nat.le_of_ble_eq_true rfl) d_L_law_1238 (fun r100 M101 => ?_)
        refine jo_icmp_eq 1977 d_L_law_1241 (by decide) ?_ ?_
        · skip
          exact jO.sub (t_L_law_L1977 nm hs hsc n (f_L_law_L18 n g.2.2.2.2.2.2.2.1 (fun j => (g.2.2.2.2.2.2.2.2 j).toInt) k) ih v3 M101) (And.intro rfl (And.intro rfl (And.intro rfl (And.intro rfl True.intro))))
        · skip
          exact jO.none
      refine jo_if (fun c1_29 => ?_) (fun c1_29 => ?_)
      · skip
        refine jo_tabIn 1246 d_L_law_33 29 c1_29 (by decide) (by decide) rfl (by decide) ?_
        refine jo_aload 1 d_L_law_1246 rfl rfl ?_
        refine jo_aload 0 d_L_law_1247 rfl rfl ?_
        refine jo_iload 3 d_L_law_1248 rfl rfl ?_
        refine jo_iconst 1 d_L_law_1249 ?_
        refine jo_iadd d_L_law_1250 ?_
        refine jo_sld hsc d_L_law_1251 ?_
        refine jo_callV (st := []) (m_X11_eater hs n ((fun j => (g.2.2.2.2.2.2.2.2 j).toInt) (jw (v3 + 1)).toNat) M) ok_X11_eater (And.intro (Nat.le_of_ble_eq_true rfl) (Nat.le_of_ble_eq_true rfl)) lm_L_144 in_X11_eater se_X11_eater rfl kc_0 rfl rfl (And.intro (Nat.le_of_ble_eq_true rfl) (Nat.le_of_ble_eq_true rfl)) rfl (Nat.le_of_ble_eq_true rfl) d_L_law_1252 (fun r102 M103 => ?_)
        refine jo_aload 2 d_L_law_1255 rfl rfl ?_
        refine jo_aload 0 d_L_law_1256 rfl rfl ?_
        refine jo_iload 3 d_L_law_1257 rfl rfl ?_
        refine jo_iconst 1 d_L_law_1258 ?_
        refine jo_iadd d_L_law_1259 ?_
        refine jo_sld hsc d_L_law_1260 ?_
        refine jo_callV (st := [ji r102]) (m_X12_eater hs n ((fun j => (g.2.2.2.2.2.2.2.2 j).toInt) (jw (v3 + 1)).toNat) M103) ok_X12_eater (And.intro (Nat.le_of_ble_eq_true rfl) (Nat.le_of_ble_eq_true rfl)) lm_L_147 in_X12_eater se_X12_eater rfl kc_167 rfl rfl (And.intro (Nat.le_of_ble_eq_true rfl) (Nat.le_of_ble_eq_true rfl)) rfl (Nat.le_of_ble_eq_true rfl) d_L_law_1261 (fun r104 M105 => ?_)
        refine jo_icmp_eq 1977 d_L_law_1264 (by decide) ?_ ?_
        · skip
          exact jO.sub (t_L_law_L1977 nm hs hsc n (f_L_law_L18 n g.2.2.2.2.2.2.2.1 (fun j => (g.2.2.2.2.2.2.2.2 j).toInt) k) ih v3 M105) (And.intro rfl (And.intro rfl (And.intro rfl (And.intro rfl True.intro))))
        · skip
          exact jO.none
      refine jo_if (fun c1_30 => ?_) (fun c1_30 => ?_)
      · skip
        refine jo_tabIn 1269 d_L_law_33 30 c1_30 (by decide) (by decide) rfl (by decide) ?_
        refine jo_aload 1 d_L_law_1269 rfl rfl ?_
        refine jo_aload 0 d_L_law_1270 rfl rfl ?_
        refine jo_iload 3 d_L_law_1271 rfl rfl ?_
        refine jo_iconst 1 d_L_law_1272 ?_
        refine jo_iadd d_L_law_1273 ?_
        refine jo_sld hsc d_L_law_1274 ?_
        refine jo_aload 0 d_L_law_1275 rfl rfl ?_
        refine jo_iload 3 d_L_law_1276 rfl rfl ?_
        refine jo_iconst 2 d_L_law_1277 ?_
        refine jo_iadd d_L_law_1278 ?_
        refine jo_sld hsc d_L_law_1279 ?_
        refine jo_callV (st := []) (m_X11_meet hs n ((fun j => (g.2.2.2.2.2.2.2.2 j).toInt) (jw (v3 + 1)).toNat) ((fun j => (g.2.2.2.2.2.2.2.2 j).toInt) (jw (v3 + 2)).toNat) M) ok_X11_meet (And.intro (Nat.le_of_ble_eq_true rfl) (Nat.le_of_ble_eq_true rfl)) lm_L_148 in_X11_meet se_X11_meet rfl kc_0 rfl rfl (And.intro (Nat.le_of_ble_eq_true rfl) (Nat.le_of_ble_eq_true rfl)) rfl (Nat.le_of_ble_eq_true rfl) d_L_law_1280 (fun r106 M107 => ?_)
        refine jo_aload 2 d_L_law_1283 rfl rfl ?_
        refine jo_aload 0 d_L_law_1284 rfl rfl ?_
        refine jo_iload 3 d_L_law_1285 rfl rfl ?_
        refine jo_iconst 1 d_L_law_1286 ?_
        refine jo_iadd d_L_law_1287 ?_
        refine jo_sld hsc d_L_law_1288 ?_
        refine jo_aload 0 d_L_law_1289 rfl rfl ?_
        refine jo_iload 3 d_L_law_1290 rfl rfl ?_
        refine jo_iconst 2 d_L_law_1291 ?_
        refine jo_iadd d_L_law_1292 ?_
        refine jo_sld hsc d_L_law_1293 ?_
        refine jo_callV (st := [ji r106]) (m_X12_meet hs n ((fun j => (g.2.2.2.2.2.2.2.2 j).toInt) (jw (v3 + 1)).toNat) ((fun j => (g.2.2.2.2.2.2.2.2 j).toInt) (jw (v3 + 2)).toNat) M107) ok_X12_meet (And.intro (Nat.le_of_ble_eq_true rfl) (Nat.le_of_ble_eq_true rfl)) lm_L_151 in_X12_meet se_X12_meet rfl kc_167 rfl rfl (And.intro (Nat.le_of_ble_eq_true rfl) (Nat.le_of_ble_eq_true rfl)) rfl (Nat.le_of_ble_eq_true rfl) d_L_law_1294 (fun r108 M109 => ?_)
        refine jo_icmp_eq 1977 d_L_law_1297 (by decide) ?_ ?_
        · skip
          exact jO.sub (t_L_law_L1977 nm hs hsc n (f_L_law_L18 n g.2.2.2.2.2.2.2.1 (fun j => (g.2.2.2.2.2.2.2.2 j).toInt) k) ih v3 M109) (And.intro rfl (And.intro rfl (And.intro rfl (And.intro rfl True.intro))))
        · skip
          exact jO.none
      refine jo_if (fun c1_31 => ?_) (fun c1_31 => ?_)
      · skip
        refine jo_tabIn 1302 d_L_law_33 31 c1_31 (by decide) (by decide) rfl (by decide) ?_
        refine jo_aload 1 d_L_law_1302 rfl rfl ?_
        refine jo_callV (st := []) (m_X11_lateBy hs n M) ok_X11_lateBy (And.intro (Nat.le_of_ble_eq_true rfl) (Nat.le_of_ble_eq_true rfl)) lm_L_152 in_X11_lateBy se_X11_lateBy rfl kc_0 rfl rfl (And.intro (Nat.le_of_ble_eq_true rfl) (Nat.le_of_ble_eq_true rfl)) rfl (Nat.le_of_ble_eq_true rfl) d_L_law_1303 (fun r110 M111 => ?_)
        refine jo_aload 2 d_L_law_1306 rfl rfl ?_
        refine jo_callV (st := [ji r110]) (m_X12_lateBy hs n M111) ok_X12_lateBy (And.intro (Nat.le_of_ble_eq_true rfl) (Nat.le_of_ble_eq_true rfl)) lm_L_155 in_X12_lateBy se_X12_lateBy rfl kc_167 rfl rfl (And.intro (Nat.le_of_ble_eq_true rfl) (Nat.le_of_ble_eq_true rfl)) rfl (Nat.le_of_ble_eq_true rfl) d_L_law_1307 (fun r112 M113 => ?_)
        refine jo_icmp_eq 1977 d_L_law_1310 (by decide) ?_ ?_
        · skip
          exact jO.sub (t_L_law_L1977 nm hs hsc n (f_L_law_L18 n g.2.2.2.2.2.2.2.1 (fun j => (g.2.2.2.2.2.2.2.2 j).toInt) k) ih v3 M113) (And.intro rfl (And.intro rfl (And.intro rfl (And.intro rfl True.intro))))
        · skip
          exact jO.none
      refine jo_if (fun c1_32 => ?_) (fun c1_32 => ?_)
      · skip
        refine jo_tabIn 1315 d_L_law_33 32 c1_32 (by decide) (by decide) rfl (by decide) ?_
        refine jo_aload 1 d_L_law_1315 rfl rfl ?_
        refine jo_aload 0 d_L_law_1316 rfl rfl ?_
        refine jo_iload 3 d_L_law_1317 rfl rfl ?_
        refine jo_iconst 1 d_L_law_1318 ?_
        refine jo_iadd d_L_law_1319 ?_
        refine jo_sld hsc d_L_law_1320 ?_
        refine jo_callV (st := []) (m_X11_peace hs n ((fun j => (g.2.2.2.2.2.2.2.2 j).toInt) (jw (v3 + 1)).toNat) M) ok_X11_peace (And.intro (Nat.le_of_ble_eq_true rfl) (Nat.le_of_ble_eq_true rfl)) lm_L_156 in_X11_peace se_X11_peace rfl kc_0 rfl rfl (And.intro (Nat.le_of_ble_eq_true rfl) (Nat.le_of_ble_eq_true rfl)) rfl (Nat.le_of_ble_eq_true rfl) d_L_law_1321 (fun r114 M115 => ?_)
        refine jo_aload 2 d_L_law_1324 rfl rfl ?_
        refine jo_aload 0 d_L_law_1325 rfl rfl ?_
        refine jo_iload 3 d_L_law_1326 rfl rfl ?_
        refine jo_iconst 1 d_L_law_1327 ?_
        refine jo_iadd d_L_law_1328 ?_
        refine jo_sld hsc d_L_law_1329 ?_
        refine jo_callV (st := [ji r114]) (m_X12_peace hs n ((fun j => (g.2.2.2.2.2.2.2.2 j).toInt) (jw (v3 + 1)).toNat) M115) ok_X12_peace (And.intro (Nat.le_of_ble_eq_true rfl) (Nat.le_of_ble_eq_true rfl)) lm_L_159 in_X12_peace se_X12_peace rfl kc_167 rfl rfl (And.intro (Nat.le_of_ble_eq_true rfl) (Nat.le_of_ble_eq_true rfl)) rfl (Nat.le_of_ble_eq_true rfl) d_L_law_1330 (fun r116 M117 => ?_)
        refine jo_icmp_eq 1977 d_L_law_1333 (by decide) ?_ ?_
        · skip
          exact jO.sub (t_L_law_L1977 nm hs hsc n (f_L_law_L18 n g.2.2.2.2.2.2.2.1 (fun j => (g.2.2.2.2.2.2.2.2 j).toInt) k) ih v3 M117) (And.intro rfl (And.intro rfl (And.intro rfl (And.intro rfl True.intro))))
        · skip
          exact jO.none
      refine jo_if (fun c1_33 => ?_) (fun c1_33 => ?_)
      · skip
        refine jo_tabIn 1338 d_L_law_33 33 c1_33 (by decide) (by decide) rfl (by decide) ?_
        refine jo_aload 1 d_L_law_1338 rfl rfl ?_
        refine jo_aload 0 d_L_law_1339 rfl rfl ?_
        refine jo_iload 3 d_L_law_1340 rfl rfl ?_
        refine jo_iconst 1 d_L_law_1341 ?_
        refine jo_iadd d_L_law_1342 ?_
        refine jo_sld hsc d_L_law_1343 ?_
        refine jo_callV (st := []) (m_X11_eatenBy hs n ((fun j => (g.2.2.2.2.2.2.2.2 j).toInt) (jw (v3 + 1)).toNat) M) ok_X11_eatenBy (And.intro (Nat.le_of_ble_eq_true rfl) (Nat.le_of_ble_eq_true rfl)) lm_L_160 in_X11_eatenBy se_X11_eatenBy rfl kc_0 rfl rfl (And.intro (Nat.le_of_ble_eq_true rfl) (Nat.le_of_ble_eq_true rfl)) rfl (Nat.le_of_ble_eq_true rfl) d_L_law_1344 (fun r118 M119 => ?_)
        refine jo_aload 2 d_L_law_1347 rfl rfl ?_
        refine jo_aload 0 d_L_law_1348 rfl rfl ?_
        refine jo_iload 3 d_L_law_1349 rfl rfl ?_
        refine jo_iconst 1 d_L_law_1350 ?_
        refine jo_iadd d_L_law_1351 ?_
        refine jo_sld hsc d_L_law_1352 ?_
        refine jo_callV (st := [ji r118]) (m_X12_eatenBy hs n ((fun j => (g.2.2.2.2.2.2.2.2 j).toInt) (jw (v3 + 1)).toNat) M119) ok_X12_eatenBy (And.intro (Nat.le_of_ble_eq_true rfl) (Nat.le_of_ble_eq_true rfl)) lm_L_163 in_X12_eatenBy se_X12_eatenBy rfl kc_167 rfl rfl (And.intro (Nat.le_of_ble_eq_true rfl) (Nat.le_of_ble_eq_true rfl)) rfl (Nat.le_of_ble_eq_true rfl) d_L_law_1353 (fun r120 M121 => ?_)
        refine jo_icmp_eq 1977 d_L_law_1356 (by decide) ?_ ?_
        · skip
          exact jO.sub (t_L_law_L1977 nm hs hsc n (f_L_law_L18 n g.2.2.2.2.2.2.2.1 (fun j => (g.2.2.2.2.2.2.2.2 j).toInt) k) ih v3 M121) (And.intro rfl (And.intro rfl (And.intro rfl (And.intro rfl True.intro))))
        · skip
          exact jO.none
      refine jo_if (fun c1_34 => ?_) (fun c1_34 => ?_)
      · skip
        refine jo_tabIn 1361 d_L_law_33 34 c1_34 (by decide) (by decide) rfl (by decide) ?_
        refine jo_aload 1 d_L_law_1361 rfl rfl ?_
        refine jo_callV (st := []) (m_X11_most hs n M) ok_X11_most (And.intro (Nat.le_of_ble_eq_true rfl) (Nat.le_of_ble_eq_true rfl)) lm_L_164 in_X11_most se_X11_most rfl kc_0 rfl rfl (And.intro (Nat.le_of_ble_eq_true rfl) (Nat.le_of_ble_eq_true rfl)) rfl (Nat.le_of_ble_eq_true rfl) d_L_law_1362 (fun r122 M123 => ?_)
        refine jo_aload 2 d_L_law_1365 rfl rfl ?_
        refine jo_callV (st := [ji r122]) (m_X12_most hs n M123) ok_X12_most (And.intro (Nat.le_of_ble_eq_true rfl) (Nat.le_of_ble_eq_true rfl)) lm_L_167 in_X12_most se_X12_most rfl kc_167 rfl rfl (And.intro (Nat.le_of_ble_eq_true rfl) (Nat.le_of_ble_eq_true rfl)) rfl (Nat.le_of_ble_eq_true rfl) d_L_law_1366 (fun r124 M125 => ?_)
        refine jo_icmp_eq 1977 d_L_law_1369 (by decide) ?_ ?_
        · skip
          exact jO.sub (t_L_law_L1977 nm hs hsc n (f_L_law_L18 n g.2.2.2.2.2.2.2.1 (fun j => (g.2.2.2.2.2.2.2.2 j).toInt) k) ih v3 M125) (And.intro rfl (And.intro rfl (And.intro rfl (And.intro rfl True.intro))))
        · skip
          exact jO.none
      refine jo_if (fun c1_35 => ?_) (fun c1_35 => ?_)
      · skip
        refine jo_tabIn 1374 d_L_law_33 35 c1_35 (by decide) (by decide) rfl (by decide) ?_
        refine jo_aload 1 d_L_law_1374 rfl rfl ?_
        refine jo_aload 0 d_L_law_1375 rfl rfl ?_
        refine jo_iload 3 d_L_law_1376 rfl rfl ?_
        refine jo_iconst 1 d_L_law_1377 ?_
        refine jo_iadd d_L_law_1378 ?_
        refine jo_sld hsc d_L_law_1379 ?_
        refine jo_aload 0 d_L_law_1380 rfl rfl ?_
        refine jo_iload 3 d_L_law_1381 rfl rfl ?_
        refine jo_iconst 2 d_L_law_1382 ?_
        refine jo_iadd d_L_law_1383 ?_
        refine jo_sld hsc d_L_law_1384 ?_
        refine jo_aload 0 d_L_law_1385 rfl rfl ?_
        refine jo_iload 3 d_L_law_1386 rfl rfl ?_
        refine jo_iconst 3 d_L_law_1387 ?_
        refine jo_iadd d_L_law_1388 ?_
        refine jo_sld hsc d_L_law_1389 ?_
        refine jo_callV (st := []) (m_X11_soonest hs n ((fun j => (g.2.2.2.2.2.2.2.2 j).toInt) (jw (v3 + 1)).toNat) ((fun j => (g.2.2.2.2.2.2.2.2 j).toInt) (jw (v3 + 2)).toNat) ((fun j => (g.2.2.2.2.2.2.2.2 j).toInt) (jw (v3 + 3)).toNat) M) ok_X11_soonest (And.intro (Nat.le_of_ble_eq_true rfl) (Nat.le_of_ble_eq_true rfl)) lm_L_168 in_X11_soonest se_X11_soonest rfl kc_0 rfl rfl (And.intro (Nat.le_of_ble_eq_true rfl) (Nat.le_of_ble_eq_true rfl)) rfl (Nat.le_of_ble_eq_true rfl) d_L_law_1390 (fun r126 M127 => ?_)
        refine jo_aload 2 d_L_law_1393 rfl rfl ?_
        refine jo_aload 0 d_L_law_1394 rfl rfl ?_
        refine jo_iload 3 d_L_law_1395 rfl rfl ?_
        refine jo_iconst 1 d_L_law_1396 ?_
        refine jo_iadd d_L_law_1397 ?_
        refine jo_sld hsc d_L_law_1398 ?_
        refine jo_aload 0 d_L_law_1399 rfl rfl ?_
        refine jo_iload 3 d_L_law_1400 rfl rfl ?_
        refine jo_iconst 2 d_L_law_1401 ?_
        refine jo_iadd d_L_law_1402 ?_
        refine jo_sld hsc d_L_law_1403 ?_
        refine jo_aload 0 d_L_law_1404 rfl rfl ?_
        refine jo_iload 3 d_L_law_1405 rfl rfl ?_
        refine jo_iconst 3 d_L_law_1406 ?_
        refine jo_iadd d_L_law_1407 ?_
        refine jo_sld hsc d_L_law_1408 ?_
        refine jo_callV (st := [ji r126]) (m_X12_soonest hs n ((fun j => (g.2.2.2.2.2.2.2.2 j).toInt) (jw (v3 + 1)).toNat) ((fun j => (g.2.2.2.2.2.2.2.2 j).toInt) (jw (v3 + 2)).toNat) ((fun j => (g.2.2.2.2.2.2.2.2 j).toInt) (jw (v3 + 3)).toNat) M127) ok_X12_soonest (And.intro (Nat.le_of_ble_eq_true rfl) (Nat.le_of_ble_eq_true rfl)) lm_L_172 in_X12_soonest se_X12_soonest rfl kc_167 rfl rfl (And.intro (Nat.le_of_ble_eq_true rfl) (Nat.le_of_ble_eq_true rfl)) rfl (Nat.le_of_ble_eq_true rfl) d_L_law_1409 (fun r128 M129 => ?_)
        refine jo_icmp_eq 1977 d_L_law_1412 (by decide) ?_ ?_
        · skip
          exact jO.sub (t_L_law_L1977 nm hs hsc n (f_L_law_L18 n g.2.2.2.2.2.2.2.1 (fun j => (g.2.2.2.2.2.2.2.2 j).toInt) k) ih v3 M129) (And.intro rfl (And.intro rfl (And.intro rfl (And.intro rfl True.intro))))
        · skip
          exact jO.none
      refine jo_if (fun c1_36 => ?_) (fun c1_36 => ?_)
      · skip
        refine jo_tabIn 1417 d_L_law_33 36 c1_36 (by decide) (by decide) rfl (by decide) ?_
        refine jo_aload 1 d_L_law_1417 rfl rfl ?_
        refine jo_aload 0 d_L_law_1418 rfl rfl ?_
        refine jo_iload 3 d_L_law_1419 rfl rfl ?_
        refine jo_iconst 1 d_L_law_1420 ?_
        refine jo_iadd d_L_law_1421 ?_
        refine jo_sld hsc d_L_law_1422 ?_
        refine jo_aload 0 d_L_law_1423 rfl rfl ?_
        refine jo_iload 3 d_L_law_1424 rfl rfl ?_
        refine jo_iconst 2 d_L_law_1425 ?_
        refine jo_iadd d_L_law_1426 ?_
        refine jo_sld hsc d_L_law_1427 ?_
        refine jo_aload 0 d_L_law_1428 rfl rfl ?_
        refine jo_iload 3 d_L_law_1429 rfl rfl ?_
        refine jo_iconst 3 d_L_law_1430 ?_
        refine jo_iadd d_L_law_1431 ?_
        refine jo_sld hsc d_L_law_1432 ?_
        refine jo_callV (st := []) (m_X11_soonestBy hs n ((fun j => (g.2.2.2.2.2.2.2.2 j).toInt) (jw (v3 + 1)).toNat) ((fun j => (g.2.2.2.2.2.2.2.2 j).toInt) (jw (v3 + 2)).toNat) ((fun j => (g.2.2.2.2.2.2.2.2 j).toInt) (jw (v3 + 3)).toNat) M) ok_X11_soonestBy (And.intro (Nat.le_of_ble_eq_true rfl) (Nat.le_of_ble_eq_true rfl)) lm_L_173 in_X11_soonestBy se_X11_soonestBy rfl kc_0 rfl rfl (And.intro (Nat.le_of_ble_eq_true rfl) (Nat.le_of_ble_eq_true rfl)) rfl (Nat.le_of_ble_eq_true rfl) d_L_law_1433 (fun r130 M131 => ?_)
        refine jo_aload 2 d_L_law_1436 rfl rfl ?_
        refine jo_aload 0 d_L_law_1437 rfl rfl ?_
        refine jo_iload 3 d_L_law_1438 rfl rfl ?_
        refine jo_iconst 1 d_L_law_1439 ?_
        refine jo_iadd d_L_law_1440 ?_
        refine jo_sld hsc d_L_law_1441 ?_
        refine jo_aload 0 d_L_law_1442 rfl rfl ?_
        refine jo_iload 3 d_L_law_1443 rfl rfl ?_
        refine jo_iconst 2 d_L_law_1444 ?_
        refine jo_iadd d_L_law_1445 ?_
        refine jo_sld hsc d_L_law_1446 ?_
        refine jo_aload 0 d_L_law_1447 rfl rfl ?_
        refine jo_iload 3 d_L_law_1448 rfl rfl ?_
        refine jo_iconst 3 d_L_law_1449 ?_
        refine jo_iadd d_L_law_1450 ?_
        refine jo_sld hsc d_L_law_1451 ?_
        refine jo_callV (st := [ji r130]) (m_X12_soonestBy hs n ((fun j => (g.2.2.2.2.2.2.2.2 j).toInt) (jw (v3 + 1)).toNat) ((fun j => (g.2.2.2.2.2.2.2.2 j).toInt) (jw (v3 + 2)).toNat) ((fun j => (g.2.2.2.2.2.2.2.2 j).toInt) (jw (v3 + 3)).toNat) M131) ok_X12_soonestBy (And.intro (Nat.le_of_ble_eq_true rfl) (Nat.le_of_ble_eq_true rfl)) lm_L_176 in_X12_soonestBy se_X12_soonestBy rfl kc_167 rfl rfl (And.intro (Nat.le_of_ble_eq_true rfl) (Nat.le_of_ble_eq_true rfl)) rfl (Nat.le_of_ble_eq_true rfl) d_L_law_1452 (fun r132 M133 => ?_)
        refine jo_icmp_eq 1977 d_L_law_1455 (by decide) ?_ ?_
        · skip
          exact jO.sub (t_L_law_L1977 nm hs hsc n (f_L_law_L18 n g.2.2.2.2.2.2.2.1 (fun j => (g.2.2.2.2.2.2.2.2 j).toInt) k) ih v3 M133) (And.intro rfl (And.intro rfl (And.intro rfl (And.intro rfl True.intro))))
        · skip
          exact jO.none
      refine jo_if (fun c1_37 => ?_) (fun c1_37 => ?_)
      · skip
        refine jo_tabIn 1460 d_L_law_33 37 c1_37 (by decide) (by decide) rfl (by decide) ?_
        refine jo_aload 1 d_L_law_1460 rfl rfl ?_
        refine jo_aload 0 d_L_law_1461 rfl rfl ?_
        refine jo_iload 3 d_L_law_1462 rfl rfl ?_
        refine jo_iconst 1 d_L_law_1463 ?_
        refine jo_iadd d_L_law_1464 ?_
        refine jo_sld hsc d_L_law_1465 ?_
        refine jo_aload 0 d_L_law_1466 rfl rfl ?_
        refine jo_iload 3 d_L_law_1467 rfl rfl ?_
        refine jo_iconst 2 d_L_law_1468 ?_
        refine jo_iadd d_L_law_1469 ?_
        refine jo_sld hsc d_L_law_1470 ?_
        refine jo_aload 0 d_L_law_1471 rfl rfl ?_
        refine jo_iload 3 d_L_law_1472 rfl rfl ?_
        refine jo_iconst 3 d_L_law_1473 ?_
        refine jo_iadd d_L_law_1474 ?_
        refine jo_sld hsc d_L_law_1475 ?_
        refine jo_callV (st := []) (m_X11_latest hs n ((fun j => (g.2.2.2.2.2.2.2.2 j).toInt) (jw (v3 + 1)).toNat) ((fun j => (g.2.2.2.2.2.2.2.2 j).toInt) (jw (v3 + 2)).toNat) ((fun j => (g.2.2.2.2.2.2.2.2 j).toInt) (jw (v3 + 3)).toNat) M) ok_X11_latest (And.intro (Nat.le_of_ble_eq_true rfl) (Nat.le_of_ble_eq_true rfl)) lm_L_177 in_X11_latest se_X11_latest rfl kc_0 rfl rfl (And.intro (Nat.le_of_ble_eq_true rfl) (Nat.le_of_ble_eq_true rfl)) rfl (Nat.le_of_ble_eq_true rfl) d_L_law_1476 (fun r134 M135 => ?_)
        refine jo_aload 2 d_L_law_1479 rfl rfl ?_
        refine jo_aload 0 d_L_law_1480 rfl rfl ?_
        refine jo_iload 3 d_L_law_1481 rfl rfl ?_
        refine jo_iconst 1 d_L_law_1482 ?_
        refine jo_iadd d_L_law_1483 ?_
        refine jo_sld hsc d_L_law_1484 ?_
        refine jo_aload 0 d_L_law_1485 rfl rfl ?_
        refine jo_iload 3 d_L_law_1486 rfl rfl ?_
        refine jo_iconst 2 d_L_law_1487 ?_
        refine jo_iadd d_L_law_1488 ?_
        refine jo_sld hsc d_L_law_1489 ?_
        refine jo_aload 0 d_L_law_1490 rfl rfl ?_
        refine jo_iload 3 d_L_law_1491 rfl rfl ?_
        refine jo_iconst 3 d_L_law_1492 ?_
        refine jo_iadd d_L_law_1493 ?_
        refine jo_sld hsc d_L_law_1494 ?_
        refine jo_callV (st := [ji r134]) (m_X12_latest hs n ((fun j => (g.2.2.2.2.2.2.2.2 j).toInt) (jw (v3 + 1)).toNat) ((fun j => (g.2.2.2.2.2.2.2.2 j).toInt) (jw (v3 + 2)).toNat) ((fun j => (g.2.2.2.2.2.2.2.2 j).toInt) (jw (v3 + 3)).toNat) M135) ok_X12_latest (And.intro (Nat.le_of_ble_eq_true rfl) (Nat.le_of_ble_eq_true rfl)) lm_L_180 in_X12_latest se_X12_latest rfl kc_167 rfl rfl (And.intro (Nat.le_of_ble_eq_true rfl) (Nat.le_of_ble_eq_true rfl)) rfl (Nat.le_of_ble_eq_true rfl) d_L_law_1495 (fun r136 M137 => ?_)
        refine jo_icmp_eq 1977 d_L_law_1498 (by decide) ?_ ?_
        · skip
          exact jO.sub (t_L_law_L1977 nm hs hsc n (f_L_law_L18 n g.2.2.2.2.2.2.2.1 (fun j => (g.2.2.2.2.2.2.2.2 j).toInt) k) ih v3 M137) (And.intro rfl (And.intro rfl (And.intro rfl (And.intro rfl True.intro))))
        · skip
          exact jO.none
      refine jo_if (fun c1_38 => ?_) (fun c1_38 => ?_)
      · skip
        refine jo_tabIn 1503 d_L_law_33 38 c1_38 (by decide) (by decide) rfl (by decide) ?_
        refine jo_aload 1 d_L_law_1503 rfl rfl ?_
        refine jo_aload 0 d_L_law_1504 rfl rfl ?_
        refine jo_iload 3 d_L_law_1505 rfl rfl ?_
        refine jo_iconst 1 d_L_law_1506 ?_
        refine jo_iadd d_L_law_1507 ?_
        refine jo_sld hsc d_L_law_1508 ?_
        refine jo_callV (st := []) (m_X11_stay hs n ((fun j => (g.2.2.2.2.2.2.2.2 j).toInt) (jw (v3 + 1)).toNat) M) ok_X11_stay (And.intro (Nat.le_of_ble_eq_true rfl) (Nat.le_of_ble_eq_true rfl)) lm_L_181 in_X11_stay se_X11_stay rfl kc_0 rfl rfl (And.intro (Nat.le_of_ble_eq_true rfl) (Nat.le_of_ble_eq_true rfl)) rfl (Nat.le_of_ble_eq_true rfl) d_L_law_1509 (fun r138 M139 => ?_)
        refine jo_aload 2 d_L_law_1512 rfl rfl ?_
        refine jo_aload 0 d_L_law_1513 rfl rfl ?_
        refine jo_iload 3 d_L_law_1514 rfl rfl ?_
        refine jo_iconst 1 d_L_law_1515 ?_
        refine jo_iadd d_L_law_1516 ?_
        refine jo_sld hsc d_L_law_1517 ?_
        refine jo_callV (st := [ji r138]) (m_X12_stay hs n ((fun j => (g.2.2.2.2.2.2.2.2 j).toInt) (jw (v3 + 1)).toNat) M139) ok_X12_stay (And.intro (Nat.le_of_ble_eq_true rfl) (Nat.le_of_ble_eq_true rfl)) lm_L_184 in_X12_stay se_X12_stay rfl kc_167 rfl rfl (And.intro (Nat.le_of_ble_eq_true rfl) (Nat.le_of_ble_eq_true rfl)) rfl (Nat.le_of_ble_eq_true rfl) d_L_law_1518 (fun r140 M141 => ?_)
        refine jo_icmp_eq 1977 d_L_law_1521 (by decide) ?_ ?_
        · skip
          exact jO.sub (t_L_law_L1977 nm hs hsc n (f_L_law_L18 n g.2.2.2.2.2.2.2.1 (fun j => (g.2.2.2.2.2.2.2.2 j).toInt) k) ih v3 M141) (And.intro rfl (And.intro rfl (And.intro rfl (And.intro rfl True.intro))))
        · skip
          exact jO.none
      refine jo_if (fun c1_39 => ?_) (fun c1_39 => ?_)
      · skip
        refine jo_tabIn 1526 d_L_law_33 39 c1_39 (by decide) (by decide) rfl (by decide) ?_
        refine jo_aload 1 d_L_law_1526 rfl rfl ?_
        refine jo_callV (st := []) (m_X11_reach hs n M) ok_X11_reach (And.intro (Nat.le_of_ble_eq_true rfl) (Nat.le_of_ble_eq_true rfl)) lm_L_185 in_X11_reach se_X11_reach rfl kc_0 rfl rfl (And.intro (Nat.le_of_ble_eq_true rfl) (Nat.le_of_ble_eq_true rfl)) rfl (Nat.le_of_ble_eq_true rfl) d_L_law_1527 (fun r142 M143 => ?_)
        refine jo_aload 2 d_L_law_1530 rfl rfl ?_
        refine jo_callV (st := [ji r142]) (m_X12_reach hs n M143) ok_X12_reach (And.intro (Nat.le_of_ble_eq_true rfl) (Nat.le_of_ble_eq_true rfl)) lm_L_188 in_X12_reach se_X12_reach rfl kc_167 rfl rfl (And.intro (Nat.le_of_ble_eq_true rfl) (Nat.le_of_ble_eq_true rfl)) rfl (Nat.le_of_ble_eq_true rfl) d_L_law_1531 (fun r144 M145 => ?_)
        refine jo_icmp_eq 1977 d_L_law_1534 (by decide) ?_ ?_
        · skip
          exact jO.sub (t_L_law_L1977 nm hs hsc n (f_L_law_L18 n g.2.2.2.2.2.2.2.1 (fun j => (g.2.2.2.2.2.2.2.2 j).toInt) k) ih v3 M145) (And.intro rfl (And.intro rfl (And.intro rfl (And.intro rfl True.intro))))
        · skip
          exact jO.none
      refine jo_if (fun c1_40 => ?_) (fun c1_40 => ?_)
      · skip
        refine jo_tabIn 1539 d_L_law_33 40 c1_40 (by decide) (by decide) rfl (by decide) ?_
        refine jo_aload 1 d_L_law_1539 rfl rfl ?_
        refine jo_aload 0 d_L_law_1540 rfl rfl ?_
        refine jo_iload 3 d_L_law_1541 rfl rfl ?_
        refine jo_iconst 1 d_L_law_1542 ?_
        refine jo_iadd d_L_law_1543 ?_
        refine jo_sld hsc d_L_law_1544 ?_
        refine jo_callV (st := []) (m_X11_cut hs n ((fun j => (g.2.2.2.2.2.2.2.2 j).toInt) (jw (v3 + 1)).toNat) M) ok_X11_cut (And.intro (Nat.le_of_ble_eq_true rfl) (Nat.le_of_ble_eq_true rfl)) lm_L_189 in_X11_cut se_X11_cut rfl kc_0 rfl rfl (And.intro (Nat.le_of_ble_eq_true rfl) (Nat.le_of_ble_eq_true rfl)) rfl (Nat.le_of_ble_eq_true rfl) d_L_law_1545 (fun r146 M147 => ?_)
        refine jo_aload 2 d_L_law_1548 rfl rfl ?_
        refine jo_aload 0 d_L_law_1549 rfl rfl ?_
        refine jo_iload 3 d_L_law_1550 rfl rfl ?_
        refine jo_iconst 1 d_L_law_1551 ?_
        refine jo_iadd d_L_law_1552 ?_
        refine jo_sld hsc d_L_law_1553 ?_
        refine jo_callV (st := [ji r146]) (m_X12_cut hs n ((fun j => (g.2.2.2.2.2.2.2.2 j).toInt) (jw (v3 + 1)).toNat) M147) ok_X12_cut (And.intro (Nat.le_of_ble_eq_true rfl) (Nat.le_of_ble_eq_true rfl)) lm_L_192 in_X12_cut se_X12_cut rfl kc_167 rfl rfl (And.intro (Nat.le_of_ble_eq_true rfl) (Nat.le_of_ble_eq_true rfl)) rfl (Nat.le_of_ble_eq_true rfl) d_L_law_1554 (fun r148 M149 => ?_)
        refine jo_icmp_eq 1977 d_L_law_1557 (by decide) ?_ ?_
        · skip
          exact jO.sub (t_L_law_L1977 nm hs hsc n (f_L_law_L18 n g.2.2.2.2.2.2.2.1 (fun j => (g.2.2.2.2.2.2.2.2 j).toInt) k) ih v3 M149) (And.intro rfl (And.intro rfl (And.intro rfl (And.intro rfl True.intro))))
        · skip
          exact jO.none
      refine jo_if (fun c1_41 => ?_) (fun c1_41 => ?_)
      · skip
        refine jo_tabIn 1562 d_L_law_33 41 c1_41 (by decide) (by decide) rfl (by decide) ?_
        refine jo_aload 1 d_L_law_1562 rfl rfl ?_
        refine jo_aload 0 d_L_law_1563 rfl rfl ?_
        refine jo_iload 3 d_L_law_1564 rfl rfl ?_
        refine jo_iconst 1 d_L_law_1565 ?_
        refine jo_iadd d_L_law_1566 ?_
        refine jo_sld hsc d_L_law_1567 ?_
        refine jo_callV (st := []) (m_X11_cutSet hs n ((fun j => (g.2.2.2.2.2.2.2.2 j).toInt) (jw (v3 + 1)).toNat) M) ok_X11_cutSet (And.intro (Nat.le_of_ble_eq_true rfl) (Nat.le_of_ble_eq_true rfl)) lm_L_193 in_X11_cutSet se_X11_cutSet rfl kc_0 rfl rfl (And.intro (Nat.le_of_ble_eq_true rfl) (Nat.le_of_ble_eq_true rfl)) rfl (Nat.le_of_ble_eq_true rfl) d_L_law_1568 (fun r150 M151 => ?_)
        refine jo_aload 2 d_L_law_1571 rfl rfl ?_
        refine jo_aload 0 d_L_law_1572 rfl rfl ?_
        refine jo_iload 3 d_L_law_1573 rfl rfl ?_
        refine jo_iconst 1 d_L_law_1574 ?_
        refine jo_iadd d_L_law_1575 ?_
        refine jo_sld hsc d_L_law_1576 ?_
        refine jo_callV (st := [ji r150]) (m_X12_cutSet hs n ((fun j => (g.2.2.2.2.2.2.2.2 j).toInt) (jw (v3 + 1)).toNat) M151) ok_X12_cutSet (And.intro (Nat.le_of_ble_eq_true rfl) (Nat.le_of_ble_eq_true rfl)) lm_L_196 in_X12_cutSet se_X12_cutSet rfl kc_167 rfl rfl (And.intro (Nat.le_of_ble_eq_true rfl) (Nat.le_of_ble_eq_true rfl)) rfl (Nat.le_of_ble_eq_true rfl) d_L_law_1577 (fun r152 M153 => ?_)
        refine jo_icmp_eq 1977 d_L_law_1580 (by decide) ?_ ?_
        · skip
          exact jO.sub (t_L_law_L1977 nm hs hsc n (f_L_law_L18 n g.2.2.2.2.2.2.2.1 (fun j => (g.2.2.2.2.2.2.2.2 j).toInt) k) ih v3 M153) (And.intro rfl (And.intro rfl (And.intro rfl (And.intro rfl True.intro))))
        · skip
          exact jO.none
      refine jo_if (fun c1_42 => ?_) (fun c1_42 => ?_)
      · skip
        refine jo_tabIn 1585 d_L_law_33 42 c1_42 (by decide) (by decide) rfl (by decide) ?_
        refine jo_aload 1 d_L_law_1585 rfl rfl ?_
        refine jo_aload 0 d_L_law_1586 rfl rfl ?_
        refine jo_iload 3 d_L_law_1587 rfl rfl ?_
        refine jo_iconst 1 d_L_law_1588 ?_
        refine jo_iadd d_L_law_1589 ?_
        refine jo_sld hsc d_L_law_1590 ?_
        refine jo_callV (st := []) (m_X11_snow hs n ((fun j => (g.2.2.2.2.2.2.2.2 j).toInt) (jw (v3 + 1)).toNat) M) ok_X11_snow (And.intro (Nat.le_of_ble_eq_true rfl) (Nat.le_of_ble_eq_true rfl)) lm_L_197 in_X11_snow se_X11_snow rfl kc_0 rfl rfl (And.intro (Nat.le_of_ble_eq_true rfl) (Nat.le_of_ble_eq_true rfl)) rfl (Nat.le_of_ble_eq_true rfl) d_L_law_1591 (fun r154 M155 => ?_)
        refine jo_aload 2 d_L_law_1594 rfl rfl ?_
        refine jo_aload 0 d_L_law_1595 rfl rfl ?_
        refine jo_iload 3 d_L_law_1596 rfl rfl ?_
        refine jo_iconst 1 d_L_law_1597 ?_
        refine jo_iadd d_L_law_1598 ?_
        refine jo_sld hsc d_L_law_1599 ?_
        refine jo_callV (st := [ji r154]) (m_X12_snow hs n ((fun j => (g.2.2.2.2.2.2.2.2 j).toInt) (jw (v3 + 1)).toNat) M155) ok_X12_snow (And.intro (Nat.le_of_ble_eq_true rfl) (Nat.le_of_ble_eq_true rfl)) lm_L_200 in_X12_snow se_X12_snow rfl kc_167 rfl rfl (And.intro (Nat.le_of_ble_eq_true rfl) (Nat.le_of_ble_eq_true rfl)) rfl (Nat.le_of_ble_eq_true rfl) d_L_law_1600 (fun r156 M157 => ?_)
        refine jo_icmp_eq 1977 d_L_law_1603 (by decide) ?_ ?_
        · skip
          exact jO.sub (t_L_law_L1977 nm hs hsc n (f_L_law_L18 n g.2.2.2.2.2.2.2.1 (fun j => (g.2.2.2.2.2.2.2.2 j).toInt) k) ih v3 M157) (And.intro rfl (And.intro rfl (And.intro rfl (And.intro rfl True.intro))))
        · skip
          exact jO.none
      refine jo_if (fun c1_43 => ?_) (fun c1_43 => ?_)
      · skip
        refine jo_tabIn 1608 d_L_law_33 43 c1_43 (by decide) (by decide) rfl (by decide) ?_
        refine jo_aload 1 d_L_law_1608 rfl rfl ?_
        refine jo_aload 0 d_L_law_1609 rfl rfl ?_
        refine jo_iload 3 d_L_law_1610 rfl rfl ?_
        refine jo_iconst 1 d_L_law_1611 ?_
        refine jo_iadd d_L_law_1612 ?_
        refine jo_sld hsc d_L_law_1613 ?_
        refine jo_aload 0 d_L_law_1614 rfl rfl ?_
        refine jo_iload 3 d_L_law_1615 rfl rfl ?_
        refine jo_iconst 2 d_L_law_1616 ?_
        refine jo_iadd d_L_law_1617 ?_
        refine jo_sld hsc d_L_law_1618 ?_
        refine jo_callV (st := []) (m_X11_back hs n ((fun j => (g.2.2.2.2.2.2.2.2 j).toInt) (jw (v3 + 1)).toNat) ((fun j => (g.2.2.2.2.2.2.2.2 j).toInt) (jw (v3 + 2)).toNat) M) ok_X11_back (And.intro (Nat.le_of_ble_eq_true rfl) (Nat.le_of_ble_eq_true rfl)) lm_L_201 in_X11_back se_X11_back rfl kc_0 rfl rfl (And.intro (Nat.le_of_ble_eq_true rfl) (Nat.le_of_ble_eq_true rfl)) rfl (Nat.le_of_ble_eq_true rfl) d_L_law_1619 (fun r158 M159 => ?_)
        refine jo_aload 2 d_L_law_1622 rfl rfl ?_
        refine jo_aload 0 d_L_law_1623 rfl rfl ?_
        refine jo_iload 3 d_L_law_1624 rfl rfl ?_
        refine jo_iconst 1 d_L_law_1625 ?_
        refine jo_iadd d_L_law_1626 ?_
        refine jo_sld hsc d_L_law_1627 ?_
        refine jo_aload 0 d_L_law_1628 rfl rfl ?_
        refine jo_iload 3 d_L_law_1629 rfl rfl ?_
        refine jo_iconst 2 d_L_law_1630 ?_
        refine jo_iadd d_L_law_1631 ?_
        refine jo_sld hsc d_L_law_1632 ?_
        refine jo_callV (st := [ji r158]) (m_X12_back hs n ((fun j => (g.2.2.2.2.2.2.2.2 j).toInt) (jw (v3 + 1)).toNat) ((fun j => (g.2.2.2.2.2.2.2.2 j).toInt) (jw (v3 + 2)).toNat) M159) ok_X12_back (And.intro (Nat.le_of_ble_eq_true rfl) (Nat.le_of_ble_eq_true rfl)) lm_L_204 in_X12_back se_X12_back rfl kc_167 rfl rfl (And.intro (Nat.le_of_ble_eq_true rfl) (Nat.le_of_ble_eq_true rfl)) rfl (Nat.le_of_ble_eq_true rfl) d_L_law_1633 (fun r160 M161 => ?_)
        refine jo_icmp_eq 1977 d_L_law_1636 (by decide) ?_ ?_
        · skip
          exact jO.sub (t_L_law_L1977 nm hs hsc n (f_L_law_L18 n g.2.2.2.2.2.2.2.1 (fun j => (g.2.2.2.2.2.2.2.2 j).toInt) k) ih v3 M161) (And.intro rfl (And.intro rfl (And.intro rfl (And.intro rfl True.intro))))
        · skip
          exact jO.none
      refine jo_if (fun c1_44 => ?_) (fun c1_44 => ?_)
      · skip
        refine jo_tabIn 1641 d_L_law_33 44 c1_44 (by decide) (by decide) rfl (by decide) ?_
        refine jo_aload 1 d_L_law_1641 rfl rfl ?_
        refine jo_aload 0 d_L_law_1642 rfl rfl ?_
        refine jo_iload 3 d_L_law_1643 rfl rfl ?_
        refine jo_iconst 1 d_L_law_1644 ?_
        refine jo_iadd d_L_law_1645 ?_
        refine jo_sld hsc d_L_law_1646 ?_
        refine jo_callV (st := []) (m_X11_wildest hs n ((fun j => (g.2.2.2.2.2.2.2.2 j).toInt) (jw (v3 + 1)).toNat) M) ok_X11_wildest (And.intro (Nat.le_of_ble_eq_true rfl) (Nat.le_of_ble_eq_true rfl)) lm_L_205 in_X11_wildest se_X11_wildest rfl kc_0 rfl rfl (And.intro (Nat.le_of_ble_eq_true rfl) (Nat.le_of_ble_eq_true rfl)) rfl (Nat.le_of_ble_eq_true rfl) d_L_law_1647 (fun r162 M163 => ?_)
        refine jo_aload 2 d_L_law_1650 rfl rfl ?_
        refine jo_aload 0 d_L_law_1651 rfl rfl ?_
        refine jo_iload 3 d_L_law_1652 rfl rfl ?_
        refine jo_iconst 1 d_L_law_1653 ?_
        refine jo_iadd d_L_law_1654 ?_
        refine jo_sld hsc d_L_law_1655 ?_
        refine jo_callV (st := [ji r162]) (m_X12_wildest hs n ((fun j => (g.2.2.2.2.2.2.2.2 j).toInt) (jw (v3 + 1)).toNat) M163) ok_X12_wildest (And.intro (Nat.le_of_ble_eq_true rfl) (Nat.le_of_ble_eq_true rfl)) lm_L_208 in_X12_wildest se_X12_wildest rfl kc_167 rfl rfl (And.intro (Nat.le_of_ble_eq_true rfl) (Nat.le_of_ble_eq_true rfl)) rfl (Nat.le_of_ble_eq_true rfl) d_L_law_1656 (fun r164 M165 => ?_)
        refine jo_icmp_eq 1977 d_L_law_1659 (by decide) ?_ ?_
        · skip
          exact jO.sub (t_L_law_L1977 nm hs hsc n (f_L_law_L18 n g.2.2.2.2.2.2.2.1 (fun j => (g.2.2.2.2.2.2.2.2 j).toInt) k) ih v3 M165) (And.intro rfl (And.intro rfl (And.intro rfl (And.intro rfl True.intro))))
        · skip
          exact jO.none
      refine jo_if (fun c1_45 => ?_) (fun c1_45 => ?_)
      · skip
        refine jo_tabIn 1664 d_L_law_33 45 c1_45 (by decide) (by decide) rfl (by decide) ?_
        refine jo_aload 1 d_L_law_1664 rfl rfl ?_
        refine jo_aload 0 d_L_law_1665 rfl rfl ?_
        refine jo_iload 3 d_L_law_1666 rfl rfl ?_
        refine jo_iconst 1 d_L_law_1667 ?_
        refine jo_iadd d_L_law_1668 ?_
        refine jo_sld hsc d_L_law_1669 ?_
        refine jo_aload 0 d_L_law_1670 rfl rfl ?_
        refine jo_iload 3 d_L_law_1671 rfl rfl ?_
        refine jo_iconst 2 d_L_law_1672 ?_
        refine jo_iadd d_L_law_1673 ?_
        refine jo_sld hsc d_L_law_1674 ?_
        refine jo_callV (st := []) (m_X11_rooms hs n ((fun j => (g.2.2.2.2.2.2.2.2 j).toInt) (jw (v3 + 1)).toNat) ((fun j => (g.2.2.2.2.2.2.2.2 j).toInt) (jw (v3 + 2)).toNat) M) ok_X11_rooms (And.intro (Nat.le_of_ble_eq_true rfl) (Nat.le_of_ble_eq_true rfl)) lm_L_209 in_X11_rooms se_X11_rooms rfl kc_0 rfl rfl (And.intro (Nat.le_of_ble_eq_true rfl) (Nat.le_of_ble_eq_true rfl)) rfl (Nat.le_of_ble_eq_true rfl) d_L_law_1675 (fun r166 M167 => ?_)
        refine jo_aload 2 d_L_law_1678 rfl rfl ?_
        refine jo_aload 0 d_L_law_1679 rfl rfl ?_
        refine jo_iload 3 d_L_law_1680 rfl rfl ?_
        refine jo_iconst 1 d_L_law_1681 ?_
        refine jo_iadd d_L_law_1682 ?_
        refine jo_sld hsc d_L_law_1683 ?_
        refine jo_aload 0 d_L_law_1684 rfl rfl ?_
        refine jo_iload 3 d_L_law_1685 rfl rfl ?_
        refine jo_iconst 2 d_L_law_1686 ?_
        refine jo_iadd d_L_law_1687 ?_
        refine jo_sld hsc d_L_law_1688 ?_
        refine jo_callV (st := [ji r166]) (m_X12_rooms hs n ((fun j => (g.2.2.2.2.2.2.2.2 j).toInt) (jw (v3 + 1)).toNat) ((fun j => (g.2.2.2.2.2.2.2.2 j).toInt) (jw (v3 + 2)).toNat) M167) ok_X12_rooms (And.intro (Nat.le_of_ble_eq_true rfl) (Nat.le_of_ble_eq_true rfl)) lm_L_212 in_X12_rooms se_X12_rooms rfl kc_167 rfl rfl (And.intro (Nat.le_of_ble_eq_true rfl) (Nat.le_of_ble_eq_true rfl)) rfl (Nat.le_of_ble_eq_true rfl) d_L_law_1689 (fun r168 M169 => ?_)
        refine jo_icmp_eq 1977 d_L_law_1692 (by decide) ?_ ?_
        · skip
          exact jO.sub (t_L_law_L1977 nm hs hsc n (f_L_law_L18 n g.2.2.2.2.2.2.2.1 (fun j => (g.2.2.2.2.2.2.2.2 j).toInt) k) ih v3 M169) (And.intro rfl (And.intro rfl (And.intro rfl (And.intro rfl True.intro))))
        · skip
          exact jO.none
      refine jo_if (fun c1_46 => ?_) (fun c1_46 => ?_)
      · skip
        refine jo_tabIn 1697 d_L_law_33 46 c1_46 (by decide) (by decide) rfl (by decide) ?_
        refine jo_aload 1 d_L_law_1697 rfl rfl ?_
        refine jo_aload 0 d_L_law_1698 rfl rfl ?_
        refine jo_iload 3 d_L_law_1699 rfl rfl ?_
        refine jo_iconst 1 d_L_law_1700 ?_
        refine jo_iadd d_L_law_1701 ?_
        refine jo_sld hsc d_L_law_1702 ?_
        refine jo_aload 0 d_L_law_1703 rfl rfl ?_
        refine jo_iload 3 d_L_law_1704 rfl rfl ?_
        refine jo_iconst 2 d_L_law_1705 ?_
        refine jo_iadd d_L_law_1706 ?_
        refine jo_sld hsc d_L_law_1707 ?_
        refine jo_callV (st := []) (m_X11_roomSize hs n ((fun j => (g.2.2.2.2.2.2.2.2 j).toInt) (jw (v3 + 1)).toNat) ((fun j => (g.2.2.2.2.2.2.2.2 j).toInt) (jw (v3 + 2)).toNat) M) ok_X11_roomSize (And.intro (Nat.le_of_ble_eq_true rfl) (Nat.le_of_ble_eq_true rfl)) lm_L_213 in_X11_roomSize se_X11_roomSize rfl kc_0 rfl rfl (And.intro (Nat.le_of_ble_eq_true rfl) (Nat.le_of_ble_eq_true rfl)) rfl (Nat.le_of_ble_eq_true rfl) d_L_law_1708 (fun r170 M171 => ?_)
        refine jo_aload 2 d_L_law_1711 rfl rfl ?_
        refine jo_aload 0 d_L_law_1712 rfl rfl ?_
        refine jo_iload 3 d_L_law_1713 rfl rfl ?_
        refine jo_iconst 1 d_L_law_1714 ?_
        refine jo_iadd d_L_law_1715 ?_
        refine jo_sld hsc d_L_law_1716 ?_
        refine jo_aload 0 d_L_law_1717 rfl rfl ?_
        refine jo_iload 3 d_L_law_1718 rfl rfl ?_
        refine jo_iconst 2 d_L_law_1719 ?_
        refine jo_iadd d_L_law_1720 ?_
        refine jo_sld hsc d_L_law_1721 ?_
        refine jo_callV (st := [ji r170]) (m_X12_roomSize hs n ((fun j => (g.2.2.2.2.2.2.2.2 j).toInt) (jw (v3 + 1)).toNat) ((fun j => (g.2.2.2.2.2.2.2.2 j).toInt) (jw (v3 + 2)).toNat) M171) ok_X12_roomSize (And.intro (Nat.le_of_ble_eq_true rfl) (Nat.le_of_ble_eq_true rfl)) lm_L_216 in_X12_roomSize se_X12_roomSize rfl kc_167 rfl rfl (And.intro (Nat.le_of_ble_eq_true rfl) (Nat.le_of_ble_eq_true rfl)) rfl (Nat.le_of_ble_eq_true rfl) d_L_law_1722 (fun r172 M173 => ?_)
        refine jo_icmp_eq 1977 d_L_law_1725 (by decide) ?_ ?_
        · skip
          exact jO.sub (t_L_law_L1977 nm hs hsc n (f_L_law_L18 n g.2.2.2.2.2.2.2.1 (fun j => (g.2.2.2.2.2.2.2.2 j).toInt) k) ih v3 M173) (And.intro rfl (And.intro rfl (And.intro rfl (And.intro rfl True.intro))))
        · skip
          exact jO.none
      refine jo_if (fun c1_47 => ?_) (fun c1_47 => ?_)
      · skip
        refine jo_tabIn 1730 d_L_law_33 47 c1_47 (by decide) (by decide) rfl (by decide) ?_
        refine jo_aload 1 d_L_law_1730 rfl rfl ?_
        refine jo_aload 0 d_L_law_1731 rfl rfl ?_
        refine jo_iload 3 d_L_law_1732 rfl rfl ?_
        refine jo_iconst 1 d_L_law_1733 ?_
        refine jo_iadd d_L_law_1734 ?_
        refine jo_sld hsc d_L_law_1735 ?_
        refine jo_aload 0 d_L_law_1736 rfl rfl ?_
        refine jo_iload 3 d_L_law_1737 rfl rfl ?_
        refine jo_iconst 2 d_L_law_1738 ?_
        refine jo_iadd d_L_law_1739 ?_
        refine jo_sld hsc d_L_law_1740 ?_
        refine jo_aload 0 d_L_law_1741 rfl rfl ?_
        refine jo_iload 3 d_L_law_1742 rfl rfl ?_
        refine jo_iconst 3 d_L_law_1743 ?_
        refine jo_iadd d_L_law_1744 ?_
        refine jo_sld hsc d_L_law_1745 ?_
        refine jo_callV (st := []) (m_X11_sets hs n ((fun j => (g.2.2.2.2.2.2.2.2 j).toInt) (jw (v3 + 1)).toNat) ((fun j => (g.2.2.2.2.2.2.2.2 j).toInt) (jw (v3 + 2)).toNat) ((fun j => (g.2.2.2.2.2.2.2.2 j).toInt) (jw (v3 + 3)).toNat) M) ok_X11_sets (And.intro (Nat.le_of_ble_eq_true rfl) (Nat.le_of_ble_eq_true rfl)) lm_L_217 in_X11_sets se_X11_sets rfl kc_0 rfl rfl (And.intro (Nat.le_of_ble_eq_true rfl) (Nat.le_of_ble_eq_true rfl)) rfl (Nat.le_of_ble_eq_true rfl) d_L_law_1746 (fun r174 M175 => ?_)
        refine jo_aload 2 d_L_law_1749 rfl rfl ?_
        refine jo_aload 0 d_L_law_1750 rfl rfl ?_
        refine jo_iload 3 d_L_law_1751 rfl rfl ?_
        refine jo_iconst 1 d_L_law_1752 ?_
        refine jo_iadd d_L_law_1753 ?_
        refine jo_sld hsc d_L_law_1754 ?_
        refine jo_aload 0 d_L_law_1755 rfl rfl ?_
        refine jo_iload 3 d_L_law_1756 rfl rfl ?_
        refine jo_iconst 2 d_L_law_1757 ?_
        refine jo_iadd d_L_law_1758 ?_
        refine jo_sld hsc d_L_law_1759 ?_
        refine jo_aload 0 d_L_law_1760 rfl rfl ?_
        refine jo_iload 3 d_L_law_1761 rfl rfl ?_
        refine jo_iconst 3 d_L_law_1762 ?_
        refine jo_iadd d_L_law_1763 ?_
        refine jo_sld hsc d_L_law_1764 ?_
        refine jo_callV (st := [ji r174]) (m_X12_sets hs n ((fun j => (g.2.2.2.2.2.2.2.2 j).toInt) (jw (v3 + 1)).toNat) ((fun j => (g.2.2.2.2.2.2.2.2 j).toInt) (jw (v3 + 2)).toNat) ((fun j => (g.2.2.2.2.2.2.2.2 j).toInt) (jw (v3 + 3)).toNat) M175) ok_X12_sets (And.intro (Nat.le_of_ble_eq_true rfl) (Nat.le_of_ble_eq_true rfl)) lm_L_220 in_X12_sets se_X12_sets rfl kc_167 rfl rfl (And.intro (Nat.le_of_ble_eq_true rfl) (Nat.le_of_ble_eq_true rfl)) rfl (Nat.le_of_ble_eq_true rfl) d_L_law_1765 (fun r176 M177 => ?_)
        refine jo_icmp_eq 1977 d_L_law_1768 (by decide) ?_ ?_
        · skip
          exact jO.sub (t_L_law_L1977 nm hs hsc n (f_L_law_L18 n g.2.2.2.2.2.2.2.1 (fun j => (g.2.2.2.2.2.2.2.2 j).toInt) k) ih v3 M177) (And.intro rfl (And.intro rfl (And.intro rfl (And.intro rfl True.intro))))
        · skip
          exact jO.none
      refine jo_if (fun c1_48 => ?_) (fun c1_48 => ?_)
      · skip
        refine jo_tabIn 1773 d_L_law_33 48 c1_48 (by decide) (by decide) rfl (by decide) ?_
        refine jo_aload 1 d_L_law_1773 rfl rfl ?_
        refine jo_aload 0 d_L_law_1774 rfl rfl ?_
        refine jo_iload 3 d_L_law_1775 rfl rfl ?_
        refine jo_iconst 1 d_L_law_1776 ?_
        refine jo_iadd d_L_law_1777 ?_
        refine jo_sld hsc d_L_law_1778 ?_
        refine jo_aload 0 d_L_law_1779 rfl rfl ?_
        refine jo_iload 3 d_L_law_1780 rfl rfl ?_
        refine jo_iconst 2 d_L_law_1781 ?_
        refine jo_iadd d_L_law_1782 ?_
        refine jo_sld hsc d_L_law_1783 ?_
        refine jo_aload 0 d_L_law_1784 rfl rfl ?_
        refine jo_iload 3 d_L_law_1785 rfl rfl ?_
        refine jo_iconst 3 d_L_law_1786 ?_
        refine jo_iadd d_L_law_1787 ?_
        refine jo_sld hsc d_L_law_1788 ?_
        refine jo_callV (st := []) (m_X11_sure hs n ((fun j => (g.2.2.2.2.2.2.2.2 j).toInt) (jw (v3 + 1)).toNat) ((fun j => (g.2.2.2.2.2.2.2.2 j).toInt) (jw (v3 + 2)).toNat) ((fun j => (g.2.2.2.2.2.2.2.2 j).toInt) (jw (v3 + 3)).toNat) M) ok_X11_sure (And.intro (Nat.le_of_ble_eq_true rfl) (Nat.le_of_ble_eq_true rfl)) lm_L_221 in_X11_sure se_X11_sure rfl kc_0 rfl rfl (And.intro (Nat.le_of_ble_eq_true rfl) (Nat.le_of_ble_eq_true rfl)) rfl (Nat.le_of_ble_eq_true rfl) d_L_law_1789 (fun r178 M179 => ?_)
        refine jo_aload 2 d_L_law_1792 rfl rfl ?_
        refine jo_aload 0 d_L_law_1793 rfl rfl ?_
        refine jo_iload 3 d_L_law_1794 rfl rfl ?_
        refine jo_iconst 1 d_L_law_1795 ?_
        refine jo_iadd d_L_law_1796 ?_
        refine jo_sld hsc d_L_law_1797 ?_
        refine jo_aload 0 d_L_law_1798 rfl rfl ?_
        refine jo_iload 3 d_L_law_1799 rfl rfl ?_
        refine jo_iconst 2 d_L_law_1800 ?_
        refine jo_iadd d_L_law_1801 ?_
        refine jo_sld hsc d_L_law_1802 ?_
        refine jo_aload 0 d_L_law_1803 rfl rfl ?_
        refine jo_iload 3 d_L_law_1804 rfl rfl ?_
        refine jo_iconst 3 d_L_law_1805 ?_
        refine jo_iadd d_L_law_1806 ?_
        refine jo_sld hsc d_L_law_1807 ?_
        refine jo_callV (st := [ji r178]) (m_X12_sure hs n ((fun j => (g.2.2.2.2.2.2.2.2 j).toInt) (jw (v3 + 1)).toNat) ((fun j => (g.2.2.2.2.2.2.2.2 j).toInt) (jw (v3 + 2)).toNat) ((fun j => (g.2.2.2.2.2.2.2.2 j).toInt) (jw (v3 + 3)).toNat) M179) ok_X12_sure (And.intro (Nat.le_of_ble_eq_true rfl) (Nat.le_of_ble_eq_true rfl)) lm_L_224 in_X12_sure se_X12_sure rfl kc_167 rfl rfl (And.intro (Nat.le_of_ble_eq_true rfl) (Nat.le_of_ble_eq_true rfl)) rfl (Nat.le_of_ble_eq_true rfl) d_L_law_1808 (fun r180 M181 => ?_)
        refine jo_icmp_eq 1977 d_L_law_1811 (by decide) ?_ ?_
        · skip
          exact jO.sub (t_L_law_L1977 nm hs hsc n (f_L_law_L18 n g.2.2.2.2.2.2.2.1 (fun j => (g.2.2.2.2.2.2.2.2 j).toInt) k) ih v3 M181) (And.intro rfl (And.intro rfl (And.intro rfl (And.intro rfl True.intro))))
        · skip
          exact jO.none
      refine jo_if (fun c1_49 => ?_) (fun c1_49 => ?_)
      · skip
        refine jo_tabIn 1816 d_L_law_33 49 c1_49 (by decide) (by decide) rfl (by decide) ?_
        refine jo_aload 1 d_L_law_1816 rfl rfl ?_
        refine jo_aload 0 d_L_law_1817 rfl rfl ?_
        refine jo_iload 3 d_L_law_1818 rfl rfl ?_
        refine jo_iconst 1 d_L_law_1819 ?_
        refine jo_iadd d_L_law_1820 ?_
        refine jo_sld hsc d_L_law_1821 ?_
        refine jo_aload 0 d_L_law_1822 rfl rfl ?_
        refine jo_iload 3 d_L_law_1823 rfl rfl ?_
        refine jo_iconst 2 d_L_law_1824 ?_
        refine jo_iadd d_L_law_1825 ?_
        refine jo_sld hsc d_L_law_1826 ?_
        refine jo_callV (st := []) (m_X11_slips hs n ((fun j => (g.2.2.2.2.2.2.2.2 j).toInt) (jw (v3 + 1)).toNat) ((fun j => (g.2.2.2.2.2.2.2.2 j).toInt) (jw (v3 + 2)).toNat) M) ok_X11_slips (And.intro (Nat.le_of_ble_eq_true rfl) (Nat.le_of_ble_eq_true rfl)) lm_L_225 in_X11_slips se_X11_slips rfl kc_0 rfl rfl (And.intro (Nat.le_of_ble_eq_true rfl) (Nat.le_of_ble_eq_true rfl)) rfl (Nat.le_of_ble_eq_true rfl) d_L_law_1827 (fun r182 M183 => ?_)
        refine jo_aload 2 d_L_law_1830 rfl rfl ?_
        refine jo_aload 0 d_L_law_1831 rfl rfl ?_
        refine jo_iload 3 d_L_law_1832 rfl rfl ?_
        refine jo_iconst 1 d_L_law_1833 ?_
        refine jo_iadd d_L_law_1834 ?_
        refine jo_sld hsc d_L_law_1835 ?_
        refine jo_aload 0 d_L_law_1836 rfl rfl ?_
        refine jo_iload 3 d_L_law_1837 rfl rfl ?_
        refine jo_iconst 2 d_L_law_1838 ?_
        refine jo_iadd d_L_law_1839 ?_
        refine jo_sld hsc d_L_law_1840 ?_
        refine jo_callV (st := [ji r182]) (m_X12_slips hs n ((fun j => (g.2.2.2.2.2.2.2.2 j).toInt) (jw (v3 + 1)).toNat) ((fun j => (g.2.2.2.2.2.2.2.2 j).toInt) (jw (v3 + 2)).toNat) M183) ok_X12_slips (And.intro (Nat.le_of_ble_eq_true rfl) (Nat.le_of_ble_eq_true rfl)) lm_L_228 in_X12_slips se_X12_slips rfl kc_167 rfl rfl (And.intro (Nat.le_of_ble_eq_true rfl) (Nat.le_of_ble_eq_true rfl)) rfl (Nat.le_of_ble_eq_true rfl) d_L_law_1841 (fun r184 M185 => ?_)
        refine jo_icmp_eq 1977 d_L_law_1844 (by decide) ?_ ?_
        · skip
          exact jO.sub (t_L_law_L1977 nm hs hsc n (f_L_law_L18 n g.2.2.2.2.2.2.2.1 (fun j => (g.2.2.2.2.2.2.2.2 j).toInt) k) ih v3 M185) (And.intro rfl (And.intro rfl (And.intro rfl (And.intro rfl True.intro))))
        · skip
          exact jO.none
      refine jo_if (fun c1_50 => ?_) (fun c1_50 => ?_)
      · skip
        refine jo_tabIn 1849 d_L_law_33 50 c1_50 (by decide) (by decide) rfl (by decide) ?_
        refine jo_aload 1 d_L_law_1849 rfl rfl ?_
        refine jo_aload 0 d_L_law_1850 rfl rfl ?_
        refine jo_iload 3 d_L_law_1851 rfl rfl ?_
        refine jo_iconst 1 d_L_law_1852 ?_
        refine jo_iadd d_L_law_1853 ?_
        refine jo_sld hsc d_L_law_1854 ?_
        refine jo_callV (st := []) (m_X11_copyPlaces hs n ((fun j => (g.2.2.2.2.2.2.2.2 j).toInt) (jw (v3 + 1)).toNat) M) ok_X11_copyPlaces (And.intro (Nat.le_of_ble_eq_true rfl) (Nat.le_of_ble_eq_true rfl)) lm_L_229 in_X11_copyPlaces se_X11_copyPlaces rfl kc_0 rfl rfl (And.intro (Nat.le_of_ble_eq_true rfl) (Nat.le_of_ble_eq_true rfl)) rfl (Nat.le_of_ble_eq_true rfl) d_L_law_1855 (fun r186 M187 => ?_)
        refine jo_aload 2 d_L_law_1858 rfl rfl ?_
        refine jo_aload 0 d_L_law_1859 rfl rfl ?_
        refine jo_iload 3 d_L_law_1860 rfl rfl ?_
        refine jo_iconst 1 d_L_law_1861 ?_
        refine jo_iadd d_L_law_1862 ?_
        refine jo_sld hsc d_L_law_1863 ?_
        refine jo_callV (st := [ji r186]) (m_X12_copyPlaces hs n ((fun j => (g.2.2.2.2.2.2.2.2 j).toInt) (jw (v3 + 1)).toNat) M187) ok_X12_copyPlaces (And.intro (Nat.le_of_ble_eq_true rfl) (Nat.le_of_ble_eq_true rfl)) lm_L_232 in_X12_copyPlaces se_X12_copyPlaces rfl kc_167 rfl rfl (And.intro (Nat.le_of_ble_eq_true rfl) (Nat.le_of_ble_eq_true rfl)) rfl (Nat.le_of_ble_eq_true rfl) d_L_law_1864 (fun r188 M189 => ?_)
        refine jo_icmp_eq 1977 d_L_law_1867 (by decide) ?_ ?_
        · skip
          exact jO.sub (t_L_law_L1977 nm hs hsc n (f_L_law_L18 n g.2.2.2.2.2.2.2.1 (fun j => (g.2.2.2.2.2.2.2.2 j).toInt) k) ih v3 M189) (And.intro rfl (And.intro rfl (And.intro rfl (And.intro rfl True.intro))))
        · skip
          exact jO.none
      refine jo_if (fun c1_51 => ?_) (fun c1_51 => ?_)
      · skip
        refine jo_tabIn 1872 d_L_law_33 51 c1_51 (by decide) (by decide) rfl (by decide) ?_
        refine jo_aload 1 d_L_law_1872 rfl rfl ?_
        refine jo_aload 0 d_L_law_1873 rfl rfl ?_
        refine jo_iload 3 d_L_law_1874 rfl rfl ?_
        refine jo_iconst 1 d_L_law_1875 ?_
        refine jo_iadd d_L_law_1876 ?_
        refine jo_sld hsc d_L_law_1877 ?_
        refine jo_callV (st := []) (m_X11_live hs n ((fun j => (g.2.2.2.2.2.2.2.2 j).toInt) (jw (v3 + 1)).toNat) M) ok_X11_live (And.intro (Nat.le_of_ble_eq_true rfl) (Nat.le_of_ble_eq_true rfl)) lm_L_233 in_X11_live se_X11_live rfl kc_0 rfl rfl (And.intro (Nat.le_of_ble_eq_true rfl) (Nat.le_of_ble_eq_true rfl)) rfl (Nat.le_of_ble_eq_true rfl) d_L_law_1878 (fun r190 M191 => ?_)
        refine jo_aload 2 d_L_law_1881 rfl rfl ?_
        refine jo_aload 0 d_L_law_1882 rfl rfl ?_
        refine jo_iload 3 d_L_law_1883 rfl rfl ?_
        refine jo_iconst 1 d_L_law_1884 ?_
        refine jo_iadd d_L_law_1885 ?_
        refine jo_sld hsc d_L_law_1886 ?_
        refine jo_callV (st := [ji r190]) (m_X12_live hs n ((fun j => (g.2.2.2.2.2.2.2.2 j).toInt) (jw (v3 + 1)).toNat) M191) ok_X12_live (And.intro (Nat.le_of_ble_eq_true rfl) (Nat.le_of_ble_eq_true rfl)) lm_L_236 in_X12_live se_X12_live rfl kc_167 rfl rfl (And.intro (Nat.le_of_ble_eq_true rfl) (Nat.le_of_ble_eq_true rfl)) rfl (Nat.le_of_ble_eq_true rfl) d_L_law_1887 (fun r192 M193 => ?_)
        refine jo_icmp_eq 1977 d_L_law_1890 (by decide) ?_ ?_
        · skip
          exact jO.sub (t_L_law_L1977 nm hs hsc n (f_L_law_L18 n g.2.2.2.2.2.2.2.1 (fun j => (g.2.2.2.2.2.2.2.2 j).toInt) k) ih v3 M193) (And.intro rfl (And.intro rfl (And.intro rfl (And.intro rfl True.intro))))
        · skip
          exact jO.none
      refine jo_if (fun c1_52 => ?_) (fun c1_52 => ?_)
      · skip
        refine jo_tabIn 1895 d_L_law_33 52 c1_52 (by decide) (by decide) rfl (by decide) ?_
        refine jo_aload 1 d_L_law_1895 rfl rfl ?_
        refine jo_aload 0 d_L_law_1896 rfl rfl ?_
        refine jo_iload 3 d_L_law_1897 rfl rfl ?_
        refine jo_iconst 1 d_L_law_1898 ?_
        refine jo_iadd d_L_law_1899 ?_
        refine jo_sld hsc d_L_law_1900 ?_
        refine jo_callV (st := []) (m_X11_lived hs n ((fun j => (g.2.2.2.2.2.2.2.2 j).toInt) (jw (v3 + 1)).toNat) M) ok_X11_lived (And.intro (Nat.le_of_ble_eq_true rfl) (Nat.le_of_ble_eq_true rfl)) lm_L_237 in_X11_lived se_X11_lived rfl kc_0 rfl rfl (And.intro (Nat.le_of_ble_eq_true rfl) (Nat.le_of_ble_eq_true rfl)) rfl (Nat.le_of_ble_eq_true rfl) d_L_law_1901 (fun r194 M195 => ?_)
        refine jo_aload 2 d_L_law_1904 rfl rfl ?_
        refine jo_aload 0 d_L_law_1905 rfl rfl ?_
        refine jo_iload 3 d_L_law_1906 rfl rfl ?_
        refine jo_iconst 1 d_L_law_1907 ?_
        refine jo_iadd d_L_law_1908 ?_
        refine jo_sld hsc d_L_law_1909 ?_
        refine jo_callV (st := [ji r194]) (m_X12_lived hs n ((fun j => (g.2.2.2.2.2.2.2.2 j).toInt) (jw (v3 + 1)).toNat) M195) ok_X12_lived (And.intro (Nat.le_of_ble_eq_true rfl) (Nat.le_of_ble_eq_true rfl)) lm_L_240 in_X12_lived se_X12_lived rfl kc_167 rfl rfl (And.intro (Nat.le_of_ble_eq_true rfl) (Nat.le_of_ble_eq_true rfl)) rfl (Nat.le_of_ble_eq_true rfl) d_L_law_1910 (fun r196 M197 => ?_)
        refine jo_icmp_eq 1977 d_L_law_1913 (by decide) ?_ ?_
        · skip
          exact jO.sub (t_L_law_L1977 nm hs hsc n (f_L_law_L18 n g.2.2.2.2.2.2.2.1 (fun j => (g.2.2.2.2.2.2.2.2 j).toInt) k) ih v3 M197) (And.intro rfl (And.intro rfl (And.intro rfl (And.intro rfl True.intro))))
        · skip
          exact jO.none
      refine jo_if (fun c1_53 => ?_) (fun c1_53 => ?_)
      · skip
        refine jo_tabIn 1918 d_L_law_33 53 c1_53 (by decide) (by decide) rfl (by decide) ?_
        refine jo_aload 1 d_L_law_1918 rfl rfl ?_
        refine jo_aload 0 d_L_law_1919 rfl rfl ?_
        refine jo_iload 3 d_L_law_1920 rfl rfl ?_
        refine jo_iconst 1 d_L_law_1921 ?_
        refine jo_iadd d_L_law_1922 ?_
        refine jo_sld hsc d_L_law_1923 ?_
        refine jo_aload 0 d_L_law_1924 rfl rfl ?_
        refine jo_iload 3 d_L_law_1925 rfl rfl ?_
        refine jo_iconst 2 d_L_law_1926 ?_
        refine jo_iadd d_L_law_1927 ?_
        refine jo_sld hsc d_L_law_1928 ?_
        refine jo_callV (st := []) (m_X11_mean hs n ((fun j => (g.2.2.2.2.2.2.2.2 j).toInt) (jw (v3 + 1)).toNat) ((fun j => (g.2.2.2.2.2.2.2.2 j).toInt) (jw (v3 + 2)).toNat) M) ok_X11_mean (And.intro (Nat.le_of_ble_eq_true rfl) (Nat.le_of_ble_eq_true rfl)) lm_L_241 in_X11_mean se_X11_mean rfl kc_0 rfl rfl (And.intro (Nat.le_of_ble_eq_true rfl) (Nat.le_of_ble_eq_true rfl)) rfl (Nat.le_of_ble_eq_true rfl) d_L_law_1929 (fun r198 M199 => ?_)
        refine jo_aload 2 d_L_law_1932 rfl rfl ?_
        refine jo_aload 0 d_L_law_1933 rfl rfl ?_
        refine jo_iload 3 d_L_law_1934 rfl rfl ?_
        refine jo_iconst 1 d_L_law_1935 ?_
        refine jo_iadd d_L_law_1936 ?_
        refine jo_sld hsc d_L_law_1937 ?_
        refine jo_aload 0 d_L_law_1938 rfl rfl ?_
        refine jo_iload 3 d_L_law_1939 rfl rfl ?_
        refine jo_iconst 2 d_L_law_1940 ?_
        refine jo_iadd d_L_law_1941 ?_
        refine jo_sld hsc d_L_law_1942 ?_
        refine jo_callV (st := [ji r198]) (m_X12_mean hs n ((fun j => (g.2.2.2.2.2.2.2.2 j).toInt) (jw (v3 + 1)).toNat) ((fun j => (g.2.2.2.2.2.2.2.2 j).toInt) (jw (v3 + 2)).toNat) M199) ok_X12_mean (And.intro (Nat.le_of_ble_eq_true rfl) (Nat.le_of_ble_eq_true rfl)) lm_L_244 in_X12_mean se_X12_mean rfl kc_167 rfl rfl (And.intro (Nat.le_of_ble_eq_true rfl) (Nat.le_of_ble_eq_true rfl)) rfl (Nat.le_of_ble_eq_true rfl) d_L_law_1943 (fun r200 M201 => ?_)
        refine jo_icmp_eq 1977 d_L_law_1946 (by decide) ?_ ?_
        · skip
          exact jO.sub (t_L_law_L1977 nm hs hsc n (f_L_law_L18 n g.2.2.2.2.2.2.2.1 (fun j => (g.2.2.2.2.2.2.2.2 j).toInt) k) ih v3 M201) (And.intro rfl (And.intro rfl (And.intro rfl (And.intro rfl True.intro))))
        · skip
          exact jO.none
      refine jo_if (fun c1_54 => ?_) (fun c1_54 => ?_)
      · skip
        refine jo_tabIn 1951 d_L_law_33 54 c1_54 (by decide) (by decide) rfl (by decide) ?_
        refine jo_aload 1 d_L_law_1951 rfl rfl ?_
        refine jo_callV (st := []) (m_X11_mark hs n M) ok_X11_mark (And.intro (Nat.le_of_ble_eq_true rfl) (Nat.le_of_ble_eq_true rfl)) lm_L_245 in_X11_mark se_X11_mark rfl kc_0 rfl rfl (And.intro (Nat.le_of_ble_eq_true rfl) (Nat.le_of_ble_eq_true rfl)) rfl (Nat.le_of_ble_eq_true rfl) d_L_law_1952 (fun r202 M203 => ?_)
        refine jo_aload 2 d_L_law_1955 rfl rfl ?_
        refine jo_callV (st := [ji r202]) (m_X12_mark hs n M203) ok_X12_mark (And.intro (Nat.le_of_ble_eq_true rfl) (Nat.le_of_ble_eq_true rfl)) lm_L_248 in_X12_mark se_X12_mark rfl kc_167 rfl rfl (And.intro (Nat.le_of_ble_eq_true rfl) (Nat.le_of_ble_eq_true rfl)) rfl (Nat.le_of_ble_eq_true rfl) d_L_law_1956 (fun r204 M205 => ?_)
        refine jo_icmp_eq 1977 d_L_law_1959 (by decide) ?_ ?_
        · skip
          exact jO.sub (t_L_law_L1977 nm hs hsc n (f_L_law_L18 n g.2.2.2.2.2.2.2.1 (fun j => (g.2.2.2.2.2.2.2.2 j).toInt) k) ih v3 M205) (And.intro rfl (And.intro rfl (And.intro rfl (And.intro rfl True.intro))))
        · skip
          exact jO.none
      refine jo_if (fun c1_55 => ?_) (fun c1_55 => ?_)
      · skip
        refine jo_tabIn 1964 d_L_law_33 55 c1_55 (by decide) (by decide) rfl (by decide) ?_
        refine jo_aload 1 d_L_law_1964 rfl rfl ?_
        refine jo_callV (st := []) (m_X11_undo hs n M) ok_X11_undo (And.intro (Nat.le_of_ble_eq_true rfl) (Nat.le_of_ble_eq_true rfl)) lm_L_249 in_X11_undo se_X11_undo rfl kc_0 rfl rfl (And.intro (Nat.le_of_ble_eq_true rfl) (Nat.le_of_ble_eq_true rfl)) rfl (Nat.le_of_ble_eq_true rfl) d_L_law_1965 (fun r206 M207 => ?_)
        refine jo_aload 2 d_L_law_1968 rfl rfl ?_
        refine jo_callV (st := [ji r206]) (m_X12_undo hs n M207) ok_X12_undo (And.intro (Nat.le_of_ble_eq_true rfl) (Nat.le_of_ble_eq_true rfl)) lm_L_252 in_X12_undo se_X12_undo rfl kc_167 rfl rfl (And.intro (Nat.le_of_ble_eq_true rfl) (Nat.le_of_ble_eq_true rfl)) rfl (Nat.le_of_ble_eq_true rfl) d_L_law_1969 (fun r208 M209 => ?_)
        refine jo_icmp_eq 1977 d_L_law_1972 (by decide) ?_ ?_
        · skip
          exact jO.sub (t_L_law_L1977 nm hs hsc n (f_L_law_L18 n g.2.2.2.2.2.2.2.1 (fun j => (g.2.2.2.2.2.2.2.2 j).toInt) k) ih v3 M209) (And.intro rfl (And.intro rfl (And.intro rfl (And.intro rfl True.intro))))
        · skip
          exact jO.none
      refine jo_tabOut 1977 d_L_law_33 (by omega) (by decide) ?_
      exact jO.sub (t_L_law_L1977 nm hs hsc n (f_L_law_L18 n g.2.2.2.2.2.2.2.1 (fun j => (g.2.2.2.2.2.2.2.2 j).toInt) k) ih v3 M) (And.intro rfl (And.intro rfl (And.intro rfl (And.intro rfl True.intro))))
def f_L_law (n : Nat) (L : Nat) (X : Nat → Int) (M : JMem) : Option (Int × JMem) := letv 0 fun y1 => f_L_law_L18 n L X n y1 M
theorem t_L_law {g : JG} {ad : Nat → Nat} (nm : String) (hs : jStr g ad) (hsc : ad 1005 = g.2.2.2.2.2.2.1) (n : Nat) (M : JMem) : jL g nm ad 16 [some (.ref 1005), some (.ref 0), some (.ref 167), none] [] M (f_L_law n g.2.2.2.2.2.2.2.1 (fun j => (g.2.2.2.2.2.2.2.2 j).toInt) M) := by
  unfold f_L_law
  refine jo_iconst 0 d_L_law_16 ?_
  refine jo_istore 3 d_L_law_17 rfl (Nat.le_of_ble_eq_true rfl) (fun y1 => ?_)
  exact jO.sub (t_L_law_L18 nm hs hsc n n y1 M) (And.intro rfl (And.intro rfl (And.intro rfl (And.intro rfl True.intro))))
end JLAW

section JCTOR
variable {α : Type} {g : JG} {d : JD} {Qf : JQ α} {cs : Nat × Nat} {n : Nat} {ad : Nat → Nat} {ρ : JRho} {pc : Nat} {lo : List (Option Value)} {st : List Value} {M : JMem} {o : Option α}
/-! new cells -/
def jz (M : JMem) (n : Nat) : JMem := jrow M n (fun _ => 0)
def jzr (ρ : JRho) (n : Nat) : JRho := fun a k => if a = n then none else ρ a k
def jsr (ρ : JRho) (a k b : Nat) : JRho := fun a' k' => if a' = a ∧ k' = k then some b else ρ a' k'
def jwf (n : Nat) (ρ : JRho) : Prop := ∀ a k b, a < n → ρ a k = some b → b < n ∧ k < 40
theorem jwf_new (h : jwf n ρ) : jwf (n + 1) (jzr ρ n) := by
  intro a k b ha hb
  unfold jzr at hb
  split at hb
  · cases hb
  · have := h a k b (by omega) hb
    omega
theorem jwf_set {a k b : Nat} (h : jwf n ρ) (hb : b < n) (hk : k < 40) : jwf n (jsr ρ a k b) := by
  intro a' k' b' ha hb'
  unfold jsr at hb'
  split at hb'
  · rename_i q
    cases hb'
    exact ⟨hb, by omega⟩
  · exact h a' k' b' ha hb'
def jag (n : Nat) (ad ad' : Nat → Nat) : Prop := (∀ k, k < n → ad' k = ad k) ∧ ∀ k, 1000 ≤ k → ad' k = ad k
theorem jag.rf : jag n ad ad := ⟨fun _ _ => rfl, fun _ _ => rfl⟩
theorem jag.tr {n1 n2 : Nat} {a1 a2 a3 : Nat → Nat} (h1 : jag n1 a1 a2) (h2 : jag n2 a2 a3) (h : n1 ≤ n2) : jag n1 a1 a3 := ⟨fun k hk => (h2.1 k (by omega)).trans (h1.1 k hk), fun k hk => (h2.2 k hk).trans (h1.2 k hk)⟩
theorem jStr.ag {ad' : Nat → Nat} (h : jStr g ad) (ha : jag n ad ad') : jStr g ad' := ⟨(ha.2 _ (by omega)).trans h.1, (ha.2 _ (by omega)).trans h.2.1, (ha.2 _ (by omega)).trans h.2.2.1, (ha.2 _ (by omega)).trans h.2.2.2.1, (ha.2 _ (by omega)).trans h.2.2.2.2⟩
/-- a reference to what is there already -/
def jvo (n : Nat) : Value → Prop
  | .ref b => b < n ∨ 1000 ≤ b
  | _ => True
def jro (n : Nat) : List Value → Prop
  | [] => True
  | v :: l => jvo n v ∧ jro n l
def jlo0 (n : Nat) : List (Option Value) → Prop
  | [] => True
  | none :: l => jlo0 n l
  | some v :: l => jvo n v ∧ jlo0 n l
theorem jvo_lt {n b : Nat} (h : b < n) : jvo n (.ref b) := Or.inl h
theorem jvo_hi {n b : Nat} (h : 1000 ≤ b) : jvo n (.ref b) := Or.inr h
theorem jvo_mv {ad' : Nat → Nat} (ha : jag n ad ad') {v : Value} (h : jvo n v) : jmv ad' v = jmv ad v := by
  cases v with
  | ref b =>
    rcases h with h | h
    · exact congrArg Value.ref (ha.1 b h)
    · exact congrArg Value.ref (ha.2 b h)
  | _ => rfl
theorem jro_mv {ad' : Nat → Nat} (ha : jag n ad ad') : ∀ {l : List Value}, jro n l → l.map (jmv ad') = l.map (jmv ad)
  | [], _ => rfl
  | v :: l, h => by rw [List.map_cons, List.map_cons, jvo_mv ha h.1, jro_mv ha h.2]
theorem jlo0_at : ∀ {l : List (Option Value)}, jlo0 n l → ∀ (i : Nat) (v : Value), l[i]? = some (some v) → jvo n v
  | [], _, i, v, h => by simp at h
  | none :: l, hl, i, v, h => by
    cases i with
    | zero => simp at h
    | succ i => exact jlo0_at (l := l) hl i v (by simpa using h)
  | some u :: l, hl, i, v, h => by
    cases i with
    | zero => simp at h; subst h; exact hl.1
    | succ i => exact jlo0_at (l := l) hl.2 i v (by simpa using h)
theorem jhas_ag {ad' : Nat → Nat} {ls : Array Slot} {nL : Nat} (ha : jag n ad ad') (hlo : jlo0 n lo) (h : jhas ad ls nL lo) : jhas ad' ls nL lo := ⟨h.1, h.2.1, fun i v hv => by rw [jvo_mv ha (jlo0_at hlo i v hv)]; exact h.2.2 i v hv⟩
theorem jfv_ag {ad' : Nat → Nat} {ty : FieldType} {x : Int} {r : Option Nat} (h : ∀ b, r = some b → ad' b = ad b) : jfv ad' ty x r = jfv ad ty x r := by
  have e : r.map ad' = r.map ad := by
    cases r with
    | none => rfl
    | some b => exact congrArg some (h b rfl)
  unfold jfv
  split <;> first | rfl | rw [e]
theorem jE_ag {ad' : Nat → Nat} {cy : Nat → ClassId} {kd : Nat × Nat} {m : Nat → Int} {r : Nat → Option Nat} (h : ∀ k b, r k = some b → ad' b = ad b) : jE cy ad' kd m r = jE cy ad kd m r := by
  have e : ∀ j, (r j).map ad' = (r j).map ad := fun j => by
    cases hr : r j with
    | none => rfl
    | some b => exact congrArg some (h j b hr)
  unfold jE
  split
  · exact congrArg (fun q => (Sum.inr (kd.2, q) : va_E)) (List.map_congr_left fun k _ => jfv_ag (fun b hb => h k b hb))
  · rfl
  · rfl
  · rfl
  · simp only [e]
theorem jWl_push {cy : Nat → ClassId} {q : Nat} {e : va_E} (hwf : jwf n ρ) (he : e = jE cy (va_up ad n q) (jG n) (fun _ => 0) (fun _ => none)) : jWl cy n ad ρ M ++ [(q, e)] = jWl cy (n + 1) (va_up ad n q) (jzr ρ n) (jz M n) := by
  unfold jWl
  rw [List.range_succ, List.map_append]
  congr 1
  · refine List.map_congr_left fun k hk => ?_
    have hk2 : k < n := List.mem_range.mp hk
    have e1 : va_up ad n q k = ad k := if_neg (by omega)
    have e2 : jz M n k = M k := funext fun j => if_neg (by omega)
    have e3 : jzr ρ n k = ρ k := funext fun j => if_neg (by omega)
    rw [e1, e2, e3]
    exact congrArg (fun z => (ad k, z)) (jE_ag (fun j b hb => if_neg (by have := (hwf k j b hk2 hb).1; omega))).symm
  · rw [List.map_cons, List.map_nil, he]
    have e1 : va_up ad n q n = q := if_pos rfl
    have e2 : jz M n n = fun _ => 0 := funext fun j => if_pos rfl
    have e3 : jzr ρ n n = fun _ => none := funext fun j => if_pos rfl
    rw [e1, e2, e3]
theorem jpushed {q : Nat} {e : va_E} {H1 : Heap} (hwf : jwf n ρ) (hn : n < 1000) (he : e = jE g.2.1 (va_up ad n q) (jG n) (fun _ => 0) (fun _ => none)) (hP : va_P g.1 vwCl (jWl g.2.1 n ad ρ M ++ [(q, e)]) H1) (hD : va_D (jA g) (jWl g.2.1 n ad ρ M ++ [(q, e)])) : jag n ad (va_up ad n q) ∧ va_up ad n q n = q ∧ jH g (n + 1) (va_up ad n q) (jzr ρ n) (jz M n) H1 := by
  rw [jWl_push hwf he] at hP hD
  exact ⟨⟨fun k hk => if_neg (by omega), fun k hk => if_neg (by omega)⟩, if_pos rfl, hP, hD⟩
theorem jz_le {a : Nat} {H : Heap} (hH : jH g n ad ρ M H) (ha : a < n) : ∀ q : Nat, H.size ≤ q → jA g q := by
  intro q hq
  have h1 : jA g (ad a) := hH.2.2 a _ (jWl_get ha)
  have h2 : ad a < H.size := (hH.1 a _ (jWl_get ha)).lt
  unfold jA at h1 ⊢
  omega
theorem jS0 {s : State} {H : Heap} {locs : List Loc} {A : Nat → Prop} (hS : va_S A s.heap H locs) : va_S A H H locs := ⟨Nat.le_refl _, fun _ _ _ => rfl, hS.2.2⟩
theorem jS1 {s : State} {H H1 : Heap} {locs locs1 : List Loc} {A : Nat → Prop} (hS : va_S A s.heap H locs) (h : va_S A H H1 locs1) : va_S A s.heap H1 locs1 := ⟨Nat.le_trans hS.1 h.1, fun q h1 h2 => (h.2.1 q (Nat.lt_of_lt_of_le h1 hS.1) h2).trans (hS.2.1 q h1 h2), h.2.2⟩
theorem jfvD {ty : FieldType} (h1 : ty ≠ .float) (h2 : ty ≠ .double) : defaultValue ty = jfv ad ty 0 none := by
  cases ty <;> first | rfl | exact absurd rfl h1 | exact absurd rfl h2
theorem jo_new {C : String} {T : u_T} {N ci idx a0 : Nat} (hC : jCl ci C T N) (hfd : ∀ k, k < N → jty ci k ≠ .float ∧ jty ci k ≠ .double) (hG : jG n = (0, ci)) (hn : n < 1000) (ha0 : a0 < n) (hwf : jwf n ρ) (hlink : Cond.classLink d.1 idx C ∈ jTW) (hinst : Cond.instantiable C N ∈ jTW) (hini : Cond.initialized C ∈ jTW) (hlo : jlo0 n lo) (hst : jro n st) (hcs : cs.1 + 1 ≤ d.2.2.2.2.2.cells ∧ cs.2 + N ≤ d.2.2.2.2.2.slots) (hd : decode d.2.1 pc = .ok (.new idx, 3))
    (kk : ∀ ad', jag n ad ad' → jO g d Qf (cs.1 + 1, cs.2 + N) (n + 1) ad' (jzr ρ n) (pc + 3) lo (.ref n :: st) (jz M n) o) : jO g d Qf cs n ad ρ pc lo st M o := by
  intro z hz p e s m args below meth c H locs ls Cx hH hS hl
  obtain ⟨c1, c2, c3, c4, c5⟩ := hC
  obtain ⟨hx1, hb, hml, hr, hlk, hnm, hown, hts, hT, hX⟩ := id Cx
  refine va_new (fs := (List.range (jN ci)).map (fun k => jfv ad (jty ci k) 0 none)) hx1 hb hts c2 (jty ci) c3 hown (hts _ hlink) (hts _ hinst) (hts _ hini) hT.2 hH.1 hH.2 (jS0 hS) (jz_le hH ha0) c1 (fun j hj => ?_) hcs.1 hcs.2 hd (fun q H1 hP hD hS1 => ?_)
  · rw [jfvD (ad := ad) (hfd j hj).1 (hfd j hj).2]
    unfold vp_V
    rw [List.getD_eq_getElem?_getD, List.getElem?_map, List.getElem?_range (by omega)]
    rfl
  · obtain ⟨g1, g2, g3⟩ := jpushed hwf hn (by rw [hG, jE_obj]; exact congrArg (fun q => (Sum.inr (ci, q) : va_E)) (List.map_congr_left fun k _ => (jfv_ag (fun b hb => by cases hb)).symm)) hP hD
    have k2 := kk _ g1 z hz p e s m args below meth c H1 locs ls Cx g3 (jS1 hS hS1) (jhas_ag g1 hlo hl)
    rw [List.map_cons, jro_mv g1 hst, show jmv (va_up ad n q) (.ref n) = .ref (va_up ad n q n) from rfl, g2] at k2
    exact k2
theorem jcA {s : State} {cA : ClassId} {k : Nat} {c0 : ClassId} {ty : FieldType} (hT : va_K g.1 vwCl (jtys g) s) (hk : (jtys g)[k]? = some (c0, ty)) (hT2 : va_K g.1 vwCl (jtys g ++ [(cA, ty)]) s) : cA = c0 := by
  have h1 := (hT.2 k _ hk).2
  have h2 := (hT2.2 7 (cA, ty) rfl).2
  unfold va_RA at h1 h2
  cases ty with
  | object C =>
    obtain ⟨_, _, _, _, _, q1⟩ := h1
    obtain ⟨_, _, _, _, _, q2⟩ := h2
    exact Option.some.inj (q2.symm.trans q1)
  | _ => exact Option.some.inj (h2.symm.trans h1)
theorem jo_newI {N a0 : Nat} (hG : jG n = (1, N)) (hn : n < 1000) (ha0 : a0 < n) (hwf : jwf n ρ) (harr : Cond.arrayClass .int ∈ jTW) (hN : (Int32.ofInt (N : Int)).toNatClampNeg = N) (hnn : ¬ Int32.ofInt (N : Int) < 0) (hby : N * 4 ≤ 536870912) (hlo : jlo0 n lo) (hst : jro n st) (hcs : cs.1 + 1 ≤ d.2.2.2.2.2.cells ∧ cs.2 + N ≤ d.2.2.2.2.2.slots) (hd : decode d.2.1 pc = .ok (.newarray .int, 2))
    (kk : ∀ ad', jag n ad ad' → jO g d Qf (cs.1 + 1, cs.2 + N) (n + 1) ad' (jzr ρ n) (pc + 2) lo (.ref n :: st) (jz M n) o) : jO g d Qf cs n ad ρ pc lo (ji (N : Int) :: st) M o := by
  intro z hz p e s m args below meth c H locs ls Cx hH hS hl
  obtain ⟨hx1, hb, hml, hr, hlk, hnm, hown, hts, hT, hX⟩ := id Cx
  refine va_newa (atype := .int) (a0 := (N, .inl (fun _ => Int32.ofInt 0))) hx1 hb (hts _ harr) rfl hT.2 hH.1 hH.2 (jS0 hS) (jz_le hH ha0) (fun cA => rfl) hnn hN hby hcs.1 hcs.2 hd (fun q cA H1 hK2 hP hD hS1 => ?_)
  have hcA : cA = g.2.1 0 := jcA hT.2 (k := 0) rfl hK2
  subst hcA
  obtain ⟨g1, g2, g3⟩ := jpushed hwf hn (by rw [hG]; rfl) hP hD
  have k2 := kk _ g1 z hz p e s m args below meth c H1 locs ls Cx g3 (jS1 hS hS1) (jhas_ag g1 hlo hl)
  rw [List.map_cons, jro_mv g1 hst, show jmv (va_up ad n q) (.ref n) = .ref (va_up ad n q n) from rfl, g2] at k2
  exact k2
theorem jo_newL {N a0 : Nat} (hG : jG n = (2, N)) (hn : n < 1000) (ha0 : a0 < n) (hwf : jwf n ρ) (harr : Cond.arrayClass .long ∈ jTW) (hN : (Int32.ofInt (N : Int)).toNatClampNeg = N) (hnn : ¬ Int32.ofInt (N : Int) < 0) (hby : N * 8 ≤ 536870912) (hlo : jlo0 n lo) (hst : jro n st) (hcs : cs.1 + 1 ≤ d.2.2.2.2.2.cells ∧ cs.2 + N ≤ d.2.2.2.2.2.slots) (hd : decode d.2.1 pc = .ok (.newarray .long, 2))
    (kk : ∀ ad', jag n ad ad' → jO g d Qf (cs.1 + 1, cs.2 + N) (n + 1) ad' (jzr ρ n) (pc + 2) lo (.ref n :: st) (jz M n) o) : jO g d Qf cs n ad ρ pc lo (ji (N : Int) :: st) M o := by
  intro z hz p e s m args below meth c H locs ls Cx hH hS hl
  obtain ⟨hx1, hb, hml, hr, hlk, hnm, hown, hts, hT, hX⟩ := id Cx
  refine va_newa (atype := .long) (a0 := (N, .inr (.inl (fun _ => Int64.ofInt 0)))) hx1 hb (hts _ harr) rfl hT.2 hH.1 hH.2 (jS0 hS) (jz_le hH ha0) (fun cA => rfl) hnn hN hby hcs.1 hcs.2 hd (fun q cA H1 hK2 hP hD hS1 => ?_)
  have hcA : cA = g.2.1 1 := jcA hT.2 (k := 1) rfl hK2
  subst hcA
  obtain ⟨g1, g2, g3⟩ := jpushed hwf hn (by rw [hG]; rfl) hP hD
  have k2 := kk _ g1 z hz p e s m args below meth c H1 locs ls Cx g3 (jS1 hS hS1) (jhas_ag g1 hlo hl)
  rw [List.map_cons, jro_mv g1 hst, show jmv (va_up ad n q) (.ref n) = .ref (va_up ad n q n) from rfl, g2] at k2
  exact k2
theorem jo_newB {N a0 : Nat} (hG : jG n = (3, N)) (hn : n < 1000) (ha0 : a0 < n) (hwf : jwf n ρ) (harr : Cond.arrayClass .byte ∈ jTW) (hN : (Int32.ofInt (N : Int)).toNatClampNeg = N) (hnn : ¬ Int32.ofInt (N : Int) < 0) (hby : N * 1 ≤ 536870912) (hlo : jlo0 n lo) (hst : jro n st) (hcs : cs.1 + 1 ≤ d.2.2.2.2.2.cells ∧ cs.2 + N ≤ d.2.2.2.2.2.slots) (hd : decode d.2.1 pc = .ok (.newarray .byte, 2))
    (kk : ∀ ad', jag n ad ad' → jO g d Qf (cs.1 + 1, cs.2 + N) (n + 1) ad' (jzr ρ n) (pc + 2) lo (.ref n :: st) (jz M n) o) : jO g d Qf cs n ad ρ pc lo (ji (N : Int) :: st) M o := by
  intro z hz p e s m args below meth c H locs ls Cx hH hS hl
  obtain ⟨hx1, hb, hml, hr, hlk, hnm, hown, hts, hT, hX⟩ := id Cx
  refine va_newa (atype := .byte) (a0 := (N, .inl (fun _ => Int32.ofInt 0))) hx1 hb (hts _ harr) rfl hT.2 hH.1 hH.2 (jS0 hS) (jz_le hH ha0) (fun cA => rfl) hnn hN hby hcs.1 hcs.2 hd (fun q cA H1 hK2 hP hD hS1 => ?_)
  have hcA : cA = g.2.1 2 := jcA hT.2 (k := 2) rfl hK2
  subst hcA
  obtain ⟨g1, g2, g3⟩ := jpushed hwf hn (by rw [hG]; rfl) hP hD
  have k2 := kk _ g1 z hz p e s m args below meth c H1 locs ls Cx g3 (jS1 hS hS1) (jhas_ag g1 hlo hl)
  rw [List.map_cons, jro_mv g1 hst, show jmv (va_up ad n q) (.ref n) = .ref (va_up ad n q n) from rfl, g2] at k2
  exact k2
/-- an array of references to objects: t names it among the tables' arrays -/
theorem jo_newQ {N a0 t idx : Nat} {C : String} (ht : (jtys g)[t]? = some (g.2.1 (t + 1), .object C)) (h3 : 3 ≤ t) (hG : jG n = (t + 1, N)) (hn : n < 1000) (ha0 : a0 < n) (hwf : jwf n ρ) (hao : ∀ U, jAO U → va_AO C U) (hlink : Cond.classLink d.1 idx C ∈ jTW) (hN : (Int32.ofInt (N : Int)).toNatClampNeg = N) (hnn : ¬ Int32.ofInt (N : Int) < 0) (hby : N * 4 ≤ 536870912) (hlo : jlo0 n lo) (hst : jro n st) (hcs : cs.1 + 1 ≤ d.2.2.2.2.2.cells ∧ cs.2 + N ≤ d.2.2.2.2.2.slots) (hd : decode d.2.1 pc = .ok (.anewarray idx, 3))
    (kk : ∀ ad', jag n ad ad' → jO g d Qf (cs.1 + 1, cs.2 + N) (n + 1) ad' (jzr ρ n) (pc + 3) lo (.ref n :: st) (jz M n) o) : jO g d Qf cs n ad ρ pc lo (ji (N : Int) :: st) M o := by
  intro z hz p e s m args below meth c H locs ls Cx hH hS hl
  obtain ⟨hx1, hb, hml, hr, hlk, hnm, hown, hts, hT, hX⟩ := id Cx
  refine va_newq hx1 hb hown (hts _ hlink) (hao s hT.1.2) hT.2 hH.1 hH.2 (jS0 hS) (jz_le hH ha0) hnn hN hby hcs.1 hcs.2 hd (fun q cA H1 hK2 hP hD hS1 => ?_)
  have hcA : cA = g.2.1 (t + 1) := jcA hT.2 ht hK2
  subst hcA
  obtain ⟨g1, g2, g3⟩ := jpushed hwf hn (by
    rw [hG]
    obtain ⟨u, rfl⟩ : ∃ u, t = u + 3 := ⟨t - 3, by omega⟩
    rfl) hP hD
  have k2 := kk _ g1 z hz p e s m args below meth c H1 locs ls Cx g3 (jS1 hS hS1) (jhas_ag g1 hlo hl)
  rw [List.map_cons, jro_mv g1 hst, show jmv (va_up ad n q) (.ref n) = .ref (va_up ad n q n) from rfl, g2] at k2
  exact k2
/-! references come to their places -/
theorem jsr_self {a k b : Nat} : jsr ρ a k b a k = some b := by simp [jsr]
theorem jsr_ne {a k b a' k' : Nat} (h : ¬ (a' = a ∧ k' = k)) : jsr ρ a k b a' k' = ρ a' k' := if_neg h
theorem jo_putR {C : String} {T : u_T} {N ci k idx : Nat} {a b : Nat} (hC : jCl ci C T N) (hk : k < N) (hlink : Cond.fieldLink d.1 idx (T k).1 (T k).2.1 (T k).2.2.1 ∈ jTW) (hfin : (T k).2.2.2 = true) (hin2 : d.2.2.2.2.1 = "<init>") (hdecl : (T k).1 = d.1) (hty : (jty ci k).isReference = true) (ha : jK n (0, ci) a) (hd : decode d.2.1 pc = .ok (.putfield idx, 3))
    (kk : jO g d Qf cs n ad (jsr ρ a k b) (pc + 3) lo st M o) : jO g d Qf cs n ad ρ pc lo (.ref b :: .ref a :: st) M o := by
  intro z hz p e s m args below meth c H locs ls Cx hH hS hl
  obtain ⟨c1, c2, c3, c4, c5⟩ := hC
  obtain ⟨hx1, hb, hml, hr, hlk, hnm, hown, hts, hT, hX⟩ := id Cx
  have hv : jfv ad (jty ci k) (M a k) (some b) = .ref (ad b) := by
    generalize jty ci k = ty at hty
    cases ty <;> first | rfl | (exact absurd hty (by decide))
  refine va_putF hx1 hb hts c2 (jty ci) c3 c4 hown hT.2 hH.1 hH.2 hS a (jat ha) c1 k hk (hts _ hlink) (fun _ h => h) hfin (hnm.trans hin2) hdecl (c3 k hk) (v := .ref (ad b)) ?_ ?_ (by rw [List.length_map, List.length_range, c5]; exact hk) hd (fun H1 locs1 hP hD hS1 => ?_)
  · generalize jty ci k = ty at hty
    cases ty <;> first | rfl | (exact absurd hty (by decide))
  · generalize jty ci k = ty at hty
    cases ty <;> first | rfl | (exact absurd hty (by decide))
  have he : (jWl g.2.1 n ad ρ M).set a (ad a, .inr (ci, ((List.range (jN ci)).map (fun j => jfv ad (jty ci j) (M a j) (ρ a j))).set k (.ref (ad b)))) = jWl g.2.1 n ad (jsr ρ a k b) M := by
    rw [jrange_set (f' := fun j => jfv ad (jty ci j) (M a j) (jsr ρ a k b a j)) (by rw [c5]; exact hk) (by rw [jsr_self]; exact hv) (fun j hj => by rw [jsr_ne (fun q => hj q.2)]), ← jE_obj (cy := g.2.1) (r := jsr ρ a k b a), ← ha.2]
    exact jWl_set (fun b _ => rfl) (fun b hb => funext fun j => jsr_ne (fun q => hb q.1))
  rw [he] at hP hD
  exact kk z hz p e s m args below meth c H1 locs1 ls Cx ⟨hP, hD⟩ hS1 hl
theorem jo_aastq {t a N b ci : Nat} {i : Int} {r : vw_C} (ht : (jtys g)[t]? = some (g.2.1 (t + 1), .object r.1)) (h3 : 3 ≤ t) (ha : jK n (t + 1, N) a) (hb : jK n (0, ci) b) (hc : vwCl[ci]? = some r) (hin : jin i N) (hd : decode d.2.1 pc = .ok (.aastore, 1))
    (kk : jO g d Qf cs n ad (jsr ρ a (jw i).toNat b) (pc + 1) lo st M o) : jO g d Qf cs n ad ρ pc lo (.ref b :: ji i :: .ref a :: st) M o := by
  intro z hz p e s m args below meth c H locs ls Cx hH hS hl
  obtain ⟨u, rfl⟩ : ∃ u, t = u + 3 := ⟨t - 3, by omega⟩
  have ha2 : (jWl g.2.1 n ad ρ M)[a]? = some (ad a, .inl (g.2.1 (u + 4), N, .inr (.inr (.inr (.inr (fun j => (ρ a j).map ad)))))) := jat ha
  refine va_astq Cx.1 Cx.2.1 Cx.2.2.2.2.2.2.2.2.1.2 hH.1 hH.2 hS a (u + 3) b ci ha2 ht (jat hb) hc (jvp_in hin) hd (fun H1 locs1 hP hD hS1 => ?_)
  have he : (jWl g.2.1 n ad ρ M).set a (ad a, .inl (g.2.1 (u + 4), N, .inr (.inr (.inr (.inr (va_up (fun j => (ρ a j).map ad) (Int32.ofInt i).toNatClampNeg (some (ad b)))))))) = jWl g.2.1 n ad (jsr ρ a (jw i).toNat b) M := by
    have e2 : va_up (fun j => (ρ a j).map ad) (Int32.ofInt i).toNatClampNeg (some (ad b)) = fun j => (jsr ρ a (jw i).toNat b a j).map ad := by
      funext j
      rw [ji_nat]
      by_cases h : j = (jw i).toNat
      · subst h
        rw [jsr_self]
        simp [va_up]
      · rw [jsr_ne (fun q => h q.2)]
        simp [va_up, h]
    rw [e2]
    have e3 : jE g.2.1 ad (u + 3 + 1, N) (M a) (jsr ρ a (jw i).toNat b a) = .inl (g.2.1 (u + 4), N, .inr (.inr (.inr (.inr (fun j => (jsr ρ a (jw i).toNat b a j).map ad))))) := rfl
    rw [← e3, ← ha.2]
    exact jWl_set (fun b _ => rfl) (fun b hb => funext fun j => jsr_ne (fun q => hb q.1))
  rw [he] at hP hD
  exact kk z hz p e s m args below meth c H1 locs1 ls Cx ⟨hP, hD⟩ hS1 hl
/-! concrete steps: what is known already is taken -/
theorem jo_take {P : Prop} [Decidable P] (h : P) (k : jO g d Qf cs n ad ρ pc lo st M (if P then o else none)) : jO g d Qf cs n ad ρ pc lo st M o := by rw [if_pos h] at k; exact k
theorem jo_skip {P : Prop} [Decidable P] (h : ¬ P) (k : jO g d Qf cs n ad ρ pc lo st M (if P then none else o)) : jO g d Qf cs n ad ρ pc lo st M o := by rw [if_neg h] at k; exact k
theorem jo_chk {P : Prop} [Decidable P] (h : P) (k : jO g d Qf cs n ad ρ pc lo st M (chk P o)) : jO g d Qf cs n ad ρ pc lo st M o := by rw [chk_pos h] at k; exact k
theorem jo_istoreC (i : Nat) {j : Fin 4} {x : Int} (hd : decode d.2.1 pc = .ok (.istore_n j, 1)) (hj : (j : Nat) = i) (hn : i < d.2.2.1) (k : jO g d Qf cs n ad ρ (pc + 1) (jst1 lo i (ji x)) st M o) : jO g d Qf cs n ad ρ pc lo (ji x :: st) M o :=
  jO.rowL k fun p e s m args below meth c H locs ls Q C hl kk => lv_istore_n C.1 C.2.1 hd hj (jhas_lv hl) hn rfl (fun ls' h' => kk ls' (jhas_st1 h'))
theorem jo_iincC (i : Nat) {v : Int} {x : Int} (hd : decode d.2.1 pc = .ok (.iinc i v, 3)) (hl0 : lo[i]? = some (some (ji x))) (hn : i < d.2.2.1) (k : jO g d Qf cs n ad ρ (pc + 3) (jst1 lo i (ji (x + v))) st M o) : jO g d Qf cs n ad ρ pc lo st M o := by
  refine jO.rowL k fun p e s m args below meth c H locs ls Q C hl kk => ?_
  obtain ⟨kk0, hkk0⟩ := List.getElem?_of_mem (jtoLv_mem (ad := ad) hl0)
  exact lv_iinc (v := Int32.ofInt (x + v)) C.1 C.2.1 hd (jhas_lv hl) hkk0 (Int32.ofInt_add x v).symm hn rfl (fun ls' h' => kk ls' (jhas_st1 h'))
theorem jo_putIC {C : String} {T : u_T} {N ci k idx : Nat} {a : Nat} {x : Int} (hC : jCl ci C T N) (hk : k < N) (hlink : Cond.fieldLink d.1 idx (T k).1 (T k).2.1 (T k).2.2.1 ∈ jTW) (hfin : (T k).2.2.2 = false) (hty : jty ci k = .int) (ha : jK n (0, ci) a) (hd : decode d.2.1 pc = .ok (.putfield idx, 3)) (kk : jO g d Qf cs n ad ρ (pc + 3) lo st (jup M a k x) o) : jO g d Qf cs n ad ρ pc lo (ji x :: .ref a :: st) M o := by
  classical
  have h := jo_putI (f := fun M' => if M' = jup M a k x then o else none) (M := M) hC hk hlink hfin hty ha hd (x := x) (st := st) (lo := lo) (cs := cs) (Qf := Qf) (g := g) (ρ := ρ) (ad := ad) (fun M' => by
    by_cases hm : M' = jup M a k x
    · subst hm; rw [if_pos rfl]; exact kk
    · rw [if_neg hm]; exact jO.none)
  unfold letm at h
  dsimp only at h
  rw [if_pos rfl] at h
  exact h
theorem jo_putZC {C : String} {T : u_T} {N ci k idx : Nat} {a : Nat} {x : Int} (hx : jw x = 0 ∨ jw x = 1) (hC : jCl ci C T N) (hk : k < N) (hlink : Cond.fieldLink d.1 idx (T k).1 (T k).2.1 (T k).2.2.1 ∈ jTW) (hfin : (T k).2.2.2 = false) (hty : jty ci k = .boolean) (ha : jK n (0, ci) a) (hd : decode d.2.1 pc = .ok (.putfield idx, 3)) (kk : jO g d Qf cs n ad ρ (pc + 3) lo st (jup M a k x) o) : jO g d Qf cs n ad ρ pc lo (ji x :: .ref a :: st) M o := by
  classical
  have h := jo_putZ (f := fun M' => if M' = jup M a k x then o else none) (M := M) hC hk hlink hfin hty ha hd (x := x) (st := st) (lo := lo) (cs := cs) (Qf := Qf) (g := g) (ρ := ρ) (ad := ad) (fun M' => by
    by_cases hm : M' = jup M a k x
    · subst hm; rw [if_pos rfl]; exact kk
    · rw [if_neg hm]; exact jO.none)
  rw [chk_pos hx] at h
  unfold letm at h
  dsimp only at h
  rw [if_pos rfl] at h
  exact h
theorem jo_putLC {C : String} {T : u_T} {N ci k idx : Nat} {a : Nat} {x : Int} (hC : jCl ci C T N) (hk : k < N) (hlink : Cond.fieldLink d.1 idx (T k).1 (T k).2.1 (T k).2.2.1 ∈ jTW) (hfin : (T k).2.2.2 = false) (hty : jty ci k = .long) (ha : jK n (0, ci) a) (hd : decode d.2.1 pc = .ok (.putfield idx, 3)) (kk : jO g d Qf cs n ad ρ (pc + 3) lo st (jup M a k x) o) : jO g d Qf cs n ad ρ pc lo (jl x :: .ref a :: st) M o := by
  classical
  have h := jo_putL (f := fun M' => if M' = jup M a k x then o else none) (M := M) hC hk hlink hfin hty ha hd (x := x) (st := st) (lo := lo) (cs := cs) (Qf := Qf) (g := g) (ρ := ρ) (ad := ad) (fun M' => by
    by_cases hm : M' = jup M a k x
    · subst hm; rw [if_pos rfl]; exact kk
    · rw [if_neg hm]; exact jO.none)
  unfold letm at h
  dsimp only at h
  rw [if_pos rfl] at h
  exact h
theorem jo_iastC {a N : Nat} {i x : Int} (ha : jK n (1, N) a) (hin : jin i N) (hd : decode d.2.1 pc = .ok (.iastore, 1)) (kk : jO g d Qf cs n ad ρ (pc + 1) lo st (jup M a (jw i).toNat x) o) : jO g d Qf cs n ad ρ pc lo (ji x :: ji i :: .ref a :: st) M o := by
  classical
  have h := jo_iast (f := fun M' => if M' = jup M a (jw i).toNat x then o else none) (M := M) ha hd (i := i) (x := x) (st := st) (lo := lo) (cs := cs) (Qf := Qf) (g := g) (ρ := ρ) (ad := ad) (fun M' => by
    by_cases hm : M' = jup M a (jw i).toNat x
    · subst hm; rw [if_pos rfl]; exact kk
    · rw [if_neg hm]; exact jO.none)
  rw [chk_pos hin] at h
  unfold letm at h
  dsimp only at h
  rw [if_pos rfl] at h
  exact h
/-! Object.<init> -/
theorem in_obj : Cond.instanceMethod Lib.objectInit ∈ jTW := jTW_mem (k := 161) (by decide +kernel) rfl
theorem code_obj : Cond.code Lib.objectInit ⟨#[0xb1]⟩ 1 none ∈ jTW := jTW_mem (k := 162) (by decide +kernel) rfl
theorem jo_obj {idx b : Nat} (hlink : Cond.methodLink d.1 idx Lib.objectInit ∈ jTW) (hf : 1 ≤ d.2.2.2.2.2.frames) (hlo : (st.map fun v => v.category).sum + 12 ≤ d.2.2.2.2.2.locals) (hd : decode d.2.1 pc = .ok (.invokespecial idx, 3)) (k : jO g d Qf cs n ad ρ (pc + 3) lo st M o) : jO g d Qf cs n ad ρ pc lo (.ref b :: st) M o :=
  k.row fun p e s m args below meth c H locs ls Q C hl kk => W.objInit C.1 C.2.1 C.2.2.2.2.2.2.1 (C.2.2.2.2.2.2.2.1 _ hlink) (C.2.2.2.2.2.2.2.1 _ in_obj) (C.2.2.2.2.2.2.2.1 _ code_obj) rfl (hl.1.trans C.2.2.1.symm) rfl hd hf (by rw [jcat]; show 2 * 0 + _ + 12 ≤ _; omega) kk
/-! a constructor's contract -/
def jRetC (g : JG) (n : Nat) (ad : Nat → Nat) (n' : Nat) (ρ' : JRho) (M' : JMem) : Array Value → State → Outcome → State → Prop := fun _ st oc t => oc = .returned none ∧ (∃ ad', jag n ad ad' ∧ jU g n' ad' ρ' M' t) ∧ va_F (jA g) st t
def jMQC (g : JG) (n : Nat) (ad : Nat → Nat) (n' : Nat) (ρ' : JRho) (M' : JMem) (ms : Nat × Nat) : JQ Unit := fun _ below args s => MQ below (jRetC g n ad n' ρ' M') args s ms.1 ms.2 (jA g)
def jMetC (g : JG) (d : JD) (y : MethodName) (As : List Value) (n n' : Nat) (ρ ρ' : JRho) (M M' : JMem) : Prop := ∀ ad, jStr g ad →
  Met g.2.2.2.1 y (Cond.code y d.2.1 d.2.2.1 d.2.2.2.1 :: jTW) d.2.2.2.2.2 (va_Pc (As.map (jmv ad)) (fun U => jU g n ad ρ M U)) (jRetC g n ad n' ρ' M') d.2.2.2.2.2.cells d.2.2.2.2.2.slots (jA g)
theorem jMetC.of {y : MethodName} {As : List Value} {lo0 : List (Option Value)} {n' : Nat} {ρ' : JRho} {M' : JMem} (hy : plainName y.cls = true) (hd0 : d.1 = y.cls) (hn0 : d.2.2.2.2.1 = y.name) (hlen : ∀ ad : Nat → Nat, (lg_sl (As.map (jmv ad))).length ≤ d.2.2.1) (hlo : jle lo0 (jlo As))
    (k : ∀ ad, jStr g ad → jO g d (jMQC g n ad n' ρ' M' (d.2.2.2.2.2.cells, d.2.2.2.2.2.slots)) (0, 0) n ad ρ 0 lo0 [] M (some ())) : jMetC g d y As n n' ρ ρ' M M' := by
  intro ad hs
  refine Met.ofW (cc := d.2.1) (maxL := d.2.2.1) (ret := d.2.2.2.1) hy rfl ?_
  intro p e s m args below meth c s₁ B hml hv
  obtain ⟨rfl, hTb, hTx, hH⟩ := hv
  have hts := atoms_spec (ws := Cond.code y d.2.1 d.2.2.1 d.2.2.2.1 :: jTW) B.pre
  have hown : s.vm.findClass d.1 = some m.cls := by rw [hd0]; exact findClass_of_methodNamed B.named
  have hin : meth.name = d.2.2.2.2.1 := by rw [hn0]; exact (name_of_methodNamed B.named B.method).1
  rw [lg_entry_eq]
  have hl := lv_entry (As.map (jmv ad)) (n := d.2.2.1) (hlen ad)
  have hj : jhas ad ((lg_sl (As.map (jmv ad)) ++ List.replicate (d.2.2.1 - (lg_sl (As.map (jmv ad))).length) Slot.unset).toArray) d.2.2.1 lo0 :=
    ⟨hl.1, hl.2.1, fun i v hv => by
      have h1 := jlo_at (ad := ad) As 0 i v (jle_at lo0 (jlo As) hlo i v hv)
      rw [Nat.zero_add] at h1
      exact hl.2.2 _ h1⟩
  exact k ad hs () rfl p e s m _ below meth c s.heap [] _ ⟨B.exec, B.bytes, hml, B.returns, B.notSynchronized, hin, hown, fun w hw => hts w (List.mem_cons_of_mem _ hw), hTb, hTx⟩ hH va_S.rf hj
theorem jo_cret {n0 : Nat} {ad0 : Nat → Nat} {ms : Nat × Nat} (hag : jag n0 ad0 ad) (hr0 : d.2.2.2.1 = none) (hd : decode d.2.1 pc = .ok (.return_, 1)) (hcs : cs.1 ≤ ms.1 ∧ cs.2 ≤ ms.2) : jO g d (jMQC g n0 ad0 n ρ M ms) cs n ad ρ pc lo [] M (some ()) := by
  intro z hz p e s m args below meth c H locs ls Cx hH hS hl
  refine W.widen hcs.1 hcs.2 ?_
  refine W.vret Cx.1 Cx.2.1 (Cx.2.2.2.1.trans hr0) (fun t ht hW => ?_) hS.2.2 hd (hlocks := Cx.2.2.2.2.1)
  obtain ⟨hx1, hb, hml, hr, hlk, hnm, hown, hts, hT, hX⟩ := Cx
  refine ⟨rfl, ⟨ad, hag, hT.warm hW, ?_, ?_⟩, hS.F ht⟩
  · rw [ht]; exact jTx.go hW hS hX
  · rw [ht]; exact hH
/-- what a call of a constructor needs -/
def jOkC (d : JD) (y : MethodName) (na : Nat) : Prop := (Cond.code y d.2.1 d.2.2.1 none ∈ jTW ∧ d.2.2.2.1 = none) ∧ Cond.initialized y.cls ∈ jTW ∧ (y.cls ≠ "java/lang/invoke/MethodHandle" ∧ y.cls ≠ "java/lang/invoke/VarHandle") ∧ (parseMethodDescriptor y.desc).map (fun q => q.parameters.length) = some na ∧ y.name = "<init>" ∧ Cond.instanceMethod y ∈ jTW
theorem jbackC {p : Program} {e : Env} {s : State} {m : MethodId} {args : Array Value} {below : List Frame} {meth : Method} {c : Code} {H : Heap} {locs : List Loc} {ls : Array Slot} {Q : State → Prop} {R : Room} {c1 c2 mc ms n' : Nat} {ρ' : JRho} {M' : JMem} {st0 rest : List Value} {a : Array Value}
    (hr : va_Run p g.2.2.2.1 e R s m args below meth c H locs c1 c2 mc ms (F0 m pc ls st0) rest (jRetC g n ad n' ρ' M' a) (jA g)) (hS : va_S (jA g) s.heap H locs)
    (kk : ∀ (ad' : Nat → Nat) (H1 : Heap) (locs1 : List Loc), jag n ad ad' → jH g n' ad' ρ' M' H1 → va_S (jA g) s.heap H1 locs1 → W p g.2.2.2.1 e R s m args below meth c H1 locs1 (c1 + mc) (c2 + ms) Q (F0 m (pc + 3) ls rest)) : W p g.2.2.2.1 e R s m args below meth c H locs c1 c2 Q (F0 m pc ls st0) := by
  intro T hT X
  obtain ⟨v, st₀, t, T', L, h0, X', hL, e1, e2, ⟨hv, ⟨ad', hag, hU⟩, hz, hk⟩, st⟩ := hr T hT X
  cases hv
  rw [h0] at hz hk
  obtain ⟨t2, a1, b1⟩ := kk ad' T'.heap (locs ++ L) hag (by rw [e1]; exact hU.2.2) ⟨Nat.le_trans hS.1 (by rw [e1]; exact hz), fun q h1 h2 => by rw [e1, hk q (Nat.lt_of_lt_of_le h1 hS.1) h2]; exact hS.2.1 q h1 h2, fun q hq => by
      rcases List.mem_append.mp hq with h | h
      · exact hS.2.2 q h
      · exact hL q h⟩ T' rfl X'
  exact ⟨t2, st t2 a1, b1⟩
theorem jo_callC {d' : JD} {y : MethodName} {na idx : Nat} {As : List Value} {b : Nat} {st0 : List Value} {n' : Nat} {ρ' : JRho} {M' : JMem} (hs : jStr g ad) (hM : jMetC g d' y (.ref b :: As) n n' ρ ρ' M M') (ok : jOkC d' y na) (hfit : jFit d' d) (hlink : Cond.methodLink d.1 idx y ∈ jTW) (hn : As.length = na) (hcs : cs.1 + d'.2.2.2.2.2.cells ≤ d.2.2.2.2.2.cells ∧ cs.2 + d'.2.2.2.2.2.slots ≤ d.2.2.2.2.2.slots) (hlo : jlo0 n lo) (hstk : jro n st) (hst : st0 = As.reverse ++ .ref b :: st) (hw : (st.map fun v => v.category).sum ≤ 8) (hd : decode d.2.1 pc = .ok (.invokespecial idx, 3))
    (k : ∀ ad', jag n ad ad' → jO g d Qf (cs.1 + d'.2.2.2.2.2.cells, cs.2 + d'.2.2.2.2.2.slots) n' ad' ρ' (pc + 3) lo st M' o) : jO g d Qf cs n ad ρ pc lo st0 M o := by
  intro z hz p e s m args below meth c H locs ls Cx hH hS hl
  have hM2 := hM ad hs
  obtain ⟨hx1, hbb, hml, hr, hlk, hnm, hown, hts, hT, hX⟩ := id Cx
  obtain ⟨⟨k1, k0⟩, k2, k3, k4, k5, k6⟩ := id ok
  rw [k0] at hM2
  subst hst
  have hstk2 : (As.reverse ++ .ref b :: st).map (jmv ad) = (As.map (jmv ad)).reverse ++ .ref (ad b) :: st.map (jmv ad) := by
    rw [List.map_append, List.map_reverse]
    rfl
  rw [hstk2]
  refine jbackC (n := n) (ad := ad) (rest := st.map (jmv ad)) (va_runI (As := As.map (jmv ad)) (n := na) ⟨hx1, hbb, hml, hown, hts⟩ hM2 ⟨⟨rfl, rfl, hfit.1, hfit.2, jpay hts k1, List.mem_cons_self, hts _ k1, hts _ k2, k3, jlen k4, hts _ hlink⟩, k5, hts _ k6⟩ ⟨jblind, ?_⟩ rfl (by rw [List.length_map]; exact hn) hl.1 rfl (lv_room (by rw [jcat]; exact hw)) hd ⟨hcs.1, hcs.2⟩) hS (fun ad' H1 locs1 hag hH1 hS1 => ?_)
  · exact jcalled Cx hH hS
  · have hk := k ad' hag z hz p e s m args below meth c H1 locs1 ls Cx hH1 hS1 (jhas_ag hag hlo hl)
    rw [jro_mv hag hstk] at hk
    exact hk
theorem jo_callCN {d' : JD} {y : MethodName} {na idx : Nat} {host : String} {As : List Value} {b : Nat} {st0 : List Value} {n' : Nat} {ρ' : JRho} {M' : JMem} (hs : jStr g ad) (hM : jMetC g d' y (.ref b :: As) n n' ρ ρ' M M') (ok : jOkC d' y na) (hfit : jFit d' d) (hlink : Cond.methodLinkNest d.1 idx y host ∈ jNW) (hn : As.length = na) (hcs : cs.1 + d'.2.2.2.2.2.cells ≤ d.2.2.2.2.2.cells ∧ cs.2 + d'.2.2.2.2.2.slots ≤ d.2.2.2.2.2.slots) (hlo : jlo0 n lo) (hstk : jro n st) (hst : st0 = As.reverse ++ .ref b :: st) (hw : (st.map fun v => v.category).sum ≤ 8) (hd : decode d.2.1 pc = .ok (.invokespecial idx, 3))
    (k : ∀ ad', jag n ad ad' → jO g d Qf (cs.1 + d'.2.2.2.2.2.cells, cs.2 + d'.2.2.2.2.2.slots) n' ad' ρ' (pc + 3) lo st M' o) : jO g d Qf cs n ad ρ pc lo st0 M o := by
  intro z hz p e s m args below meth c H locs ls Cx hH hS hl
  have hM2 := hM ad hs
  obtain ⟨hx1, hbb, hml, hr, hlk, hnm, hown, hts, hT, hX⟩ := id Cx
  obtain ⟨⟨k1, k0⟩, k2, k3, k4, k5, k6⟩ := id ok
  rw [k0] at hM2
  subst hst
  have hstk2 : (As.reverse ++ .ref b :: st).map (jmv ad) = (As.map (jmv ad)).reverse ++ .ref (ad b) :: st.map (jmv ad) := by
    rw [List.map_append, List.map_reverse]
    rfl
  rw [hstk2]
  refine jbackC (n := n) (ad := ad) (rest := st.map (jmv ad)) (va_runIN (host := host) (As := As.map (jmv ad)) (n := na) ⟨hx1, hbb, hml, hown, hts⟩ hM2 ⟨⟨⟨rfl, rfl, hfit.1, hfit.2, jpay hts k1, List.mem_cons_self⟩, hts _ k1, hts _ k2, k3, jlen k4, va_Nw.use rfl (hT.1.1 _ hlink)⟩, k5, hts _ k6⟩ ⟨jblind, ?_⟩ rfl (by rw [List.length_map]; exact hn) hl.1 rfl (lv_room (by rw [jcat]; exact hw)) hd ⟨hcs.1, hcs.2⟩) hS (fun ad' H1 locs1 hag hH1 hS1 => ?_)
  · exact jcalled Cx hH hS
  · have hk := k ad' hag z hz p e s m args below meth c H1 locs1 ls Cx hH1 hS1 (jhas_ag hag hlo hl)
    rw [jro_mv hag hstk] at hk
    exact hk
/-- what the references are may be told in another way -/
theorem jE_cg {cy : Nat → ClassId} {kd : Nat × Nat} {m m' : Nat → Int} {r r' : Nat → Option Nat} (hm : m' = m) (hr : ∀ k, r' k = r k) : jE cy ad kd m' r' = jE cy ad kd m r := by rw [hm, show r' = r from funext hr]
/-- the references told in another way -/
theorem jo_rho {ρ' : JRho} (h : ∀ a, a < n → ∀ k, ρ' a k = ρ a k) (k : jO g d Qf cs n ad ρ' pc lo st M o) : jO g d Qf cs n ad ρ pc lo st M o := by
  have e : jWl g.2.1 n ad ρ' M = jWl g.2.1 n ad ρ M := by
    unfold jWl
    refine List.map_congr_left fun a ha => ?_
    rw [show ρ' a = ρ a from funext (h a (List.mem_range.mp ha))]
  intro z hz p e0 s m args below meth c H locs ls Cx hH hS hl
  exact k z hz p e0 s m args below meth c H locs ls Cx ⟨by rw [e]; exact hH.1, by rw [e]; exact hH.2⟩ hS hl
theorem jR_hi (a k : Nat) (hk : 40 ≤ k) : jR a k = none := by
  have h : ∀ a, a < jRl.length → (jRl.getD a []).length ≤ 40 := by decide +kernel
  unfold jR
  by_cases ha : a < jRl.length
  · rw [List.getD_eq_getElem?_getD, List.getElem?_eq_none (by have := h a ha; omega)]
    rfl
  · rw [show jRl.getD a [] = [] by rw [List.getD_eq_getElem?_getD, List.getElem?_eq_none (by omega)]; rfl]
    rfl
theorem jwf_hi (h : jwf n ρ) {a k : Nat} (ha : a < n) (hk : 40 ≤ k) : ρ a k = none := by
  cases hq : ρ a k with
  | none => rfl
  | some b => have := (h a k b ha hq).2; omega
theorem jrho_eq (h : jwf n ρ) (he : ∀ a, a < n → ∀ k, k < 40 → jR a k = ρ a k) : ∀ a, a < n → ∀ k, jR a k = ρ a k := by
  intro a ha k
  by_cases hk : k < 40
  · exact he a ha k hk
  · rw [jR_hi a k (by omega), jwf_hi h ha (by omega)]
/-- the tail of a constructor that makes no more -/
def jMQT (g : JG) (n : Nat) (ad : Nat → Nat) (n' : Nat) (ρ' : JRho) (ms : Nat × Nat) : JQ (Int × JMem) := fun x below args s => MQ below (jRetC g n ad n' ρ' x.2) args s ms.1 ms.2 (jA g)
theorem jo_tret {n0 : Nat} {ad0 : Nat → Nat} {ms : Nat × Nat} (hag : jag n0 ad0 ad) (hr0 : d.2.2.2.1 = none) (hd : decode d.2.1 pc = .ok (.return_, 1)) (hcs : cs.1 ≤ ms.1 ∧ cs.2 ≤ ms.2) : jO g d (jMQT g n0 ad0 n ρ ms) cs n ad ρ pc lo [] M (some (0, M)) := by
  intro z hz p e s m args below meth c H locs ls Cx hH hS hl
  cases hz
  exact jo_cret (n := n) (ad := ad) (ρ := ρ) (M := M) hag hr0 hd hcs () rfl p e s m args below meth c H locs ls Cx hH hS hl
/-- from a tail that has an answer to the constructor's end -/
theorem jo_tail {n0 n' : Nat} {ad0 : Nat → Nat} {ρ' : JRho} {M' : JMem} {ms : Nat × Nat} {r : Int} {o2 : Option (Int × JMem)} (ho : o2 = some (r, M')) (k : jO g d (jMQT g n0 ad0 n' ρ' ms) cs n ad ρ pc lo st M o2) : jO g d (jMQC g n0 ad0 n' ρ' M' ms) cs n ad ρ pc lo st M (some ()) := by
  intro z hz p e s m args below meth c H locs ls Cx hH hS hl
  exact k (r, M') ho p e s m args below meth c H locs ls Cx hH hS hl
theorem ar_int : Cond.arrayClass .int ∈ jTW := jTW_mem (k := 184) (by decide +kernel) rfl
theorem ar_long : Cond.arrayClass .long ∈ jTW := jTW_mem (k := 183) (by decide +kernel) rfl
theorem ar_byte : Cond.arrayClass .byte ∈ jTW := jTW_mem (k := 288) (by decide +kernel) rfl
theorem fd_0 : ∀ k, k < 5 → jty 0 k ≠ .float ∧ jty 0 k ≠ .double := by decide +kernel
theorem fd_1 : ∀ k, k < 12 → jty 1 k ≠ .float ∧ jty 1 k ≠ .double := by decide +kernel
theorem fd_2 : ∀ k, k < 4 → jty 2 k ≠ .float ∧ jty 2 k ≠ .double := by decide +kernel
theorem fd_3 : ∀ k, k < 4 → jty 3 k ≠ .float ∧ jty 3 k ≠ .double := by decide +kernel
theorem fd_4 : ∀ k, k < 16 → jty 4 k ≠ .float ∧ jty 4 k ≠ .double := by decide +kernel
theorem fd_5 : ∀ k, k < 2 → jty 5 k ≠ .float ∧ jty 5 k ≠ .double := by decide +kernel
theorem fd_6 : ∀ k, k < 11 → jty 6 k ≠ .float ∧ jty 6 k ≠ .double := by decide +kernel
theorem fd_7 : ∀ k, k < 3 → jty 7 k ≠ .float ∧ jty 7 k ≠ .double := by decide +kernel
theorem fd_8 : ∀ k, k < 2 → jty 8 k ≠ .float ∧ jty 8 k ≠ .double := by decide +kernel
theorem fd_9 : ∀ k, k < 7 → jty 9 k ≠ .float ∧ jty 9 k ≠ .double := by decide +kernel
theorem fd_10 : ∀ k, k < 4 → jty 10 k ≠ .float ∧ jty 10 k ≠ .double := by decide +kernel
theorem fd_11 : ∀ k, k < 20 → jty 11 k ≠ .float ∧ jty 11 k ≠ .double := by decide +kernel
theorem fd_12 : ∀ k, k < 39 → jty 12 k ≠ .float ∧ jty 12 k ≠ .double := by decide +kernel

theorem lm_X4_3 : Cond.methodLink RX4 3 Lib.objectInit ∈ jTW := jTW_mem (k := 300) (by decide +kernel) rfl
theorem lk_X4_9 : Cond.fieldLink RX4 9 (TX4 0).1 (TX4 0).2.1 (TX4 0).2.2.1 ∈ jTW := jTW_mem (k := 301) (by decide +kernel) rfl
theorem lk_X4_15 : Cond.fieldLink RX4 15 (TX4 1).1 (TX4 1).2.1 (TX4 1).2.2.1 ∈ jTW := jTW_mem (k := 306) (by decide +kernel) rfl
theorem lk_X4_18 : Cond.fieldLink RX4 18 (TX4 2).1 (TX4 2).2.1 (TX4 2).2.2.1 ∈ jTW := jTW_mem (k := 312) (by decide +kernel) rfl
theorem lk_X4_21 : Cond.fieldLink RX4 21 (TX4 3).1 (TX4 3).2.1 (TX4 3).2.2.1 ∈ jTW := jTW_mem (k := 318) (by decide +kernel) rfl
theorem lk_X4_24 : Cond.fieldLink RX4 24 (TX4 4).1 (TX4 4).2.1 (TX4 4).2.2.1 ∈ jTW := jTW_mem (k := 322) (by decide +kernel) rfl
theorem lk_X4_27 : Cond.fieldLink RX4 27 (TX4 5).1 (TX4 5).2.1 (TX4 5).2.2.1 ∈ jTW := jTW_mem (k := 323) (by decide +kernel) rfl
theorem lk_X4_31 : Cond.fieldLink RX4 31 (TX4 6).1 (TX4 6).2.1 (TX4 6).2.2.1 ∈ jTW := jTW_mem (k := 324) (by decide +kernel) rfl
theorem lk_X4_35 : Cond.fieldLink RX4 35 (TX4 7).1 (TX4 7).2.1 (TX4 7).2.2.1 ∈ jTW := jTW_mem (k := 325) (by decide +kernel) rfl
theorem lk_X4_38 : Cond.fieldLink RX4 38 (TX4 8).1 (TX4 8).2.1 (TX4 8).2.2.1 ∈ jTW := jTW_mem (k := 326) (by decide +kernel) rfl
theorem lk_X4_41 : Cond.fieldLink RX4 41 (TX4 9).1 (TX4 9).2.1 (TX4 9).2.2.1 ∈ jTW := jTW_mem (k := 331) (by decide +kernel) rfl
theorem lk_X4_44 : Cond.fieldLink RX4 44 (TX4 10).1 (TX4 10).2.1 (TX4 10).2.2.1 ∈ jTW := jTW_mem (k := 336) (by decide +kernel) rfl
theorem lk_X4_47 : Cond.fieldLink RX4 47 (TX4 11).1 (TX4 11).2.1 (TX4 11).2.2.1 ∈ jTW := jTW_mem (k := 341) (by decide +kernel) rfl
theorem lk_X4_50 : Cond.fieldLink RX4 50 (TX4 12).1 (TX4 12).2.1 (TX4 12).2.2.1 ∈ jTW := jTW_mem (k := 346) (by decide +kernel) rfl
theorem lk_X4_53 : Cond.fieldLink RX4 53 (TX4 13).1 (TX4 13).2.1 (TX4 13).2.2.1 ∈ jTW := jTW_mem (k := 350) (by decide +kernel) rfl
theorem lk_X4_56 : Cond.fieldLink RX4 56 (TX4 14).1 (TX4 14).2.1 (TX4 14).2.2.1 ∈ jTW := jTW_mem (k := 354) (by decide +kernel) rfl
theorem lk_X4_59 : Cond.fieldLink RX4 59 (TX4 15).1 (TX4 15).2.1 (TX4 15).2.2.1 ∈ jTW := jTW_mem (k := 357) (by decide +kernel) rfl
def D_X4_init : JD := (RX4, cX4_init, 1, none, "<init>", { frames := 1, cells := 11, slots := 130, locals := 20 })
theorem okc_X4 : jOkC D_X4_init yX4_init 0 := ⟨⟨jTW_mem (k := 299) (by decide +kernel) rfl, rfl⟩, jTW_mem (k := 143) (by decide +kernel) rfl, ⟨by decide +kernel, by decide +kernel⟩, by decide +kernel, rfl, jTW_mem (k := 298) (by decide +kernel) rfl⟩
theorem d_X4_init_0 : decode (D_X4_init).2.1 0 = .ok (.aload_n 0, 1) := by decide +kernel
theorem d_X4_init_1 : decode (D_X4_init).2.1 1 = .ok (.invokespecial 3, 3) := by decide +kernel
theorem d_X4_init_4 : decode (D_X4_init).2.1 4 = .ok (.aload_n 0, 1) := by decide +kernel
theorem d_X4_init_5 : decode (D_X4_init).2.1 5 = .ok (.iconst 0, 1) := by decide +kernel
theorem d_X4_init_6 : decode (D_X4_init).2.1 6 = .ok (.putfield 9, 3) := by decide +kernel
theorem d_X4_init_9 : decode (D_X4_init).2.1 9 = .ok (.aload_n 0, 1) := by decide +kernel
theorem d_X4_init_10 : decode (D_X4_init).2.1 10 = .ok (.iconst 0, 1) := by decide +kernel
theorem d_X4_init_11 : decode (D_X4_init).2.1 11 = .ok (.putfield 15, 3) := by decide +kernel
theorem d_X4_init_14 : decode (D_X4_init).2.1 14 = .ok (.aload_n 0, 1) := by decide +kernel
theorem d_X4_init_15 : decode (D_X4_init).2.1 15 = .ok (.iconst 0, 1) := by decide +kernel
theorem d_X4_init_16 : decode (D_X4_init).2.1 16 = .ok (.putfield 18, 3) := by decide +kernel
theorem d_X4_init_19 : decode (D_X4_init).2.1 19 = .ok (.aload_n 0, 1) := by decide +kernel
theorem d_X4_init_20 : decode (D_X4_init).2.1 20 = .ok (.iconst 2, 1) := by decide +kernel
theorem d_X4_init_21 : decode (D_X4_init).2.1 21 = .ok (.putfield 21, 3) := by decide +kernel
theorem d_X4_init_24 : decode (D_X4_init).2.1 24 = .ok (.aload_n 0, 1) := by decide +kernel
theorem d_X4_init_25 : decode (D_X4_init).2.1 25 = .ok (.iconst 0, 1) := by decide +kernel
theorem d_X4_init_26 : decode (D_X4_init).2.1 26 = .ok (.putfield 24, 3) := by decide +kernel
theorem d_X4_init_29 : decode (D_X4_init).2.1 29 = .ok (.aload_n 0, 1) := by decide +kernel
theorem d_X4_init_30 : decode (D_X4_init).2.1 30 = .ok (.bipush 22, 2) := by decide +kernel
theorem d_X4_init_32 : decode (D_X4_init).2.1 32 = .ok (.newarray .long, 2) := by decide +kernel
theorem d_X4_init_34 : decode (D_X4_init).2.1 34 = .ok (.putfield 27, 3) := by decide +kernel
theorem d_X4_init_37 : decode (D_X4_init).2.1 37 = .ok (.aload_n 0, 1) := by decide +kernel
theorem d_X4_init_38 : decode (D_X4_init).2.1 38 = .ok (.bipush 22, 2) := by decide +kernel
theorem d_X4_init_40 : decode (D_X4_init).2.1 40 = .ok (.newarray .int, 2) := by decide +kernel
theorem d_X4_init_42 : decode (D_X4_init).2.1 42 = .ok (.putfield 31, 3) := by decide +kernel
theorem d_X4_init_45 : decode (D_X4_init).2.1 45 = .ok (.aload_n 0, 1) := by decide +kernel
theorem d_X4_init_46 : decode (D_X4_init).2.1 46 = .ok (.bipush 22, 2) := by decide +kernel
theorem d_X4_init_48 : decode (D_X4_init).2.1 48 = .ok (.newarray .int, 2) := by decide +kernel
theorem d_X4_init_50 : decode (D_X4_init).2.1 50 = .ok (.putfield 35, 3) := by decide +kernel
theorem d_X4_init_53 : decode (D_X4_init).2.1 53 = .ok (.aload_n 0, 1) := by decide +kernel
theorem d_X4_init_54 : decode (D_X4_init).2.1 54 = .ok (.bipush 8, 2) := by decide +kernel
theorem d_X4_init_56 : decode (D_X4_init).2.1 56 = .ok (.newarray .int, 2) := by decide +kernel
theorem d_X4_init_58 : decode (D_X4_init).2.1 58 = .ok (.putfield 38, 3) := by decide +kernel
theorem d_X4_init_61 : decode (D_X4_init).2.1 61 = .ok (.aload_n 0, 1) := by decide +kernel
theorem d_X4_init_62 : decode (D_X4_init).2.1 62 = .ok (.bipush 8, 2) := by decide +kernel
theorem d_X4_init_64 : decode (D_X4_init).2.1 64 = .ok (.newarray .int, 2) := by decide +kernel
theorem d_X4_init_66 : decode (D_X4_init).2.1 66 = .ok (.putfield 41, 3) := by decide +kernel
theorem d_X4_init_69 : decode (D_X4_init).2.1 69 = .ok (.aload_n 0, 1) := by decide +kernel
theorem d_X4_init_70 : decode (D_X4_init).2.1 70 = .ok (.bipush 8, 2) := by decide +kernel
theorem d_X4_init_72 : decode (D_X4_init).2.1 72 = .ok (.newarray .int, 2) := by decide +kernel
theorem d_X4_init_74 : decode (D_X4_init).2.1 74 = .ok (.putfield 44, 3) := by decide +kernel
theorem d_X4_init_77 : decode (D_X4_init).2.1 77 = .ok (.aload_n 0, 1) := by decide +kernel
theorem d_X4_init_78 : decode (D_X4_init).2.1 78 = .ok (.bipush 8, 2) := by decide +kernel
theorem d_X4_init_80 : decode (D_X4_init).2.1 80 = .ok (.newarray .int, 2) := by decide +kernel
theorem d_X4_init_82 : decode (D_X4_init).2.1 82 = .ok (.putfield 47, 3) := by decide +kernel
theorem d_X4_init_85 : decode (D_X4_init).2.1 85 = .ok (.aload_n 0, 1) := by decide +kernel
theorem d_X4_init_86 : decode (D_X4_init).2.1 86 = .ok (.bipush 8, 2) := by decide +kernel
theorem d_X4_init_88 : decode (D_X4_init).2.1 88 = .ok (.newarray .int, 2) := by decide +kernel
theorem d_X4_init_90 : decode (D_X4_init).2.1 90 = .ok (.putfield 50, 3) := by decide +kernel
theorem d_X4_init_93 : decode (D_X4_init).2.1 93 = .ok (.aload_n 0, 1) := by decide +kernel
theorem d_X4_init_94 : decode (D_X4_init).2.1 94 = .ok (.bipush 8, 2) := by decide +kernel
theorem d_X4_init_96 : decode (D_X4_init).2.1 96 = .ok (.newarray .int, 2) := by decide +kernel
theorem d_X4_init_98 : decode (D_X4_init).2.1 98 = .ok (.putfield 53, 3) := by decide +kernel
theorem d_X4_init_101 : decode (D_X4_init).2.1 101 = .ok (.aload_n 0, 1) := by decide +kernel
theorem d_X4_init_102 : decode (D_X4_init).2.1 102 = .ok (.bipush 8, 2) := by decide +kernel
theorem d_X4_init_104 : decode (D_X4_init).2.1 104 = .ok (.newarray .int, 2) := by decide +kernel
theorem d_X4_init_106 : decode (D_X4_init).2.1 106 = .ok (.putfield 56, 3) := by decide +kernel
theorem d_X4_init_109 : decode (D_X4_init).2.1 109 = .ok (.aload_n 0, 1) := by decide +kernel
theorem d_X4_init_110 : decode (D_X4_init).2.1 110 = .ok (.bipush 8, 2) := by decide +kernel
theorem d_X4_init_112 : decode (D_X4_init).2.1 112 = .ok (.newarray .int, 2) := by decide +kernel
theorem d_X4_init_114 : decode (D_X4_init).2.1 114 = .ok (.putfield 59, 3) := by decide +kernel
theorem d_X4_init_117 : decode (D_X4_init).2.1 117 = .ok (.return_, 1) := by decide +kernel
def cM_X4 (a : Nat) (M : JMem) : JMem := (jz (jz (jz (jz (jz (jz (jz (jz (jz (jz (jz (jup (jup (jup (jup (jup M a 0 0) a 1 0) a 2 0) a 3 2) a 4 0) (a + 1)) (a + 2)) (a + 3)) (a + 4)) (a + 5)) (a + 6)) (a + 7)) (a + 8)) (a + 9)) (a + 10)) (a + 11))
def cR_X4 (a : Nat) (ρ : JRho) : JRho := (jsr (jzr (jsr (jzr (jsr (jzr (jsr (jzr (jsr (jzr (jsr (jzr (jsr (jzr (jsr (jzr (jsr (jzr (jsr (jzr (jsr (jzr ρ (a + 1)) a 5 (a + 1)) (a + 2)) a 6 (a + 2)) (a + 3)) a 7 (a + 3)) (a + 4)) a 8 (a + 4)) (a + 5)) a 9 (a + 5)) (a + 6)) a 10 (a + 6)) (a + 7)) a 11 (a + 7)) (a + 8)) a 12 (a + 8)) (a + 9)) a 13 (a + 9)) (a + 10)) a 14 (a + 10)) (a + 11)) a 15 (a + 11))
set_option maxRecDepth 8000 in
theorem c_X4 {g : JG} (a : Nat) (h : jK jNN (0, 4) a) (ρ : JRho) (M : JMem) (w0 : jwf (a + 1) ρ) : jMetC g D_X4_init yX4_init [.ref a] (a + 1) (a + 12) ρ (cR_X4 a ρ) M (cM_X4 a M) := by
  have hj : jNN = 186 := rfl
  have ha := h.1
  refine jMetC.of (lo0 := [some (.ref a)]) (by decide) rfl rfl (fun ad => (Nat.le_of_ble_eq_true rfl)) (And.intro rfl True.intro) (fun ad0 s0 => ?_)
  have g0 : jag (a + 1) ad0 ad0 := jag.rf
  unfold cM_X4 cR_X4
  refine jo_aload 0 d_X4_init_0 rfl rfl ?_
  refine jo_obj lm_X4_3 (Nat.le_of_ble_eq_true rfl) (Nat.le_of_ble_eq_true rfl) d_X4_init_1 ?_
  refine jo_aload 0 d_X4_init_4 rfl rfl ?_
  refine jo_iconst 0 d_X4_init_5 ?_
  refine jo_putIC (k := 0) cl_4 (Nat.le_of_ble_eq_true rfl) lk_X4_9 rfl rfl (And.intro (by omega) h.2) d_X4_init_6 ?_
  refine jo_aload 0 d_X4_init_9 rfl rfl ?_
  refine jo_iconst 0 d_X4_init_10 ?_
  refine jo_putIC (k := 1) cl_4 (Nat.le_of_ble_eq_true rfl) lk_X4_15 rfl rfl (And.intro (by omega) h.2) d_X4_init_11 ?_
  refine jo_aload 0 d_X4_init_14 rfl rfl ?_
  refine jo_iconst 0 d_X4_init_15 ?_
  refine jo_putIC (k := 2) cl_4 (Nat.le_of_ble_eq_true rfl) lk_X4_18 rfl rfl (And.intro (by omega) h.2) d_X4_init_16 ?_
  refine jo_aload 0 d_X4_init_19 rfl rfl ?_
  refine jo_iconst 2 d_X4_init_20 ?_
  refine jo_putIC (k := 3) cl_4 (Nat.le_of_ble_eq_true rfl) lk_X4_21 rfl rfl (And.intro (by omega) h.2) d_X4_init_21 ?_
  refine jo_aload 0 d_X4_init_24 rfl rfl ?_
  refine jo_iconst 0 d_X4_init_25 ?_
  refine jo_putIC (k := 4) cl_4 (Nat.le_of_ble_eq_true rfl) lk_X4_24 rfl rfl (And.intro (by omega) h.2) d_X4_init_26 ?_
  refine jo_aload 0 d_X4_init_29 rfl rfl ?_
  refine jo_bipush 22 d_X4_init_30 (by decide) ?_
  refine jo_newL (N := 22) (a0 := a) (ka_Plan_5 h).2 (by omega) (by omega) w0 ar_long (by decide +kernel) (by decide +kernel) (Nat.le_of_ble_eq_true rfl) (And.intro (jvo_lt (by omega)) True.intro) (And.intro (jvo_lt (by omega)) True.intro) (And.intro (Nat.le_of_ble_eq_true rfl) (Nat.le_of_ble_eq_true rfl)) d_X4_init_32 (fun ad1 h1 => ?_)
  have g1 := g0.tr h1 (by omega)
  have s1 := s0.ag h1
  have w1 := jwf_new w0
  refine jo_putR (k := 5) cl_4 (Nat.le_of_ble_eq_true rfl) lk_X4_27 rfl rfl rfl rfl (And.intro (by omega) h.2) d_X4_init_34 ?_
  have w2 := jwf_set (a := a) (k := 5) (b := (a + 1)) w1 (by omega) (by decide)
  refine jo_aload 0 d_X4_init_37 rfl rfl ?_
  refine jo_bipush 22 d_X4_init_38 (by decide) ?_
  refine jo_newI (N := 22) (a0 := a) (ka_Plan_6 h).2 (by omega) (by omega) w2 ar_int (by decide +kernel) (by decide +kernel) (Nat.le_of_ble_eq_true rfl) (And.intro (jvo_lt (by omega)) True.intro) (And.intro (jvo_lt (by omega)) True.intro) (And.intro (Nat.le_of_ble_eq_true rfl) (Nat.le_of_ble_eq_true rfl)) d_X4_init_40 (fun ad2 h2 => ?_)
  have g2 := g1.tr h2 (by omega)
  have s2 := s1.ag h2
  have w3 := jwf_new w2
  refine jo_putR (k := 6) cl_4 (Nat.le_of_ble_eq_true rfl) lk_X4_31 rfl rfl rfl rfl (And.intro (by omega) h.2) d_X4_init_42 ?_
  have w4 := jwf_set (a := a) (k := 6) (b := (a + 2)) w3 (by omega) (by decide)
  refine jo_aload 0 d_X4_init_45 rfl rfl ?_
  refine jo_bipush 22 d_X4_init_46 (by decide) ?_
  refine jo_newI (N := 22) (a0 := a) (ka_Plan_7 h).2 (by omega) (by omega) w4 ar_int (by decide +kernel) (by decide +kernel) (Nat.le_of_ble_eq_true rfl) (And.intro (jvo_lt (by omega)) True.intro) (And.intro (jvo_lt (by omega)) True.intro) (And.intro (Nat.le_of_ble_eq_true rfl) (Nat.le_of_ble_eq_true rfl)) d_X4_init_48 (fun ad3 h3 => ?_)
  have g3 := g2.tr h3 (by omega)
  have s3 := s2.ag h3
  have w5 := jwf_new w4
  refine jo_putR (k := 7) cl_4 (Nat.le_of_ble_eq_true rfl) lk_X4_35 rfl rfl rfl rfl (And.intro (by omega) h.2) d_X4_init_50 ?_
  have w6 := jwf_set (a := a) (k := 7) (b := (a + 3)) w5 (by omega) (by decide)
  refine jo_aload 0 d_X4_init_53 rfl rfl ?_
  refine jo_bipush 8 d_X4_init_54 (by decide) ?_
  refine jo_newI (N := 8) (a0 := a) (ka_Plan_8 h).2 (by omega) (by omega) w6 ar_int (by decide +kernel) (by decide +kernel) (Nat.le_of_ble_eq_true rfl) (And.intro (jvo_lt (by omega)) True.intro) (And.intro (jvo_lt (by omega)) True.intro) (And.intro (Nat.le_of_ble_eq_true rfl) (Nat.le_of_ble_eq_true rfl)) d_X4_init_56 (fun ad4 h4 => ?_)
  have g4 := g3.tr h4 (by omega)
  have s4 := s3.ag h4
  have w7 := jwf_new w6
  refine jo_putR (k := 8) cl_4 (Nat.le_of_ble_eq_true rfl) lk_X4_38 rfl rfl rfl rfl (And.intro (by omega) h.2) d_X4_init_58 ?_
  have w8 := jwf_set (a := a) (k := 8) (b := (a + 4)) w7 (by omega) (by decide)
  refine jo_aload 0 d_X4_init_61 rfl rfl ?_
  refine jo_bipush 8 d_X4_init_62 (by decide) ?_
  refine jo_newI (N := 8) (a0 := a) (ka_Plan_9 h).2 (by omega) (by omega) w8 ar_int (by decide +kernel) (by decide +kernel) (Nat.le_of_ble_eq_true rfl) (And.intro (jvo_lt (by omega)) True.intro) (And.intro (jvo_lt (by omega)) True.intro) (And.intro (Nat.le_of_ble_eq_true rfl) (Nat.le_of_ble_eq_true rfl)) d_X4_init_64 (fun ad5 h5 => ?_)
  have g5 := g4.tr h5 (by omega)
  have s5 := s4.ag h5
  have w9 := jwf_new w8
  refine jo_putR (k := 9) cl_4 (Nat.le_of_ble_eq_true rfl) lk_X4_41 rfl rfl rfl rfl (And.intro (by omega) h.2) d_X4_init_66 ?_
  have w10 := jwf_set (a := a) (k := 9) (b := (a + 5)) w9 (by omega) (by decide)
  refine jo_aload 0 d_X4_init_69 rfl rfl ?_
  refine jo_bipush 8 d_X4_init_70 (by decide) ?_
  refine jo_newI (N := 8) (a0 := a) (ka_Plan_10 h).2 (by omega) (by omega) w10 ar_int (by decide +kernel) (by decide +kernel) (Nat.le_of_ble_eq_true rfl) (And.intro (jvo_lt (by omega)) True.intro) (And.intro (jvo_lt (by omega)) True.intro) (And.intro (Nat.le_of_ble_eq_true rfl) (Nat.le_of_ble_eq_true rfl)) d_X4_init_72 (fun ad6 h6 => ?_)
  have g6 := g5.tr h6 (by omega)
  have s6 := s5.ag h6
  have w11 := jwf_new w10
  refine jo_putR (k := 10) cl_4 (Nat.le_of_ble_eq_true rfl) lk_X4_44 rfl rfl rfl rfl (And.intro (by omega) h.2) d_X4_init_74 ?_
  have w12 := jwf_set (a := a) (k := 10) (b := (a + 6)) w11 (by omega) (by decide)
  refine jo_aload 0 d_X4_init_77 rfl rfl ?_
  refine jo_bipush 8 d_X4_init_78 (by decide) ?_
  refine jo_newI (N := 8) (a0 := a) (ka_Plan_11 h).2 (by omega) (by omega) w12 ar_int (by decide +kernel) (by decide +kernel) (Nat.le_of_ble_eq_true rfl) (And.intro (jvo_lt (by omega)) True.intro) (And.intro (jvo_lt (by omega)) True.intro) (And.intro (Nat.le_of_ble_eq_true rfl) (Nat.le_of_ble_eq_true rfl)) d_X4_init_80 (fun ad7 h7 => ?_)
  have g7 := g6.tr h7 (by omega)
  have s7 := s6.ag h7
  have w13 := jwf_new w12
  refine jo_putR (k := 11) cl_4 (Nat.le_of_ble_eq_true rfl) lk_X4_47 rfl rfl rfl rfl (And.intro (by omega) h.2) d_X4_init_82 ?_
  have w14 := jwf_set (a := a) (k := 11) (b := (a + 7)) w13 (by omega) (by decide)
  refine jo_aload 0 d_X4_init_85 rfl rfl ?_
  refine jo_bipush 8 d_X4_init_86 (by decide) ?_
  refine jo_newI (N := 8) (a0 := a) (ka_Plan_12 h).2 (by omega) (by omega) w14 ar_int (by decide +kernel) (by decide +kernel) (Nat.le_of_ble_eq_true rfl) (And.intro (jvo_lt (by omega)) True.intro) (And.intro (jvo_lt (by omega)) True.intro) (And.intro (Nat.le_of_ble_eq_true rfl) (Nat.le_of_ble_eq_true rfl)) d_X4_init_88 (fun ad8 h8 => ?_)
  have g8 := g7.tr h8 (by omega)
  have s8 := s7.ag h8
  have w15 := jwf_new w14
  refine jo_putR (k := 12) cl_4 (Nat.le_of_ble_eq_true rfl) lk_X4_50 rfl rfl rfl rfl (And.intro (by omega) h.2) d_X4_init_90 ?_
  have w16 := jwf_set (a := a) (k := 12) (b := (a + 8)) w15 (by omega) (by decide)
  refine jo_aload 0 d_X4_init_93 rfl rfl ?_
  refine jo_bipush 8 d_X4_init_94 (by decide) ?_
  refine jo_newI (N := 8) (a0 := a) (ka_Plan_13 h).2 (by omega) (by omega) w16 ar_int (by decide +kernel) (by decide +kernel) (Nat.le_of_ble_eq_true rfl) (And.intro (jvo_lt (by omega)) True.intro) (And.intro (jvo_lt (by omega)) True.intro) (And.intro (Nat.le_of_ble_eq_true rfl) (Nat.le_of_ble_eq_true rfl)) d_X4_init_96 (fun ad9 h9 => ?_)
  have g9 := g8.tr h9 (by omega)
  have s9 := s8.ag h9
  have w17 := jwf_new w16
  refine jo_putR (k := 13) cl_4 (Nat.le_of_ble_eq_true rfl) lk_X4_53 rfl rfl rfl rfl (And.intro (by omega) h.2) d_X4_init_98 ?_
  have w18 := jwf_set (a := a) (k := 13) (b := (a + 9)) w17 (by omega) (by decide)
  refine jo_aload 0 d_X4_init_101 rfl rfl ?_
  refine jo_bipush 8 d_X4_init_102 (by decide) ?_
  refine jo_newI (N := 8) (a0 := a) (ka_Plan_14 h).2 (by omega) (by omega) w18 ar_int (by decide +kernel) (by decide +kernel) (Nat.le_of_ble_eq_true rfl) (And.intro (jvo_lt (by omega)) True.intro) (And.intro (jvo_lt (by omega)) True.intro) (And.intro (Nat.le_of_ble_eq_true rfl) (Nat.le_of_ble_eq_true rfl)) d_X4_init_104 (fun ad10 h10 => ?_)
  have g10 := g9.tr h10 (by omega)
  have s10 := s9.ag h10
  have w19 := jwf_new w18
  refine jo_putR (k := 14) cl_4 (Nat.le_of_ble_eq_true rfl) lk_X4_56 rfl rfl rfl rfl (And.intro (by omega) h.2) d_X4_init_106 ?_
  have w20 := jwf_set (a := a) (k := 14) (b := (a + 10)) w19 (by omega) (by decide)
  refine jo_aload 0 d_X4_init_109 rfl rfl ?_
  refine jo_bipush 8 d_X4_init_110 (by decide) ?_
  refine jo_newI (N := 8) (a0 := a) (ka_Plan_15 h).2 (by omega) (by omega) w20 ar_int (by decide +kernel) (by decide +kernel) (Nat.le_of_ble_eq_true rfl) (And.intro (jvo_lt (by omega)) True.intro) (And.intro (jvo_lt (by omega)) True.intro) (And.intro (Nat.le_of_ble_eq_true rfl) (Nat.le_of_ble_eq_true rfl)) d_X4_init_112 (fun ad11 h11 => ?_)
  have g11 := g10.tr h11 (by omega)
  have s11 := s10.ag h11
  have w21 := jwf_new w20
  refine jo_putR (k := 15) cl_4 (Nat.le_of_ble_eq_true rfl) lk_X4_59 rfl rfl rfl rfl (And.intro (by omega) h.2) d_X4_init_114 ?_
  have w22 := jwf_set (a := a) (k := 15) (b := (a + 11)) w21 (by omega) (by decide)
  exact jo_cret g11 rfl d_X4_init_117 (And.intro (Nat.le_refl _) (Nat.le_refl _))
theorem cw_X4 (a : Nat) (ρ : JRho) (w0 : jwf (a + 1) ρ) : jwf (a + 12) (cR_X4 a ρ) := by
  unfold cR_X4
  have w1 := jwf_new w0
  have w2 := jwf_set (a := a) (k := 5) (b := (a + 1)) w1 (by omega) (by decide)
  have w3 := jwf_new w2
  have w4 := jwf_set (a := a) (k := 6) (b := (a + 2)) w3 (by omega) (by decide)
  have w5 := jwf_new w4
  have w6 := jwf_set (a := a) (k := 7) (b := (a + 3)) w5 (by omega) (by decide)
  have w7 := jwf_new w6
  have w8 := jwf_set (a := a) (k := 8) (b := (a + 4)) w7 (by omega) (by decide)
  have w9 := jwf_new w8
  have w10 := jwf_set (a := a) (k := 9) (b := (a + 5)) w9 (by omega) (by decide)
  have w11 := jwf_new w10
  have w12 := jwf_set (a := a) (k := 10) (b := (a + 6)) w11 (by omega) (by decide)
  have w13 := jwf_new w12
  have w14 := jwf_set (a := a) (k := 11) (b := (a + 7)) w13 (by omega) (by decide)
  have w15 := jwf_new w14
  have w16 := jwf_set (a := a) (k := 12) (b := (a + 8)) w15 (by omega) (by decide)
  have w17 := jwf_new w16
  have w18 := jwf_set (a := a) (k := 13) (b := (a + 9)) w17 (by omega) (by decide)
  have w19 := jwf_new w18
  have w20 := jwf_set (a := a) (k := 14) (b := (a + 10)) w19 (by omega) (by decide)
  have w21 := jwf_new w20
  have w22 := jwf_set (a := a) (k := 15) (b := (a + 11)) w21 (by omega) (by decide)
  exact w22
theorem lm_X1_3 : Cond.methodLink RX1 3 Lib.objectInit ∈ jTW := jTW_mem (k := 399) (by decide +kernel) rfl
theorem lk_X1_9 : Cond.fieldLink RX1 9 (TX1 0).1 (TX1 0).2.1 (TX1 0).2.2.1 ∈ jTW := jTW_mem (k := 400) (by decide +kernel) rfl
theorem lk_X1_15 : Cond.fieldLink RX1 15 (TX1 1).1 (TX1 1).2.1 (TX1 1).2.2.1 ∈ jTW := jTW_mem (k := 403) (by decide +kernel) rfl
theorem lk_X1_18 : Cond.fieldLink RX1 18 (TX1 2).1 (TX1 2).2.1 (TX1 2).2.2.1 ∈ jTW := jTW_mem (k := 406) (by decide +kernel) rfl
theorem lk_X1_21 : Cond.fieldLink RX1 21 (TX1 3).1 (TX1 3).2.1 (TX1 3).2.2.1 ∈ jTW := jTW_mem (k := 408) (by decide +kernel) rfl
theorem lk_X1_24 : Cond.fieldLink RX1 24 (TX1 4).1 (TX1 4).2.1 (TX1 4).2.2.1 ∈ jTW := jTW_mem (k := 410) (by decide +kernel) rfl
theorem lk_X1_27 : Cond.fieldLink RX1 27 (TX1 5).1 (TX1 5).2.1 (TX1 5).2.2.1 ∈ jTW := jTW_mem (k := 413) (by decide +kernel) rfl
theorem lk_X1_31 : Cond.fieldLink RX1 31 (TX1 6).1 (TX1 6).2.1 (TX1 6).2.2.1 ∈ jTW := jTW_mem (k := 416) (by decide +kernel) rfl
theorem lk_X1_34 : Cond.fieldLink RX1 34 (TX1 7).1 (TX1 7).2.1 (TX1 7).2.2.1 ∈ jTW := jTW_mem (k := 418) (by decide +kernel) rfl
theorem lk_X1_37 : Cond.fieldLink RX1 37 (TX1 8).1 (TX1 8).2.1 (TX1 8).2.2.1 ∈ jTW := jTW_mem (k := 422) (by decide +kernel) rfl
theorem lk_X1_40 : Cond.fieldLink RX1 40 (TX1 9).1 (TX1 9).2.1 (TX1 9).2.2.1 ∈ jTW := jTW_mem (k := 424) (by decide +kernel) rfl
theorem lk_X1_43 : Cond.fieldLink RX1 43 (TX1 10).1 (TX1 10).2.1 (TX1 10).2.2.1 ∈ jTW := jTW_mem (k := 425) (by decide +kernel) rfl
theorem lk_X1_46 : Cond.fieldLink RX1 46 (TX1 11).1 (TX1 11).2.1 (TX1 11).2.2.1 ∈ jTW := jTW_mem (k := 427) (by decide +kernel) rfl
def D_X1_init : JD := (RX1, cX1_init, 1, none, "<init>", { frames := 1, cells := 7, slots := 54, locals := 20 })
theorem okc_X1 : jOkC D_X1_init yX1_init 0 := ⟨⟨jTW_mem (k := 398) (by decide +kernel) rfl, rfl⟩, jTW_mem (k := 144) (by decide +kernel) rfl, ⟨by decide +kernel, by decide +kernel⟩, by decide +kernel, rfl, jTW_mem (k := 397) (by decide +kernel) rfl⟩
theorem d_X1_init_0 : decode (D_X1_init).2.1 0 = .ok (.aload_n 0, 1) := by decide +kernel
theorem d_X1_init_1 : decode (D_X1_init).2.1 1 = .ok (.invokespecial 3, 3) := by decide +kernel
theorem d_X1_init_4 : decode (D_X1_init).2.1 4 = .ok (.aload_n 0, 1) := by decide +kernel
theorem d_X1_init_5 : decode (D_X1_init).2.1 5 = .ok (.iconst 0, 1) := by decide +kernel
theorem d_X1_init_6 : decode (D_X1_init).2.1 6 = .ok (.putfield 9, 3) := by decide +kernel
theorem d_X1_init_9 : decode (D_X1_init).2.1 9 = .ok (.aload_n 0, 1) := by decide +kernel
theorem d_X1_init_10 : decode (D_X1_init).2.1 10 = .ok (.iconst 0, 1) := by decide +kernel
theorem d_X1_init_11 : decode (D_X1_init).2.1 11 = .ok (.putfield 15, 3) := by decide +kernel
theorem d_X1_init_14 : decode (D_X1_init).2.1 14 = .ok (.aload_n 0, 1) := by decide +kernel
theorem d_X1_init_15 : decode (D_X1_init).2.1 15 = .ok (.iconst 0, 1) := by decide +kernel
theorem d_X1_init_16 : decode (D_X1_init).2.1 16 = .ok (.putfield 18, 3) := by decide +kernel
theorem d_X1_init_19 : decode (D_X1_init).2.1 19 = .ok (.aload_n 0, 1) := by decide +kernel
theorem d_X1_init_20 : decode (D_X1_init).2.1 20 = .ok (.iconst 0, 1) := by decide +kernel
theorem d_X1_init_21 : decode (D_X1_init).2.1 21 = .ok (.putfield 21, 3) := by decide +kernel
theorem d_X1_init_24 : decode (D_X1_init).2.1 24 = .ok (.aload_n 0, 1) := by decide +kernel
theorem d_X1_init_25 : decode (D_X1_init).2.1 25 = .ok (.iconst 0, 1) := by decide +kernel
theorem d_X1_init_26 : decode (D_X1_init).2.1 26 = .ok (.putfield 24, 3) := by decide +kernel
theorem d_X1_init_29 : decode (D_X1_init).2.1 29 = .ok (.aload_n 0, 1) := by decide +kernel
theorem d_X1_init_30 : decode (D_X1_init).2.1 30 = .ok (.bipush 8, 2) := by decide +kernel
theorem d_X1_init_32 : decode (D_X1_init).2.1 32 = .ok (.newarray .int, 2) := by decide +kernel
theorem d_X1_init_34 : decode (D_X1_init).2.1 34 = .ok (.putfield 27, 3) := by decide +kernel
theorem d_X1_init_37 : decode (D_X1_init).2.1 37 = .ok (.aload_n 0, 1) := by decide +kernel
theorem d_X1_init_38 : decode (D_X1_init).2.1 38 = .ok (.bipush 8, 2) := by decide +kernel
theorem d_X1_init_40 : decode (D_X1_init).2.1 40 = .ok (.newarray .int, 2) := by decide +kernel
theorem d_X1_init_42 : decode (D_X1_init).2.1 42 = .ok (.putfield 31, 3) := by decide +kernel
theorem d_X1_init_45 : decode (D_X1_init).2.1 45 = .ok (.aload_n 0, 1) := by decide +kernel
theorem d_X1_init_46 : decode (D_X1_init).2.1 46 = .ok (.bipush 6, 2) := by decide +kernel
theorem d_X1_init_48 : decode (D_X1_init).2.1 48 = .ok (.newarray .int, 2) := by decide +kernel
theorem d_X1_init_50 : decode (D_X1_init).2.1 50 = .ok (.putfield 34, 3) := by decide +kernel
theorem d_X1_init_53 : decode (D_X1_init).2.1 53 = .ok (.aload_n 0, 1) := by decide +kernel
theorem d_X1_init_54 : decode (D_X1_init).2.1 54 = .ok (.bipush 8, 2) := by decide +kernel
theorem d_X1_init_56 : decode (D_X1_init).2.1 56 = .ok (.newarray .int, 2) := by decide +kernel
theorem d_X1_init_58 : decode (D_X1_init).2.1 58 = .ok (.putfield 37, 3) := by decide +kernel
theorem d_X1_init_61 : decode (D_X1_init).2.1 61 = .ok (.aload_n 0, 1) := by decide +kernel
theorem d_X1_init_62 : decode (D_X1_init).2.1 62 = .ok (.bipush 8, 2) := by decide +kernel
theorem d_X1_init_64 : decode (D_X1_init).2.1 64 = .ok (.newarray .int, 2) := by decide +kernel
theorem d_X1_init_66 : decode (D_X1_init).2.1 66 = .ok (.putfield 40, 3) := by decide +kernel
theorem d_X1_init_69 : decode (D_X1_init).2.1 69 = .ok (.aload_n 0, 1) := by decide +kernel
theorem d_X1_init_70 : decode (D_X1_init).2.1 70 = .ok (.bipush 8, 2) := by decide +kernel
theorem d_X1_init_72 : decode (D_X1_init).2.1 72 = .ok (.newarray .int, 2) := by decide +kernel
theorem d_X1_init_74 : decode (D_X1_init).2.1 74 = .ok (.putfield 43, 3) := by decide +kernel
theorem d_X1_init_77 : decode (D_X1_init).2.1 77 = .ok (.aload_n 0, 1) := by decide +kernel
theorem d_X1_init_78 : decode (D_X1_init).2.1 78 = .ok (.bipush 8, 2) := by decide +kernel
theorem d_X1_init_80 : decode (D_X1_init).2.1 80 = .ok (.newarray .int, 2) := by decide +kernel
theorem d_X1_init_82 : decode (D_X1_init).2.1 82 = .ok (.putfield 46, 3) := by decide +kernel
theorem d_X1_init_85 : decode (D_X1_init).2.1 85 = .ok (.return_, 1) := by decide +kernel
def cM_X1 (a : Nat) (M : JMem) : JMem := (jz (jz (jz (jz (jz (jz (jz (jup (jup (jup (jup (jup M a 0 0) a 1 0) a 2 0) a 3 0) a 4 0) (a + 1)) (a + 2)) (a + 3)) (a + 4)) (a + 5)) (a + 6)) (a + 7))
def cR_X1 (a : Nat) (ρ : JRho) : JRho := (jsr (jzr (jsr (jzr (jsr (jzr (jsr (jzr (jsr (jzr (jsr (jzr (jsr (jzr ρ (a + 1)) a 5 (a + 1)) (a + 2)) a 6 (a + 2)) (a + 3)) a 7 (a + 3)) (a + 4)) a 8 (a + 4)) (a + 5)) a 9 (a + 5)) (a + 6)) a 10 (a + 6)) (a + 7)) a 11 (a + 7))
set_option maxRecDepth 8000 in
theorem c_X1 {g : JG} (a : Nat) (h : jK jNN (0, 1) a) (ρ : JRho) (M : JMem) (w0 : jwf (a + 1) ρ) : jMetC g D_X1_init yX1_init [.ref a] (a + 1) (a + 8) ρ (cR_X1 a ρ) M (cM_X1 a M) := by
  have hj : jNN = 186 := rfl
  have ha := h.1
  refine jMetC.of (lo0 := [some (.ref a)]) (by decide) rfl rfl (fun ad => (Nat.le_of_ble_eq_true rfl)) (And.intro rfl True.intro) (fun ad0 s0 => ?_)
  have g0 : jag (a + 1) ad0 ad0 := jag.rf
  unfold cM_X1 cR_X1
  refine jo_aload 0 d_X1_init_0 rfl rfl ?_
  refine jo_obj lm_X1_3 (Nat.le_of_ble_eq_true rfl) (Nat.le_of_ble_eq_true rfl) d_X1_init_1 ?_
  refine jo_aload 0 d_X1_init_4 rfl rfl ?_
  refine jo_iconst 0 d_X1_init_5 ?_
  refine jo_putIC (k := 0) cl_1 (Nat.le_of_ble_eq_true rfl) lk_X1_9 rfl rfl (And.intro (by omega) h.2) d_X1_init_6 ?_
  refine jo_aload 0 d_X1_init_9 rfl rfl ?_
  refine jo_iconst 0 d_X1_init_10 ?_
  refine jo_putIC (k := 1) cl_1 (Nat.le_of_ble_eq_true rfl) lk_X1_15 rfl rfl (And.intro (by omega) h.2) d_X1_init_11 ?_
  refine jo_aload 0 d_X1_init_14 rfl rfl ?_
  refine jo_iconst 0 d_X1_init_15 ?_
  refine jo_putIC (k := 2) cl_1 (Nat.le_of_ble_eq_true rfl) lk_X1_18 rfl rfl (And.intro (by omega) h.2) d_X1_init_16 ?_
  refine jo_aload 0 d_X1_init_19 rfl rfl ?_
  refine jo_iconst 0 d_X1_init_20 ?_
  refine jo_putIC (k := 3) cl_1 (Nat.le_of_ble_eq_true rfl) lk_X1_21 rfl rfl (And.intro (by omega) h.2) d_X1_init_21 ?_
  refine jo_aload 0 d_X1_init_24 rfl rfl ?_
  refine jo_iconst 0 d_X1_init_25 ?_
  refine jo_putIC (k := 4) cl_1 (Nat.le_of_ble_eq_true rfl) lk_X1_24 rfl rfl (And.intro (by omega) h.2) d_X1_init_26 ?_
  refine jo_aload 0 d_X1_init_29 rfl rfl ?_
  refine jo_bipush 8 d_X1_init_30 (by decide) ?_
  refine jo_newI (N := 8) (a0 := a) (ka_Now_5 h).2 (by omega) (by omega) w0 ar_int (by decide +kernel) (by decide +kernel) (Nat.le_of_ble_eq_true rfl) (And.intro (jvo_lt (by omega)) True.intro) (And.intro (jvo_lt (by omega)) True.intro) (And.intro (Nat.le_of_ble_eq_true rfl) (Nat.le_of_ble_eq_true rfl)) d_X1_init_32 (fun ad1 h1 => ?_)
  have g1 := g0.tr h1 (by omega)
  have s1 := s0.ag h1
  have w1 := jwf_new w0
  refine jo_putR (k := 5) cl_1 (Nat.le_of_ble_eq_true rfl) lk_X1_27 rfl rfl rfl rfl (And.intro (by omega) h.2) d_X1_init_34 ?_
  have w2 := jwf_set (a := a) (k := 5) (b := (a + 1)) w1 (by omega) (by decide)
  refine jo_aload 0 d_X1_init_37 rfl rfl ?_
  refine jo_bipush 8 d_X1_init_38 (by decide) ?_
  refine jo_newI (N := 8) (a0 := a) (ka_Now_6 h).2 (by omega) (by omega) w2 ar_int (by decide +kernel) (by decide +kernel) (Nat.le_of_ble_eq_true rfl) (And.intro (jvo_lt (by omega)) True.intro) (And.intro (jvo_lt (by omega)) True.intro) (And.intro (Nat.le_of_ble_eq_true rfl) (Nat.le_of_ble_eq_true rfl)) d_X1_init_40 (fun ad2 h2 => ?_)
  have g2 := g1.tr h2 (by omega)
  have s2 := s1.ag h2
  have w3 := jwf_new w2
  refine jo_putR (k := 6) cl_1 (Nat.le_of_ble_eq_true rfl) lk_X1_31 rfl rfl rfl rfl (And.intro (by omega) h.2) d_X1_init_42 ?_
  have w4 := jwf_set (a := a) (k := 6) (b := (a + 2)) w3 (by omega) (by decide)
  refine jo_aload 0 d_X1_init_45 rfl rfl ?_
  refine jo_bipush 6 d_X1_init_46 (by decide) ?_
  refine jo_newI (N := 6) (a0 := a) (ka_Now_7 h).2 (by omega) (by omega) w4 ar_int (by decide +kernel) (by decide +kernel) (Nat.le_of_ble_eq_true rfl) (And.intro (jvo_lt (by omega)) True.intro) (And.intro (jvo_lt (by omega)) True.intro) (And.intro (Nat.le_of_ble_eq_true rfl) (Nat.le_of_ble_eq_true rfl)) d_X1_init_48 (fun ad3 h3 => ?_)
  have g3 := g2.tr h3 (by omega)
  have s3 := s2.ag h3
  have w5 := jwf_new w4
  refine jo_putR (k := 7) cl_1 (Nat.le_of_ble_eq_true rfl) lk_X1_34 rfl rfl rfl rfl (And.intro (by omega) h.2) d_X1_init_50 ?_
  have w6 := jwf_set (a := a) (k := 7) (b := (a + 3)) w5 (by omega) (by decide)
  refine jo_aload 0 d_X1_init_53 rfl rfl ?_
  refine jo_bipush 8 d_X1_init_54 (by decide) ?_
  refine jo_newI (N := 8) (a0 := a) (ka_Now_8 h).2 (by omega) (by omega) w6 ar_int (by decide +kernel) (by decide +kernel) (Nat.le_of_ble_eq_true rfl) (And.intro (jvo_lt (by omega)) True.intro) (And.intro (jvo_lt (by omega)) True.intro) (And.intro (Nat.le_of_ble_eq_true rfl) (Nat.le_of_ble_eq_true rfl)) d_X1_init_56 (fun ad4 h4 => ?_)
  have g4 := g3.tr h4 (by omega)
  have s4 := s3.ag h4
  have w7 := jwf_new w6
  refine jo_putR (k := 8) cl_1 (Nat.le_of_ble_eq_true rfl) lk_X1_37 rfl rfl rfl rfl (And.intro (by omega) h.2) d_X1_init_58 ?_
  have w8 := jwf_set (a := a) (k := 8) (b := (a + 4)) w7 (by omega) (by decide)
  refine jo_aload 0 d_X1_init_61 rfl rfl ?_
  refine jo_bipush 8 d_X1_init_62 (by decide) ?_
  refine jo_newI (N := 8) (a0 := a) (ka_Now_9 h).2 (by omega) (by omega) w8 ar_int (by decide +kernel) (by decide +kernel) (Nat.le_of_ble_eq_true rfl) (And.intro (jvo_lt (by omega)) True.intro) (And.intro (jvo_lt (by omega)) True.intro) (And.intro (Nat.le_of_ble_eq_true rfl) (Nat.le_of_ble_eq_true rfl)) d_X1_init_64 (fun ad5 h5 => ?_)
  have g5 := g4.tr h5 (by omega)
  have s5 := s4.ag h5
  have w9 := jwf_new w8
  refine jo_putR (k := 9) cl_1 (Nat.le_of_ble_eq_true rfl) lk_X1_40 rfl rfl rfl rfl (And.intro (by omega) h.2) d_X1_init_66 ?_
  have w10 := jwf_set (a := a) (k := 9) (b := (a + 5)) w9 (by omega) (by decide)
  refine jo_aload 0 d_X1_init_69 rfl rfl ?_
  refine jo_bipush 8 d_X1_init_70 (by decide) ?_
  refine jo_newI (N := 8) (a0 := a) (ka_Now_10 h).2 (by omega) (by omega) w10 ar_int (by decide +kernel) (by decide +kernel) (Nat.le_of_ble_eq_true rfl) (And.intro (jvo_lt (by omega)) True.intro) (And.intro (jvo_lt (by omega)) True.intro) (And.intro (Nat.le_of_ble_eq_true rfl) (Nat.le_of_ble_eq_true rfl)) d_X1_init_72 (fun ad6 h6 => ?_)
  have g6 := g5.tr h6 (by omega)
  have s6 := s5.ag h6
  have w11 := jwf_new w10
  refine jo_putR (k := 10) cl_1 (Nat.le_of_ble_eq_true rfl) lk_X1_43 rfl rfl rfl rfl (And.intro (by omega) h.2) d_X1_init_74 ?_
  have w12 := jwf_set (a := a) (k := 10) (b := (a + 6)) w11 (by omega) (by decide)
  refine jo_aload 0 d_X1_init_77 rfl rfl ?_
  refine jo_bipush 8 d_X1_init_78 (by decide) ?_
  refine jo_newI (N := 8) (a0 := a) (ka_Now_11 h).2 (by omega) (by omega) w12 ar_int (by decide +kernel) (by decide +kernel) (Nat.le_of_ble_eq_true rfl) (And.intro (jvo_lt (by omega)) True.intro) (And.intro (jvo_lt (by omega)) True.intro) (And.intro (Nat.le_of_ble_eq_true rfl) (Nat.le_of_ble_eq_true rfl)) d_X1_init_80 (fun ad7 h7 => ?_)
  have g7 := g6.tr h7 (by omega)
  have s7 := s6.ag h7
  have w13 := jwf_new w12
  refine jo_putR (k := 11) cl_1 (Nat.le_of_ble_eq_true rfl) lk_X1_46 rfl rfl rfl rfl (And.intro (by omega) h.2) d_X1_init_82 ?_
  have w14 := jwf_set (a := a) (k := 11) (b := (a + 7)) w13 (by omega) (by decide)
  exact jo_cret g7 rfl d_X1_init_85 (And.intro (Nat.le_refl _) (Nat.le_refl _))
theorem cw_X1 (a : Nat) (ρ : JRho) (w0 : jwf (a + 1) ρ) : jwf (a + 8) (cR_X1 a ρ) := by
  unfold cR_X1
  have w1 := jwf_new w0
  have w2 := jwf_set (a := a) (k := 5) (b := (a + 1)) w1 (by omega) (by decide)
  have w3 := jwf_new w2
  have w4 := jwf_set (a := a) (k := 6) (b := (a + 2)) w3 (by omega) (by decide)
  have w5 := jwf_new w4
  have w6 := jwf_set (a := a) (k := 7) (b := (a + 3)) w5 (by omega) (by decide)
  have w7 := jwf_new w6
  have w8 := jwf_set (a := a) (k := 8) (b := (a + 4)) w7 (by omega) (by decide)
  have w9 := jwf_new w8
  have w10 := jwf_set (a := a) (k := 9) (b := (a + 5)) w9 (by omega) (by decide)
  have w11 := jwf_new w10
  have w12 := jwf_set (a := a) (k := 10) (b := (a + 6)) w11 (by omega) (by decide)
  have w13 := jwf_new w12
  have w14 := jwf_set (a := a) (k := 11) (b := (a + 7)) w13 (by omega) (by decide)
  exact w14
theorem lm_X9_3 : Cond.methodLink RX9 3 Lib.objectInit ∈ jTW := jTW_mem (k := 480) (by decide +kernel) rfl
theorem lk_X9_9 : Cond.fieldLink RX9 9 (TX9 0).1 (TX9 0).2.1 (TX9 0).2.2.1 ∈ jTW := jTW_mem (k := 481) (by decide +kernel) rfl
theorem lk_X9_13 : Cond.fieldLink RX9 13 (TX9 1).1 (TX9 1).2.1 (TX9 1).2.2.1 ∈ jTW := jTW_mem (k := 484) (by decide +kernel) rfl
theorem lk_X9_17 : Cond.fieldLink RX9 17 (TX9 2).1 (TX9 2).2.1 (TX9 2).2.2.1 ∈ jTW := jTW_mem (k := 487) (by decide +kernel) rfl
theorem lk_X9_20 : Cond.fieldLink RX9 20 (TX9 3).1 (TX9 3).2.1 (TX9 3).2.2.1 ∈ jTW := jTW_mem (k := 490) (by decide +kernel) rfl
theorem lk_X9_24 : Cond.fieldLink RX9 24 (TX9 4).1 (TX9 4).2.1 (TX9 4).2.2.1 ∈ jTW := jTW_mem (k := 492) (by decide +kernel) rfl
theorem lk_X9_27 : Cond.fieldLink RX9 27 (TX9 5).1 (TX9 5).2.1 (TX9 5).2.2.1 ∈ jTW := jTW_mem (k := 494) (by decide +kernel) rfl
theorem lk_X9_30 : Cond.fieldLink RX9 30 (TX9 6).1 (TX9 6).2.1 (TX9 6).2.2.1 ∈ jTW := jTW_mem (k := 496) (by decide +kernel) rfl
def D_X9_init : JD := (RX9, cX9_init, 1, none, "<init>", { frames := 1, cells := 4, slots := 240, locals := 20 })
theorem okc_X9 : jOkC D_X9_init yX9_init 0 := ⟨⟨jTW_mem (k := 479) (by decide +kernel) rfl, rfl⟩, jTW_mem (k := 146) (by decide +kernel) rfl, ⟨by decide +kernel, by decide +kernel⟩, by decide +kernel, rfl, jTW_mem (k := 478) (by decide +kernel) rfl⟩
theorem d_X9_init_0 : decode (D_X9_init).2.1 0 = .ok (.aload_n 0, 1) := by decide +kernel
theorem d_X9_init_1 : decode (D_X9_init).2.1 1 = .ok (.invokespecial 3, 3) := by decide +kernel
theorem d_X9_init_4 : decode (D_X9_init).2.1 4 = .ok (.aload_n 0, 1) := by decide +kernel
theorem d_X9_init_5 : decode (D_X9_init).2.1 5 = .ok (.iconst 0, 1) := by decide +kernel
theorem d_X9_init_6 : decode (D_X9_init).2.1 6 = .ok (.putfield 9, 3) := by decide +kernel
theorem d_X9_init_9 : decode (D_X9_init).2.1 9 = .ok (.aload_n 0, 1) := by decide +kernel
theorem d_X9_init_10 : decode (D_X9_init).2.1 10 = .ok (.iconst 0, 1) := by decide +kernel
theorem d_X9_init_11 : decode (D_X9_init).2.1 11 = .ok (.putfield 13, 3) := by decide +kernel
theorem d_X9_init_14 : decode (D_X9_init).2.1 14 = .ok (.aload_n 0, 1) := by decide +kernel
theorem d_X9_init_15 : decode (D_X9_init).2.1 15 = .ok (.iconst 0, 1) := by decide +kernel
theorem d_X9_init_16 : decode (D_X9_init).2.1 16 = .ok (.putfield 17, 3) := by decide +kernel
theorem d_X9_init_19 : decode (D_X9_init).2.1 19 = .ok (.aload_n 0, 1) := by decide +kernel
theorem d_X9_init_20 : decode (D_X9_init).2.1 20 = .ok (.bipush 60, 2) := by decide +kernel
theorem d_X9_init_22 : decode (D_X9_init).2.1 22 = .ok (.newarray .int, 2) := by decide +kernel
theorem d_X9_init_24 : decode (D_X9_init).2.1 24 = .ok (.putfield 20, 3) := by decide +kernel
theorem d_X9_init_27 : decode (D_X9_init).2.1 27 = .ok (.aload_n 0, 1) := by decide +kernel
theorem d_X9_init_28 : decode (D_X9_init).2.1 28 = .ok (.bipush 60, 2) := by decide +kernel
theorem d_X9_init_30 : decode (D_X9_init).2.1 30 = .ok (.newarray .int, 2) := by decide +kernel
theorem d_X9_init_32 : decode (D_X9_init).2.1 32 = .ok (.putfield 24, 3) := by decide +kernel
theorem d_X9_init_35 : decode (D_X9_init).2.1 35 = .ok (.aload_n 0, 1) := by decide +kernel
theorem d_X9_init_36 : decode (D_X9_init).2.1 36 = .ok (.bipush 60, 2) := by decide +kernel
theorem d_X9_init_38 : decode (D_X9_init).2.1 38 = .ok (.newarray .int, 2) := by decide +kernel
theorem d_X9_init_40 : decode (D_X9_init).2.1 40 = .ok (.putfield 27, 3) := by decide +kernel
theorem d_X9_init_43 : decode (D_X9_init).2.1 43 = .ok (.aload_n 0, 1) := by decide +kernel
theorem d_X9_init_44 : decode (D_X9_init).2.1 44 = .ok (.bipush 60, 2) := by decide +kernel
theorem d_X9_init_46 : decode (D_X9_init).2.1 46 = .ok (.newarray .int, 2) := by decide +kernel
theorem d_X9_init_48 : decode (D_X9_init).2.1 48 = .ok (.putfield 30, 3) := by decide +kernel
theorem d_X9_init_51 : decode (D_X9_init).2.1 51 = .ok (.return_, 1) := by decide +kernel
def cM_X9 (a : Nat) (M : JMem) : JMem := (jz (jz (jz (jz (jup (jup (jup M a 0 0) a 1 0) a 2 0) (a + 1)) (a + 2)) (a + 3)) (a + 4))
def cR_X9 (a : Nat) (ρ : JRho) : JRho := (jsr (jzr (jsr (jzr (jsr (jzr (jsr (jzr ρ (a + 1)) a 3 (a + 1)) (a + 2)) a 4 (a + 2)) (a + 3)) a 5 (a + 3)) (a + 4)) a 6 (a + 4))
set_option maxRecDepth 8000 in
theorem c_X9 {g : JG} (a : Nat) (h : jK jNN (0, 9) a) (ρ : JRho) (M : JMem) (w0 : jwf (a + 1) ρ) : jMetC g D_X9_init yX9_init [.ref a] (a + 1) (a + 5) ρ (cR_X9 a ρ) M (cM_X9 a M) := by
  have hj : jNN = 186 := rfl
  have ha := h.1
  refine jMetC.of (lo0 := [some (.ref a)]) (by decide) rfl rfl (fun ad => (Nat.le_of_ble_eq_true rfl)) (And.intro rfl True.intro) (fun ad0 s0 => ?_)
  have g0 : jag (a + 1) ad0 ad0 := jag.rf
  unfold cM_X9 cR_X9
  refine jo_aload 0 d_X9_init_0 rfl rfl ?_
  refine jo_obj lm_X9_3 (Nat.le_of_ble_eq_true rfl) (Nat.le_of_ble_eq_true rfl) d_X9_init_1 ?_
  refine jo_aload 0 d_X9_init_4 rfl rfl ?_
  refine jo_iconst 0 d_X9_init_5 ?_
  refine jo_putZC (k := 0) (by decide) cl_9 (Nat.le_of_ble_eq_true rfl) lk_X9_9 rfl rfl (And.intro (by omega) h.2) d_X9_init_6 ?_
  refine jo_aload 0 d_X9_init_9 rfl rfl ?_
  refine jo_iconst 0 d_X9_init_10 ?_
  refine jo_putIC (k := 1) cl_9 (Nat.le_of_ble_eq_true rfl) lk_X9_13 rfl rfl (And.intro (by omega) h.2) d_X9_init_11 ?_
  refine jo_aload 0 d_X9_init_14 rfl rfl ?_
  refine jo_iconst 0 d_X9_init_15 ?_
  refine jo_putIC (k := 2) cl_9 (Nat.le_of_ble_eq_true rfl) lk_X9_17 rfl rfl (And.intro (by omega) h.2) d_X9_init_16 ?_
  refine jo_aload 0 d_X9_init_19 rfl rfl ?_
  refine jo_bipush 60 d_X9_init_20 (by decide) ?_
  refine jo_newI (N := 60) (a0 := a) (ka_Weeks_3 h).2 (by omega) (by omega) w0 ar_int (by decide +kernel) (by decide +kernel) (Nat.le_of_ble_eq_true rfl) (And.intro (jvo_lt (by omega)) True.intro) (And.intro (jvo_lt (by omega)) True.intro) (And.intro (Nat.le_of_ble_eq_true rfl) (Nat.le_of_ble_eq_true rfl)) d_X9_init_22 (fun ad1 h1 => ?_)
  have g1 := g0.tr h1 (by omega)
  have s1 := s0.ag h1
  have w1 := jwf_new w0
  refine jo_putR (k := 3) cl_9 (Nat.le_of_ble_eq_true rfl) lk_X9_20 rfl rfl rfl rfl (And.intro (by omega) h.2) d_X9_init_24 ?_
  have w2 := jwf_set (a := a) (k := 3) (b := (a + 1)) w1 (by omega) (by decide)
  refine jo_aload 0 d_X9_init_27 rfl rfl ?_
  refine jo_bipush 60 d_X9_init_28 (by decide) ?_
  refine jo_newI (N := 60) (a0 := a) (ka_Weeks_4 h).2 (by omega) (by omega) w2 ar_int (by decide +kernel) (by decide +kernel) (Nat.le_of_ble_eq_true rfl) (And.intro (jvo_lt (by omega)) True.intro) (And.intro (jvo_lt (by omega)) True.intro) (And.intro (Nat.le_of_ble_eq_true rfl) (Nat.le_of_ble_eq_true rfl)) d_X9_init_30 (fun ad2 h2 => ?_)
  have g2 := g1.tr h2 (by omega)
  have s2 := s1.ag h2
  have w3 := jwf_new w2
  refine jo_putR (k := 4) cl_9 (Nat.le_of_ble_eq_true rfl) lk_X9_24 rfl rfl rfl rfl (And.intro (by omega) h.2) d_X9_init_32 ?_
  have w4 := jwf_set (a := a) (k := 4) (b := (a + 2)) w3 (by omega) (by decide)
  refine jo_aload 0 d_X9_init_35 rfl rfl ?_
  refine jo_bipush 60 d_X9_init_36 (by decide) ?_
  refine jo_newI (N := 60) (a0 := a) (ka_Weeks_5 h).2 (by omega) (by omega) w4 ar_int (by decide +kernel) (by decide +kernel) (Nat.le_of_ble_eq_true rfl) (And.intro (jvo_lt (by omega)) True.intro) (And.intro (jvo_lt (by omega)) True.intro) (And.intro (Nat.le_of_ble_eq_true rfl) (Nat.le_of_ble_eq_true rfl)) d_X9_init_38 (fun ad3 h3 => ?_)
  have g3 := g2.tr h3 (by omega)
  have s3 := s2.ag h3
  have w5 := jwf_new w4
  refine jo_putR (k := 5) cl_9 (Nat.le_of_ble_eq_true rfl) lk_X9_27 rfl rfl rfl rfl (And.intro (by omega) h.2) d_X9_init_40 ?_
  have w6 := jwf_set (a := a) (k := 5) (b := (a + 3)) w5 (by omega) (by decide)
  refine jo_aload 0 d_X9_init_43 rfl rfl ?_
  refine jo_bipush 60 d_X9_init_44 (by decide) ?_
  refine jo_newI (N := 60) (a0 := a) (ka_Weeks_6 h).2 (by omega) (by omega) w6 ar_int (by decide +kernel) (by decide +kernel) (Nat.le_of_ble_eq_true rfl) (And.intro (jvo_lt (by omega)) True.intro) (And.intro (jvo_lt (by omega)) True.intro) (And.intro (Nat.le_of_ble_eq_true rfl) (Nat.le_of_ble_eq_true rfl)) d_X9_init_46 (fun ad4 h4 => ?_)
  have g4 := g3.tr h4 (by omega)
  have s4 := s3.ag h4
  have w7 := jwf_new w6
  refine jo_putR (k := 6) cl_9 (Nat.le_of_ble_eq_true rfl) lk_X9_30 rfl rfl rfl rfl (And.intro (by omega) h.2) d_X9_init_48 ?_
  have w8 := jwf_set (a := a) (k := 6) (b := (a + 4)) w7 (by omega) (by decide)
  exact jo_cret g4 rfl d_X9_init_51 (And.intro (Nat.le_refl _) (Nat.le_refl _))
theorem cw_X9 (a : Nat) (ρ : JRho) (w0 : jwf (a + 1) ρ) : jwf (a + 5) (cR_X9 a ρ) := by
  unfold cR_X9
  have w1 := jwf_new w0
  have w2 := jwf_set (a := a) (k := 3) (b := (a + 1)) w1 (by omega) (by decide)
  have w3 := jwf_new w2
  have w4 := jwf_set (a := a) (k := 4) (b := (a + 2)) w3 (by omega) (by decide)
  have w5 := jwf_new w4
  have w6 := jwf_set (a := a) (k := 5) (b := (a + 3)) w5 (by omega) (by decide)
  have w7 := jwf_new w6
  have w8 := jwf_set (a := a) (k := 6) (b := (a + 4)) w7 (by omega) (by decide)
  exact w8
theorem lm_X8_3 : Cond.methodLink RX8 3 Lib.objectInit ∈ jTW := jTW_mem (k := 542) (by decide +kernel) rfl
theorem lk_X8_9 : Cond.fieldLink RX8 9 (TX8 0).1 (TX8 0).2.1 (TX8 0).2.2.1 ∈ jTW := jTW_mem (k := 543) (by decide +kernel) rfl
theorem lk_X8_15 : Cond.fieldLink RX8 15 (TX8 1).1 (TX8 1).2.1 (TX8 1).2.2.1 ∈ jTW := jTW_mem (k := 545) (by decide +kernel) rfl
def D_X8_init : JD := (RX8, cX8_init, 1, none, "<init>", { frames := 1, cells := 2, slots := 14, locals := 20 })
theorem okc_X8 : jOkC D_X8_init yX8_init 0 := ⟨⟨jTW_mem (k := 541) (by decide +kernel) rfl, rfl⟩, jTW_mem (k := 147) (by decide +kernel) rfl, ⟨by decide +kernel, by decide +kernel⟩, by decide +kernel, rfl, jTW_mem (k := 540) (by decide +kernel) rfl⟩
theorem d_X8_init_0 : decode (D_X8_init).2.1 0 = .ok (.aload_n 0, 1) := by decide +kernel
theorem d_X8_init_1 : decode (D_X8_init).2.1 1 = .ok (.invokespecial 3, 3) := by decide +kernel
theorem d_X8_init_4 : decode (D_X8_init).2.1 4 = .ok (.aload_n 0, 1) := by decide +kernel
theorem d_X8_init_5 : decode (D_X8_init).2.1 5 = .ok (.bipush 6, 2) := by decide +kernel
theorem d_X8_init_7 : decode (D_X8_init).2.1 7 = .ok (.newarray .int, 2) := by decide +kernel
theorem d_X8_init_9 : decode (D_X8_init).2.1 9 = .ok (.putfield 9, 3) := by decide +kernel
theorem d_X8_init_12 : decode (D_X8_init).2.1 12 = .ok (.aload_n 0, 1) := by decide +kernel
theorem d_X8_init_13 : decode (D_X8_init).2.1 13 = .ok (.bipush 8, 2) := by decide +kernel
theorem d_X8_init_15 : decode (D_X8_init).2.1 15 = .ok (.newarray .int, 2) := by decide +kernel
theorem d_X8_init_17 : decode (D_X8_init).2.1 17 = .ok (.putfield 15, 3) := by decide +kernel
theorem d_X8_init_20 : decode (D_X8_init).2.1 20 = .ok (.return_, 1) := by decide +kernel
def cM_X8 (M : JMem) : JMem := (jz (jz M 77) 78)
def cR_X8 (ρ : JRho) : JRho := (jsr (jzr (jsr (jzr ρ 77) 76 0 77) 78) 76 1 78)
set_option maxRecDepth 8000 in
theorem c_X8 {g : JG} (ρ : JRho) (M : JMem) (w0 : jwf 77 ρ) : jMetC g D_X8_init yX8_init [.ref 76] 77 79 ρ (cR_X8 ρ) M (cM_X8 M) := by
  have hj : jNN = 186 := rfl
  refine jMetC.of (lo0 := [some (.ref 76)]) (by decide) rfl rfl (fun ad => (Nat.le_of_ble_eq_true rfl)) (And.intro rfl True.intro) (fun ad0 s0 => ?_)
  have g0 : jag 77 ad0 ad0 := jag.rf
  unfold cM_X8 cR_X8
  refine jo_aload 0 d_X8_init_0 rfl rfl ?_
  refine jo_obj lm_X8_3 (Nat.le_of_ble_eq_true rfl) (Nat.le_of_ble_eq_true rfl) d_X8_init_1 ?_
  refine jo_aload 0 d_X8_init_4 rfl rfl ?_
  refine jo_bipush 6 d_X8_init_5 (by decide) ?_
  refine jo_newI (N := 6) (a0 := 76) (by decide +kernel : jG 77 = (1, 6)) (by omega) (by omega) w0 ar_int (by decide +kernel) (by decide +kernel) (Nat.le_of_ble_eq_true rfl) (And.intro (jvo_lt (by omega)) True.intro) (And.intro (jvo_lt (by omega)) True.intro) (And.intro (Nat.le_of_ble_eq_true rfl) (Nat.le_of_ble_eq_true rfl)) d_X8_init_7 (fun ad1 h1 => ?_)
  have g1 := g0.tr h1 (by omega)
  have s1 := s0.ag h1
  have w1 := jwf_new w0
  refine jo_putR (k := 0) cl_8 (Nat.le_of_ble_eq_true rfl) lk_X8_9 rfl rfl rfl rfl (And.intro (by omega) (by decide +kernel : jG 76 = (0, 8))) d_X8_init_9 ?_
  have w2 := jwf_set (a := 76) (k := 0) (b := 77) w1 (by omega) (by decide)
  refine jo_aload 0 d_X8_init_12 rfl rfl ?_
  refine jo_bipush 8 d_X8_init_13 (by decide) ?_
  refine jo_newI (N := 8) (a0 := 76) (by decide +kernel : jG 78 = (1, 8)) (by omega) (by omega) w2 ar_int (by decide +kernel) (by decide +kernel) (Nat.le_of_ble_eq_true rfl) (And.intro (jvo_lt (by omega)) True.intro) (And.intro (jvo_lt (by omega)) True.intro) (And.intro (Nat.le_of_ble_eq_true rfl) (Nat.le_of_ble_eq_true rfl)) d_X8_init_15 (fun ad2 h2 => ?_)
  have g2 := g1.tr h2 (by omega)
  have s2 := s1.ag h2
  have w3 := jwf_new w2
  refine jo_putR (k := 1) cl_8 (Nat.le_of_ble_eq_true rfl) lk_X8_15 rfl rfl rfl rfl (And.intro (by omega) (by decide +kernel : jG 76 = (0, 8))) d_X8_init_17 ?_
  have w4 := jwf_set (a := 76) (k := 1) (b := 78) w3 (by omega) (by decide)
  exact jo_cret g2 rfl d_X8_init_20 (And.intro (Nat.le_refl _) (Nat.le_refl _))
theorem cw_X8 (ρ : JRho) (w0 : jwf 77 ρ) : jwf 79 (cR_X8 ρ) := by
  unfold cR_X8
  have w1 := jwf_new w0
  have w2 := jwf_set (a := 76) (k := 0) (b := 77) w1 (by omega) (by decide)
  have w3 := jwf_new w2
  have w4 := jwf_set (a := 76) (k := 1) (b := 78) w3 (by omega) (by decide)
  exact w4
theorem lm_X5_3 : Cond.methodLink RX5 3 Lib.objectInit ∈ jTW := jTW_mem (k := 556) (by decide +kernel) rfl
theorem lk_X5_11 : Cond.fieldLink RX5 11 (TX5 0).1 (TX5 0).2.1 (TX5 0).2.2.1 ∈ jTW := jTW_mem (k := 557) (by decide +kernel) rfl
theorem lk_X5_15 : Cond.fieldLink RX5 15 (TX5 1).1 (TX5 1).2.1 (TX5 1).2.2.1 ∈ jTW := jTW_mem (k := 558) (by decide +kernel) rfl
def D_X5_init : JD := (RX5, cX5_init, 1, none, "<init>", { frames := 1, cells := 2, slots := 512, locals := 20 })
theorem okc_X5 : jOkC D_X5_init yX5_init 0 := ⟨⟨jTW_mem (k := 555) (by decide +kernel) rfl, rfl⟩, jTW_mem (k := 148) (by decide +kernel) rfl, ⟨by decide +kernel, by decide +kernel⟩, by decide +kernel, rfl, jTW_mem (k := 554) (by decide +kernel) rfl⟩
theorem d_X5_init_0 : decode (D_X5_init).2.1 0 = .ok (.aload_n 0, 1) := by decide +kernel
theorem d_X5_init_1 : decode (D_X5_init).2.1 1 = .ok (.invokespecial 3, 3) := by decide +kernel
theorem d_X5_init_4 : decode (D_X5_init).2.1 4 = .ok (.aload_n 0, 1) := by decide +kernel
theorem d_X5_init_5 : decode (D_X5_init).2.1 5 = .ok (.sipush 256, 3) := by decide +kernel
theorem d_X5_init_8 : decode (D_X5_init).2.1 8 = .ok (.newarray .int, 2) := by decide +kernel
theorem d_X5_init_10 : decode (D_X5_init).2.1 10 = .ok (.putfield 11, 3) := by decide +kernel
theorem d_X5_init_13 : decode (D_X5_init).2.1 13 = .ok (.aload_n 0, 1) := by decide +kernel
theorem d_X5_init_14 : decode (D_X5_init).2.1 14 = .ok (.sipush 256, 3) := by decide +kernel
theorem d_X5_init_17 : decode (D_X5_init).2.1 17 = .ok (.newarray .int, 2) := by decide +kernel
theorem d_X5_init_19 : decode (D_X5_init).2.1 19 = .ok (.putfield 15, 3) := by decide +kernel
theorem d_X5_init_22 : decode (D_X5_init).2.1 22 = .ok (.return_, 1) := by decide +kernel
def cM_X5 (M : JMem) : JMem := (jz (jz M 80) 81)
def cR_X5 (ρ : JRho) : JRho := (jsr (jzr (jsr (jzr ρ 80) 79 0 80) 81) 79 1 81)
set_option maxRecDepth 8000 in
theorem c_X5 {g : JG} (ρ : JRho) (M : JMem) (w0 : jwf 80 ρ) : jMetC g D_X5_init yX5_init [.ref 79] 80 82 ρ (cR_X5 ρ) M (cM_X5 M) := by
  have hj : jNN = 186 := rfl
  refine jMetC.of (lo0 := [some (.ref 79)]) (by decide) rfl rfl (fun ad => (Nat.le_of_ble_eq_true rfl)) (And.intro rfl True.intro) (fun ad0 s0 => ?_)
  have g0 : jag 80 ad0 ad0 := jag.rf
  unfold cM_X5 cR_X5
  refine jo_aload 0 d_X5_init_0 rfl rfl ?_
  refine jo_obj lm_X5_3 (Nat.le_of_ble_eq_true rfl) (Nat.le_of_ble_eq_true rfl) d_X5_init_1 ?_
  refine jo_aload 0 d_X5_init_4 rfl rfl ?_
  refine jo_sipush 256 d_X5_init_5 (by decide) ?_
  refine jo_newI (N := 256) (a0 := 79) (by decide +kernel : jG 80 = (1, 256)) (by omega) (by omega) w0 ar_int (by decide +kernel) (by decide +kernel) (Nat.le_of_ble_eq_true rfl) (And.intro (jvo_lt (by omega)) True.intro) (And.intro (jvo_lt (by omega)) True.intro) (And.intro (Nat.le_of_ble_eq_true rfl) (Nat.le_of_ble_eq_true rfl)) d_X5_init_8 (fun ad1 h1 => ?_)
  have g1 := g0.tr h1 (by omega)
  have s1 := s0.ag h1
  have w1 := jwf_new w0
  refine jo_putR (k := 0) cl_5 (Nat.le_of_ble_eq_true rfl) lk_X5_11 rfl rfl rfl rfl (And.intro (by omega) (by decide +kernel : jG 79 = (0, 5))) d_X5_init_10 ?_
  have w2 := jwf_set (a := 79) (k := 0) (b := 80) w1 (by omega) (by decide)
  refine jo_aload 0 d_X5_init_13 rfl rfl ?_
  refine jo_sipush 256 d_X5_init_14 (by decide) ?_
  refine jo_newI (N := 256) (a0 := 79) (by decide +kernel : jG 81 = (1, 256)) (by omega) (by omega) w2 ar_int (by decide +kernel) (by decide +kernel) (Nat.le_of_ble_eq_true rfl) (And.intro (jvo_lt (by omega)) True.intro) (And.intro (jvo_lt (by omega)) True.intro) (And.intro (Nat.le_of_ble_eq_true rfl) (Nat.le_of_ble_eq_true rfl)) d_X5_init_17 (fun ad2 h2 => ?_)
  have g2 := g1.tr h2 (by omega)
  have s2 := s1.ag h2
  have w3 := jwf_new w2
  refine jo_putR (k := 1) cl_5 (Nat.le_of_ble_eq_true rfl) lk_X5_15 rfl rfl rfl rfl (And.intro (by omega) (by decide +kernel : jG 79 = (0, 5))) d_X5_init_19 ?_
  have w4 := jwf_set (a := 79) (k := 1) (b := 81) w3 (by omega) (by decide)
  exact jo_cret g2 rfl d_X5_init_22 (And.intro (Nat.le_refl _) (Nat.le_refl _))
theorem cw_X5 (ρ : JRho) (w0 : jwf 80 ρ) : jwf 82 (cR_X5 ρ) := by
  unfold cR_X5
  have w1 := jwf_new w0
  have w2 := jwf_set (a := 79) (k := 0) (b := 80) w1 (by omega) (by decide)
  have w3 := jwf_new w2
  have w4 := jwf_set (a := 79) (k := 1) (b := 81) w3 (by omega) (by decide)
  exact w4
theorem lm_X3_3 : Cond.methodLink RX3 3 Lib.objectInit ∈ jTW := jTW_mem (k := 569) (by decide +kernel) rfl
theorem lk_X3_9 : Cond.fieldLink RX3 9 (TX3 0).1 (TX3 0).2.1 (TX3 0).2.2.1 ∈ jTW := jTW_mem (k := 570) (by decide +kernel) rfl
theorem lk_X3_15 : Cond.fieldLink RX3 15 (TX3 1).1 (TX3 1).2.1 (TX3 1).2.2.1 ∈ jTW := jTW_mem (k := 571) (by decide +kernel) rfl
theorem lk_X3_19 : Cond.fieldLink RX3 19 (TX3 2).1 (TX3 2).2.1 (TX3 2).2.2.1 ∈ jTW := jTW_mem (k := 572) (by decide +kernel) rfl
theorem lk_X3_22 : Cond.fieldLink RX3 22 (TX3 3).1 (TX3 3).2.1 (TX3 3).2.2.1 ∈ jTW := jTW_mem (k := 573) (by decide +kernel) rfl
def D_X3_init : JD := (RX3, cX3_init, 1, none, "<init>", { frames := 1, cells := 3, slots := 60, locals := 20 })
theorem okc_X3 : jOkC D_X3_init yX3_init 0 := ⟨⟨jTW_mem (k := 568) (by decide +kernel) rfl, rfl⟩, jTW_mem (k := 149) (by decide +kernel) rfl, ⟨by decide +kernel, by decide +kernel⟩, by decide +kernel, rfl, jTW_mem (k := 567) (by decide +kernel) rfl⟩
theorem d_X3_init_0 : decode (D_X3_init).2.1 0 = .ok (.aload_n 0, 1) := by decide +kernel
theorem d_X3_init_1 : decode (D_X3_init).2.1 1 = .ok (.invokespecial 3, 3) := by decide +kernel
theorem d_X3_init_4 : decode (D_X3_init).2.1 4 = .ok (.aload_n 0, 1) := by decide +kernel
theorem d_X3_init_5 : decode (D_X3_init).2.1 5 = .ok (.iconst 0, 1) := by decide +kernel
theorem d_X3_init_6 : decode (D_X3_init).2.1 6 = .ok (.putfield 9, 3) := by decide +kernel
theorem d_X3_init_9 : decode (D_X3_init).2.1 9 = .ok (.aload_n 0, 1) := by decide +kernel
theorem d_X3_init_10 : decode (D_X3_init).2.1 10 = .ok (.bipush 20, 2) := by decide +kernel
theorem d_X3_init_12 : decode (D_X3_init).2.1 12 = .ok (.newarray .int, 2) := by decide +kernel
theorem d_X3_init_14 : decode (D_X3_init).2.1 14 = .ok (.putfield 15, 3) := by decide +kernel
theorem d_X3_init_17 : decode (D_X3_init).2.1 17 = .ok (.aload_n 0, 1) := by decide +kernel
theorem d_X3_init_18 : decode (D_X3_init).2.1 18 = .ok (.bipush 20, 2) := by decide +kernel
theorem d_X3_init_20 : decode (D_X3_init).2.1 20 = .ok (.newarray .int, 2) := by decide +kernel
theorem d_X3_init_22 : decode (D_X3_init).2.1 22 = .ok (.putfield 19, 3) := by decide +kernel
theorem d_X3_init_25 : decode (D_X3_init).2.1 25 = .ok (.aload_n 0, 1) := by decide +kernel
theorem d_X3_init_26 : decode (D_X3_init).2.1 26 = .ok (.bipush 20, 2) := by decide +kernel
theorem d_X3_init_28 : decode (D_X3_init).2.1 28 = .ok (.newarray .int, 2) := by decide +kernel
theorem d_X3_init_30 : decode (D_X3_init).2.1 30 = .ok (.putfield 22, 3) := by decide +kernel
theorem d_X3_init_33 : decode (D_X3_init).2.1 33 = .ok (.return_, 1) := by decide +kernel
def cM_X3 (M : JMem) : JMem := (jz (jz (jz (jup M 82 0 0) 83) 84) 85)
def cR_X3 (ρ : JRho) : JRho := (jsr (jzr (jsr (jzr (jsr (jzr ρ 83) 82 1 83) 84) 82 2 84) 85) 82 3 85)
set_option maxRecDepth 8000 in
theorem c_X3 {g : JG} (ρ : JRho) (M : JMem) (w0 : jwf 83 ρ) : jMetC g D_X3_init yX3_init [.ref 82] 83 86 ρ (cR_X3 ρ) M (cM_X3 M) := by
  have hj : jNN = 186 := rfl
  refine jMetC.of (lo0 := [some (.ref 82)]) (by decide) rfl rfl (fun ad => (Nat.le_of_ble_eq_true rfl)) (And.intro rfl True.intro) (fun ad0 s0 => ?_)
  have g0 : jag 83 ad0 ad0 := jag.rf
  unfold cM_X3 cR_X3
  refine jo_aload 0 d_X3_init_0 rfl rfl ?_
  refine jo_obj lm_X3_3 (Nat.le_of_ble_eq_true rfl) (Nat.le_of_ble_eq_true rfl) d_X3_init_1 ?_
  refine jo_aload 0 d_X3_init_4 rfl rfl ?_
  refine jo_iconst 0 d_X3_init_5 ?_
  refine jo_putIC (k := 0) cl_3 (Nat.le_of_ble_eq_true rfl) lk_X3_9 rfl rfl (And.intro (by omega) (by decide +kernel : jG 82 = (0, 3))) d_X3_init_6 ?_
  refine jo_aload 0 d_X3_init_9 rfl rfl ?_
  refine jo_bipush 20 d_X3_init_10 (by decide) ?_
  refine jo_newI (N := 20) (a0 := 82) (by decide +kernel : jG 83 = (1, 20)) (by omega) (by omega) w0 ar_int (by decide +kernel) (by decide +kernel) (Nat.le_of_ble_eq_true rfl) (And.intro (jvo_lt (by omega)) True.intro) (And.intro (jvo_lt (by omega)) True.intro) (And.intro (Nat.le_of_ble_eq_true rfl) (Nat.le_of_ble_eq_true rfl)) d_X3_init_12 (fun ad1 h1 => ?_)
  have g1 := g0.tr h1 (by omega)
  have s1 := s0.ag h1
  have w1 := jwf_new w0
  refine jo_putR (k := 1) cl_3 (Nat.le_of_ble_eq_true rfl) lk_X3_15 rfl rfl rfl rfl (And.intro (by omega) (by decide +kernel : jG 82 = (0, 3))) d_X3_init_14 ?_
  have w2 := jwf_set (a := 82) (k := 1) (b := 83) w1 (by omega) (by decide)
  refine jo_aload 0 d_X3_init_17 rfl rfl ?_
  refine jo_bipush 20 d_X3_init_18 (by decide) ?_
  refine jo_newI (N := 20) (a0 := 82) (by decide +kernel : jG 84 = (1, 20)) (by omega) (by omega) w2 ar_int (by decide +kernel) (by decide +kernel) (Nat.le_of_ble_eq_true rfl) (And.intro (jvo_lt (by omega)) True.intro) (And.intro (jvo_lt (by omega)) True.intro) (And.intro (Nat.le_of_ble_eq_true rfl) (Nat.le_of_ble_eq_true rfl)) d_X3_init_20 (fun ad2 h2 => ?_)
  have g2 := g1.tr h2 (by omega)
  have s2 := s1.ag h2
  have w3 := jwf_new w2
  refine jo_putR (k := 2) cl_3 (Nat.le_of_ble_eq_true rfl) lk_X3_19 rfl rfl rfl rfl (And.intro (by omega) (by decide +kernel : jG 82 = (0, 3))) d_X3_init_22 ?_
  have w4 := jwf_set (a := 82) (k := 2) (b := 84) w3 (by omega) (by decide)
  refine jo_aload 0 d_X3_init_25 rfl rfl ?_
  refine jo_bipush 20 d_X3_init_26 (by decide) ?_
  refine jo_newI (N := 20) (a0 := 82) (by decide +kernel : jG 85 = (1, 20)) (by omega) (by omega) w4 ar_int (by decide +kernel) (by decide +kernel) (Nat.le_of_ble_eq_true rfl) (And.intro (jvo_lt (by omega)) True.intro) (And.intro (jvo_lt (by omega)) True.intro) (And.intro (Nat.le_of_ble_eq_true rfl) (Nat.le_of_ble_eq_true rfl)) d_X3_init_28 (fun ad3 h3 => ?_)
  have g3 := g2.tr h3 (by omega)
  have s3 := s2.ag h3
  have w5 := jwf_new w4
  refine jo_putR (k := 3) cl_3 (Nat.le_of_ble_eq_true rfl) lk_X3_22 rfl rfl rfl rfl (And.intro (by omega) (by decide +kernel : jG 82 = (0, 3))) d_X3_init_30 ?_
  have w6 := jwf_set (a := 82) (k := 3) (b := 85) w5 (by omega) (by decide)
  exact jo_cret g3 rfl d_X3_init_33 (And.intro (Nat.le_refl _) (Nat.le_refl _))
theorem cw_X3 (ρ : JRho) (w0 : jwf 83 ρ) : jwf 86 (cR_X3 ρ) := by
  unfold cR_X3
  have w1 := jwf_new w0
  have w2 := jwf_set (a := 82) (k := 1) (b := 83) w1 (by omega) (by decide)
  have w3 := jwf_new w2
  have w4 := jwf_set (a := 82) (k := 2) (b := 84) w3 (by omega) (by decide)
  have w5 := jwf_new w4
  have w6 := jwf_set (a := 82) (k := 3) (b := 85) w5 (by omega) (by decide)
  exact w6
theorem lm_X0_3 : Cond.methodLink RX0 3 Lib.objectInit ∈ jTW := jTW_mem (k := 588) (by decide +kernel) rfl
theorem lk_X0_9 : Cond.fieldLink RX0 9 (TX0 0).1 (TX0 0).2.1 (TX0 0).2.2.1 ∈ jTW := jTW_mem (k := 589) (by decide +kernel) rfl
theorem lk_X0_15 : Cond.fieldLink RX0 15 (TX0 1).1 (TX0 1).2.1 (TX0 1).2.2.1 ∈ jTW := jTW_mem (k := 591) (by decide +kernel) rfl
theorem lk_X0_19 : Cond.fieldLink RX0 19 (TX0 2).1 (TX0 2).2.1 (TX0 2).2.2.1 ∈ jTW := jTW_mem (k := 593) (by decide +kernel) rfl
theorem lk_X0_22 : Cond.fieldLink RX0 22 (TX0 3).1 (TX0 3).2.1 (TX0 3).2.2.1 ∈ jTW := jTW_mem (k := 594) (by decide +kernel) rfl
theorem lk_X0_27 : Cond.fieldLink RX0 27 (TX0 4).1 (TX0 4).2.1 (TX0 4).2.2.1 ∈ jTW := jTW_mem (k := 595) (by decide +kernel) rfl
def D_X0_init : JD := (RX0, cX0_init, 1, none, "<init>", { frames := 1, cells := 2, slots := 65, locals := 20 })
theorem okc_X0 : jOkC D_X0_init yX0_init 0 := ⟨⟨jTW_mem (k := 587) (by decide +kernel) rfl, rfl⟩, jTW_mem (k := 150) (by decide +kernel) rfl, ⟨by decide +kernel, by decide +kernel⟩, by decide +kernel, rfl, jTW_mem (k := 586) (by decide +kernel) rfl⟩
theorem d_X0_init_0 : decode (D_X0_init).2.1 0 = .ok (.aload_n 0, 1) := by decide +kernel
theorem d_X0_init_1 : decode (D_X0_init).2.1 1 = .ok (.invokespecial 3, 3) := by decide +kernel
theorem d_X0_init_4 : decode (D_X0_init).2.1 4 = .ok (.aload_n 0, 1) := by decide +kernel
theorem d_X0_init_5 : decode (D_X0_init).2.1 5 = .ok (.iconst (-1), 1) := by decide +kernel
theorem d_X0_init_6 : decode (D_X0_init).2.1 6 = .ok (.putfield 9, 3) := by decide +kernel
theorem d_X0_init_9 : decode (D_X0_init).2.1 9 = .ok (.aload_n 0, 1) := by decide +kernel
theorem d_X0_init_10 : decode (D_X0_init).2.1 10 = .ok (.iconst 5, 1) := by decide +kernel
theorem d_X0_init_11 : decode (D_X0_init).2.1 11 = .ok (.newarray .int, 2) := by decide +kernel
theorem d_X0_init_13 : decode (D_X0_init).2.1 13 = .ok (.putfield 15, 3) := by decide +kernel
theorem d_X0_init_16 : decode (D_X0_init).2.1 16 = .ok (.aload_n 0, 1) := by decide +kernel
theorem d_X0_init_17 : decode (D_X0_init).2.1 17 = .ok (.iconst 0, 1) := by decide +kernel
theorem d_X0_init_18 : decode (D_X0_init).2.1 18 = .ok (.putfield 19, 3) := by decide +kernel
theorem d_X0_init_21 : decode (D_X0_init).2.1 21 = .ok (.aload_n 0, 1) := by decide +kernel
theorem d_X0_init_22 : decode (D_X0_init).2.1 22 = .ok (.iconst 0, 1) := by decide +kernel
theorem d_X0_init_23 : decode (D_X0_init).2.1 23 = .ok (.putfield 22, 3) := by decide +kernel
theorem d_X0_init_26 : decode (D_X0_init).2.1 26 = .ok (.aload_n 0, 1) := by decide +kernel
theorem d_X0_init_27 : decode (D_X0_init).2.1 27 = .ok (.bipush 60, 2) := by decide +kernel
theorem d_X0_init_29 : decode (D_X0_init).2.1 29 = .ok (.newarray .int, 2) := by decide +kernel
theorem d_X0_init_31 : decode (D_X0_init).2.1 31 = .ok (.putfield 27, 3) := by decide +kernel
theorem d_X0_init_34 : decode (D_X0_init).2.1 34 = .ok (.return_, 1) := by decide +kernel
def cM_X0 (a : Nat) (M : JMem) : JMem := (jz (jup (jup (jz (jup M a 0 (-1)) (a + 1)) a 2 0) a 3 0) (a + 2))
def cR_X0 (a : Nat) (ρ : JRho) : JRho := (jsr (jzr (jsr (jzr ρ (a + 1)) a 1 (a + 1)) (a + 2)) a 4 (a + 2))
set_option maxRecDepth 8000 in
theorem c_X0 {g : JG} (a : Nat) (h : jK jNN (0, 0) a) (ρ : JRho) (M : JMem) (w0 : jwf (a + 1) ρ) : jMetC g D_X0_init yX0_init [.ref a] (a + 1) (a + 3) ρ (cR_X0 a ρ) M (cM_X0 a M) := by
  have hj : jNN = 186 := rfl
  have ha := h.1
  refine jMetC.of (lo0 := [some (.ref a)]) (by decide) rfl rfl (fun ad => (Nat.le_of_ble_eq_true rfl)) (And.intro rfl True.intro) (fun ad0 s0 => ?_)
  have g0 : jag (a + 1) ad0 ad0 := jag.rf
  unfold cM_X0 cR_X0
  refine jo_aload 0 d_X0_init_0 rfl rfl ?_
  refine jo_obj lm_X0_3 (Nat.le_of_ble_eq_true rfl) (Nat.le_of_ble_eq_true rfl) d_X0_init_1 ?_
  refine jo_aload 0 d_X0_init_4 rfl rfl ?_
  refine jo_iconst (-1) d_X0_init_5 ?_
  refine jo_putIC (k := 0) cl_0 (Nat.le_of_ble_eq_true rfl) lk_X0_9 rfl rfl (And.intro (by omega) h.2) d_X0_init_6 ?_
  refine jo_aload 0 d_X0_init_9 rfl rfl ?_
  refine jo_iconst 5 d_X0_init_10 ?_
  refine jo_newI (N := 5) (a0 := a) (ka_Life_1 h).2 (by omega) (by omega) w0 ar_int (by decide +kernel) (by decide +kernel) (Nat.le_of_ble_eq_true rfl) (And.intro (jvo_lt (by omega)) True.intro) (And.intro (jvo_lt (by omega)) True.intro) (And.intro (Nat.le_of_ble_eq_true rfl) (Nat.le_of_ble_eq_true rfl)) d_X0_init_11 (fun ad1 h1 => ?_)
  have g1 := g0.tr h1 (by omega)
  have s1 := s0.ag h1
  have w1 := jwf_new w0
  refine jo_putR (k := 1) cl_0 (Nat.le_of_ble_eq_true rfl) lk_X0_15 rfl rfl rfl rfl (And.intro (by omega) h.2) d_X0_init_13 ?_
  have w2 := jwf_set (a := a) (k := 1) (b := (a + 1)) w1 (by omega) (by decide)
  refine jo_aload 0 d_X0_init_16 rfl rfl ?_
  refine jo_iconst 0 d_X0_init_17 ?_
  refine jo_putIC (k := 2) cl_0 (Nat.le_of_ble_eq_true rfl) lk_X0_19 rfl rfl (And.intro (by omega) h.2) d_X0_init_18 ?_
  refine jo_aload 0 d_X0_init_21 rfl rfl ?_
  refine jo_iconst 0 d_X0_init_22 ?_
  refine jo_putIC (k := 3) cl_0 (Nat.le_of_ble_eq_true rfl) lk_X0_22 rfl rfl (And.intro (by omega) h.2) d_X0_init_23 ?_
  refine jo_aload 0 d_X0_init_26 rfl rfl ?_
  refine jo_bipush 60 d_X0_init_27 (by decide) ?_
  refine jo_newI (N := 60) (a0 := a) (ka_Life_4 h).2 (by omega) (by omega) w2 ar_int (by decide +kernel) (by decide +kernel) (Nat.le_of_ble_eq_true rfl) (And.intro (jvo_lt (by omega)) True.intro) (And.intro (jvo_lt (by omega)) True.intro) (And.intro (Nat.le_of_ble_eq_true rfl) (Nat.le_of_ble_eq_true rfl)) d_X0_init_29 (fun ad2 h2 => ?_)
  have g2 := g1.tr h2 (by omega)
  have s2 := s1.ag h2
  have w3 := jwf_new w2
  refine jo_putR (k := 4) cl_0 (Nat.le_of_ble_eq_true rfl) lk_X0_27 rfl rfl rfl rfl (And.intro (by omega) h.2) d_X0_init_31 ?_
  have w4 := jwf_set (a := a) (k := 4) (b := (a + 2)) w3 (by omega) (by decide)
  exact jo_cret g2 rfl d_X0_init_34 (And.intro (Nat.le_refl _) (Nat.le_refl _))
theorem cw_X0 (a : Nat) (ρ : JRho) (w0 : jwf (a + 1) ρ) : jwf (a + 3) (cR_X0 a ρ) := by
  unfold cR_X0
  have w1 := jwf_new w0
  have w2 := jwf_set (a := a) (k := 1) (b := (a + 1)) w1 (by omega) (by decide)
  have w3 := jwf_new w2
  have w4 := jwf_set (a := a) (k := 4) (b := (a + 2)) w3 (by omega) (by decide)
  exact w4
theorem lm_X2_3 : Cond.methodLink RX2 3 Lib.objectInit ∈ jTW := jTW_mem (k := 294) (by decide +kernel) rfl
theorem lc_X2_9 : Cond.classLink RX2 9 RX4 ∈ jTW := jTW_mem (k := 295) (by decide +kernel) rfl
theorem it_X4 : Cond.instantiable RX4 16 ∈ jTW := jTW_mem (k := 296) (by decide +kernel) rfl
theorem iz_X4 : Cond.initialized RX4 ∈ jTW := jTW_mem (k := 143) (by decide +kernel) rfl
theorem lm_X2_11 : Cond.methodLinkNest RX2 11 yX4_init "CageLeave" ∈ jNW := by decide +kernel
theorem lk_X2_12 : Cond.fieldLink RX2 12 (TX2 1).1 (TX2 1).2.1 (TX2 1).2.2.1 ∈ jTW := jTW_mem (k := 455) (by decide +kernel) rfl
theorem lc_X2_18 : Cond.classLink RX2 18 RX1 ∈ jTW := jTW_mem (k := 394) (by decide +kernel) rfl
theorem it_X1 : Cond.instantiable RX1 12 ∈ jTW := jTW_mem (k := 395) (by decide +kernel) rfl
theorem iz_X1 : Cond.initialized RX1 ∈ jTW := jTW_mem (k := 144) (by decide +kernel) rfl
theorem lm_X2_20 : Cond.methodLinkNest RX2 20 yX1_init "CageLeave" ∈ jNW := by decide +kernel
theorem lk_X2_21 : Cond.fieldLink RX2 21 (TX2 2).1 (TX2 2).2.1 (TX2 2).2.2.1 ∈ jTW := jTW_mem (k := 457) (by decide +kernel) rfl
theorem lk_X2_25 : Cond.fieldLink RX2 25 (TX2 3).1 (TX2 3).2.1 (TX2 3).2.2.1 ∈ jTW := jTW_mem (k := 459) (by decide +kernel) rfl
theorem lk_X2_29 : Cond.fieldLink RX2 29 (TX2 0).1 (TX2 0).2.1 (TX2 0).2.2.1 ∈ jTW := jTW_mem (k := 454) (by decide +kernel) rfl
def D_X2_init : JD := (RX2, cX2_init, 2, none, "<init>", { frames := 2, cells := 20, slots := 212, locals := 40 })
theorem okc_X2 : jOkC D_X2_init yX2_init 1 := ⟨⟨jTW_mem (k := 293) (by decide +kernel) rfl, rfl⟩, jTW_mem (k := 142) (by decide +kernel) rfl, ⟨by decide +kernel, by decide +kernel⟩, by decide +kernel, rfl, jTW_mem (k := 292) (by decide +kernel) rfl⟩
theorem d_X2_init_0 : decode (D_X2_init).2.1 0 = .ok (.aload_n 0, 1) := by decide +kernel
theorem d_X2_init_1 : decode (D_X2_init).2.1 1 = .ok (.invokespecial 3, 3) := by decide +kernel
theorem d_X2_init_4 : decode (D_X2_init).2.1 4 = .ok (.aload_n 0, 1) := by decide +kernel
theorem d_X2_init_5 : decode (D_X2_init).2.1 5 = .ok (.new 9, 3) := by decide +kernel
theorem d_X2_init_8 : decode (D_X2_init).2.1 8 = .ok (.dup, 1) := by decide +kernel
theorem d_X2_init_9 : decode (D_X2_init).2.1 9 = .ok (.invokespecial 11, 3) := by decide +kernel
theorem d_X2_init_12 : decode (D_X2_init).2.1 12 = .ok (.putfield 12, 3) := by decide +kernel
theorem d_X2_init_15 : decode (D_X2_init).2.1 15 = .ok (.aload_n 0, 1) := by decide +kernel
theorem d_X2_init_16 : decode (D_X2_init).2.1 16 = .ok (.new 18, 3) := by decide +kernel
theorem d_X2_init_19 : decode (D_X2_init).2.1 19 = .ok (.dup, 1) := by decide +kernel
theorem d_X2_init_20 : decode (D_X2_init).2.1 20 = .ok (.invokespecial 20, 3) := by decide +kernel
theorem d_X2_init_23 : decode (D_X2_init).2.1 23 = .ok (.putfield 21, 3) := by decide +kernel
theorem d_X2_init_26 : decode (D_X2_init).2.1 26 = .ok (.aload_n 0, 1) := by decide +kernel
theorem d_X2_init_27 : decode (D_X2_init).2.1 27 = .ok (.iconst 0, 1) := by decide +kernel
theorem d_X2_init_28 : decode (D_X2_init).2.1 28 = .ok (.putfield 25, 3) := by decide +kernel
theorem d_X2_init_31 : decode (D_X2_init).2.1 31 = .ok (.aload_n 0, 1) := by decide +kernel
theorem d_X2_init_32 : decode (D_X2_init).2.1 32 = .ok (.aload_n 1, 1) := by decide +kernel
theorem d_X2_init_33 : decode (D_X2_init).2.1 33 = .ok (.putfield 29, 3) := by decide +kernel
theorem d_X2_init_36 : decode (D_X2_init).2.1 36 = .ok (.return_, 1) := by decide +kernel
def cM_X2 (M : JMem) : JMem := (jup (cM_X1 25 (jz (cM_X4 13 (jz M 13)) 25)) 12 3 0)
def cR_X2 (ρ : JRho) : JRho := (jsr (jsr (cR_X1 25 (jzr (jsr (cR_X4 13 (jzr ρ 13)) 12 1 13) 25)) 12 2 25) 12 0 9)
set_option maxRecDepth 8000 in
theorem c_X2 {g : JG} (ρ : JRho) (M : JMem) (w0 : jwf 13 ρ) : jMetC g D_X2_init yX2_init [.ref 12, .ref 9] 13 33 ρ (cR_X2 ρ) M (cM_X2 M) := by
  have hj : jNN = 186 := rfl
  refine jMetC.of (lo0 := [some (.ref 12), some (.ref 9)]) (by decide) rfl rfl (fun ad => (Nat.le_of_ble_eq_true rfl)) (And.intro rfl (And.intro rfl True.intro)) (fun ad0 s0 => ?_)
  have g0 : jag 13 ad0 ad0 := jag.rf
  unfold cM_X2 cR_X2
  refine jo_aload 0 d_X2_init_0 rfl rfl ?_
  refine jo_obj lm_X2_3 (Nat.le_of_ble_eq_true rfl) (Nat.le_of_ble_eq_true rfl) d_X2_init_1 ?_
  refine jo_aload 0 d_X2_init_4 rfl rfl ?_
  refine jo_new (a0 := 12) cl_4 fd_4 (by decide +kernel : jG 13 = (0, 4)) (by omega) (by omega) w0 lc_X2_9 it_X4 iz_X4 (And.intro (jvo_lt (by omega)) (And.intro (jvo_lt (by omega)) True.intro)) (And.intro (jvo_lt (by omega)) True.intro) (And.intro (Nat.le_of_ble_eq_true rfl) (Nat.le_of_ble_eq_true rfl)) d_X2_init_5 (fun ad1 h1 => ?_)
  have g1 := g0.tr h1 (by omega)
  have s1 := s0.ag h1
  have w1 := jwf_new w0
  refine jo_dup d_X2_init_8 rfl ?_
  refine jo_callCN (st := [.ref 13, .ref 12]) s1 (c_X4 13 (And.intro (Nat.le_of_ble_eq_true rfl) (by decide +kernel)) (jzr ρ 13) (jz M 13) w1) okc_X4 (And.intro (Nat.le_of_ble_eq_true rfl) (Nat.le_of_ble_eq_true rfl)) lm_X2_11 rfl (And.intro (Nat.le_of_ble_eq_true rfl) (Nat.le_of_ble_eq_true rfl)) (And.intro (jvo_lt (by omega)) (And.intro (jvo_lt (by omega)) True.intro)) (And.intro (jvo_lt (by omega)) (And.intro (jvo_lt (by omega)) True.intro)) rfl (Nat.le_of_ble_eq_true rfl) d_X2_init_9 (fun ad2 h2 => ?_)
  have g2 := g1.tr h2 (by omega)
  have s2 := s1.ag h2
  have w2 := cw_X4 13 (jzr ρ 13) w1
  refine jo_putR (k := 1) cl_2 (Nat.le_of_ble_eq_true rfl) lk_X2_12 rfl rfl rfl rfl (And.intro (by omega) (by decide +kernel : jG 12 = (0, 2))) d_X2_init_12 ?_
  have w3 := jwf_set (a := 12) (k := 1) (b := 13) w2 (by omega) (by decide)
  refine jo_aload 0 d_X2_init_15 rfl rfl ?_
  refine jo_new (a0 := 12) cl_1 fd_1 (by decide +kernel : jG 25 = (0, 1)) (by omega) (by omega) w3 lc_X2_18 it_X1 iz_X1 (And.intro (jvo_lt (by omega)) (And.intro (jvo_lt (by omega)) True.intro)) (And.intro (jvo_lt (by omega)) True.intro) (And.intro (Nat.le_of_ble_eq_true rfl) (Nat.le_of_ble_eq_true rfl)) d_X2_init_16 (fun ad3 h3 => ?_)
  have g3 := g2.tr h3 (by omega)
  have s3 := s2.ag h3
  have w4 := jwf_new w3
  refine jo_dup d_X2_init_19 rfl ?_
  refine jo_callCN (st := [.ref 25, .ref 12]) s3 (c_X1 25 (And.intro (Nat.le_of_ble_eq_true rfl) (by decide +kernel)) (jzr (jsr (cR_X4 13 (jzr ρ 13)) 12 1 13) 25) (jz (cM_X4 13 (jz M 13)) 25) w4) okc_X1 (And.intro (Nat.le_of_ble_eq_true rfl) (Nat.le_of_ble_eq_true rfl)) lm_X2_20 rfl (And.intro (Nat.le_of_ble_eq_true rfl) (Nat.le_of_ble_eq_true rfl)) (And.intro (jvo_lt (by omega)) (And.intro (jvo_lt (by omega)) True.intro)) (And.intro (jvo_lt (by omega)) (And.intro (jvo_lt (by omega)) True.intro)) rfl (Nat.le_of_ble_eq_true rfl) d_X2_init_20 (fun ad4 h4 => ?_)
  have g4 := g3.tr h4 (by omega)
  have s4 := s3.ag h4
  have w5 := cw_X1 25 (jzr (jsr (cR_X4 13 (jzr ρ 13)) 12 1 13) 25) w4
  refine jo_putR (k := 2) cl_2 (Nat.le_of_ble_eq_true rfl) lk_X2_21 rfl rfl rfl rfl (And.intro (by omega) (by decide +kernel : jG 12 = (0, 2))) d_X2_init_23 ?_
  have w6 := jwf_set (a := 12) (k := 2) (b := 25) w5 (by omega) (by decide)
  refine jo_aload 0 d_X2_init_26 rfl rfl ?_
  refine jo_iconst 0 d_X2_init_27 ?_
  refine jo_putZC (k := 3) (by decide) cl_2 (Nat.le_of_ble_eq_true rfl) lk_X2_25 rfl rfl (And.intro (by omega) (by decide +kernel : jG 12 = (0, 2))) d_X2_init_28 ?_
  refine jo_aload 0 d_X2_init_31 rfl rfl ?_
  refine jo_aload 1 d_X2_init_32 rfl rfl ?_
  refine jo_putR (k := 0) cl_2 (Nat.le_of_ble_eq_true rfl) lk_X2_29 rfl rfl rfl rfl (And.intro (by omega) (by decide +kernel : jG 12 = (0, 2))) d_X2_init_33 ?_
  have w7 := jwf_set (a := 12) (k := 0) (b := 9) w6 (by omega) (by decide)
  exact jo_cret g4 rfl d_X2_init_36 (And.intro (Nat.le_refl _) (Nat.le_refl _))
theorem cw_X2 (ρ : JRho) (w0 : jwf 13 ρ) : jwf 33 (cR_X2 ρ) := by
  unfold cR_X2
  have w1 := jwf_new w0
  have w2 := cw_X4 13 (jzr ρ 13) w1
  have w3 := jwf_set (a := 12) (k := 1) (b := 13) w2 (by omega) (by decide)
  have w4 := jwf_new w3
  have w5 := cw_X1 25 (jzr (jsr (cR_X4 13 (jzr ρ 13)) 12 1 13) 25) w4
  have w6 := jwf_set (a := 12) (k := 2) (b := 25) w5 (by omega) (by decide)
  have w7 := jwf_set (a := 12) (k := 0) (b := 9) w6 (by omega) (by decide)
  exact w7
theorem lm_X10_3 : Cond.methodLink RX10 3 Lib.objectInit ∈ jTW := jTW_mem (k := 474) (by decide +kernel) rfl
theorem lc_X10_9 : Cond.classLink RX10 9 RX9 ∈ jTW := jTW_mem (k := 475) (by decide +kernel) rfl
theorem it_X9 : Cond.instantiable RX9 7 ∈ jTW := jTW_mem (k := 476) (by decide +kernel) rfl
theorem iz_X9 : Cond.initialized RX9 ∈ jTW := jTW_mem (k := 146) (by decide +kernel) rfl
theorem lm_X10_11 : Cond.methodLinkNest RX10 11 yX9_init "CageLeave" ∈ jNW := by decide +kernel
theorem lk_X10_12 : Cond.fieldLink RX10 12 (TX10 1).1 (TX10 1).2.1 (TX10 1).2.2.1 ∈ jTW := jTW_mem (k := 515) (by decide +kernel) rfl
theorem lk_X10_18 : Cond.fieldLink RX10 18 (TX10 2).1 (TX10 2).2.1 (TX10 2).2.2.1 ∈ jTW := jTW_mem (k := 517) (by decide +kernel) rfl
theorem lk_X10_22 : Cond.fieldLink RX10 22 (TX10 3).1 (TX10 3).2.1 (TX10 3).2.2.1 ∈ jTW := jTW_mem (k := 518) (by decide +kernel) rfl
theorem lk_X10_26 : Cond.fieldLink RX10 26 (TX10 0).1 (TX10 0).2.1 (TX10 0).2.2.1 ∈ jTW := jTW_mem (k := 514) (by decide +kernel) rfl
def D_X10_init : JD := (RX10, cX10_init, 2, none, "<init>", { frames := 2, cells := 6, slots := 250, locals := 40 })
theorem okc_X10 : jOkC D_X10_init yX10_init 1 := ⟨⟨jTW_mem (k := 473) (by decide +kernel) rfl, rfl⟩, jTW_mem (k := 145) (by decide +kernel) rfl, ⟨by decide +kernel, by decide +kernel⟩, by decide +kernel, rfl, jTW_mem (k := 472) (by decide +kernel) rfl⟩
theorem d_X10_init_0 : decode (D_X10_init).2.1 0 = .ok (.aload_n 0, 1) := by decide +kernel
theorem d_X10_init_1 : decode (D_X10_init).2.1 1 = .ok (.invokespecial 3, 3) := by decide +kernel
theorem d_X10_init_4 : decode (D_X10_init).2.1 4 = .ok (.aload_n 0, 1) := by decide +kernel
theorem d_X10_init_5 : decode (D_X10_init).2.1 5 = .ok (.new 9, 3) := by decide +kernel
theorem d_X10_init_8 : decode (D_X10_init).2.1 8 = .ok (.dup, 1) := by decide +kernel
theorem d_X10_init_9 : decode (D_X10_init).2.1 9 = .ok (.invokespecial 11, 3) := by decide +kernel
theorem d_X10_init_12 : decode (D_X10_init).2.1 12 = .ok (.putfield 12, 3) := by decide +kernel
theorem d_X10_init_15 : decode (D_X10_init).2.1 15 = .ok (.aload_n 0, 1) := by decide +kernel
theorem d_X10_init_16 : decode (D_X10_init).2.1 16 = .ok (.iconst 3, 1) := by decide +kernel
theorem d_X10_init_17 : decode (D_X10_init).2.1 17 = .ok (.newarray .int, 2) := by decide +kernel
theorem d_X10_init_19 : decode (D_X10_init).2.1 19 = .ok (.putfield 18, 3) := by decide +kernel
theorem d_X10_init_22 : decode (D_X10_init).2.1 22 = .ok (.aload_n 0, 1) := by decide +kernel
theorem d_X10_init_23 : decode (D_X10_init).2.1 23 = .ok (.iconst 0, 1) := by decide +kernel
theorem d_X10_init_24 : decode (D_X10_init).2.1 24 = .ok (.putfield 22, 3) := by decide +kernel
theorem d_X10_init_27 : decode (D_X10_init).2.1 27 = .ok (.aload_n 0, 1) := by decide +kernel
theorem d_X10_init_28 : decode (D_X10_init).2.1 28 = .ok (.aload_n 1, 1) := by decide +kernel
theorem d_X10_init_29 : decode (D_X10_init).2.1 29 = .ok (.putfield 26, 3) := by decide +kernel
theorem d_X10_init_32 : decode (D_X10_init).2.1 32 = .ok (.return_, 1) := by decide +kernel
def cM_X10 (M : JMem) : JMem := (jup (jz (cM_X9 34 (jz M 34)) 39) 33 3 0)
def cR_X10 (ρ : JRho) : JRho := (jsr (jsr (jzr (jsr (cR_X9 34 (jzr ρ 34)) 33 1 34) 39) 33 2 39) 33 0 9)
set_option maxRecDepth 8000 in
theorem c_X10 {g : JG} (ρ : JRho) (M : JMem) (w0 : jwf 34 ρ) : jMetC g D_X10_init yX10_init [.ref 33, .ref 9] 34 40 ρ (cR_X10 ρ) M (cM_X10 M) := by
  have hj : jNN = 186 := rfl
  refine jMetC.of (lo0 := [some (.ref 33), some (.ref 9)]) (by decide) rfl rfl (fun ad => (Nat.le_of_ble_eq_true rfl)) (And.intro rfl (And.intro rfl True.intro)) (fun ad0 s0 => ?_)
  have g0 : jag 34 ad0 ad0 := jag.rf
  unfold cM_X10 cR_X10
  refine jo_aload 0 d_X10_init_0 rfl rfl ?_
  refine jo_obj lm_X10_3 (Nat.le_of_ble_eq_true rfl) (Nat.le_of_ble_eq_true rfl) d_X10_init_1 ?_
  refine jo_aload 0 d_X10_init_4 rfl rfl ?_
  refine jo_new (a0 := 33) cl_9 fd_9 (by decide +kernel : jG 34 = (0, 9)) (by omega) (by omega) w0 lc_X10_9 it_X9 iz_X9 (And.intro (jvo_lt (by omega)) (And.intro (jvo_lt (by omega)) True.intro)) (And.intro (jvo_lt (by omega)) True.intro) (And.intro (Nat.le_of_ble_eq_true rfl) (Nat.le_of_ble_eq_true rfl)) d_X10_init_5 (fun ad1 h1 => ?_)
  have g1 := g0.tr h1 (by omega)
  have s1 := s0.ag h1
  have w1 := jwf_new w0
  refine jo_dup d_X10_init_8 rfl ?_
  refine jo_callCN (st := [.ref 34, .ref 33]) s1 (c_X9 34 (And.intro (Nat.le_of_ble_eq_true rfl) (by decide +kernel)) (jzr ρ 34) (jz M 34) w1) okc_X9 (And.intro (Nat.le_of_ble_eq_true rfl) (Nat.le_of_ble_eq_true rfl)) lm_X10_11 rfl (And.intro (Nat.le_of_ble_eq_true rfl) (Nat.le_of_ble_eq_true rfl)) (And.intro (jvo_lt (by omega)) (And.intro (jvo_lt (by omega)) True.intro)) (And.intro (jvo_lt (by omega)) (And.intro (jvo_lt (by omega)) True.intro)) rfl (Nat.le_of_ble_eq_true rfl) d_X10_init_9 (fun ad2 h2 => ?_)
  have g2 := g1.tr h2 (by omega)
  have s2 := s1.ag h2
  have w2 := cw_X9 34 (jzr ρ 34) w1
  refine jo_putR (k := 1) cl_10 (Nat.le_of_ble_eq_true rfl) lk_X10_12 rfl rfl rfl rfl (And.intro (by omega) (by decide +kernel : jG 33 = (0, 10))) d_X10_init_12 ?_
  have w3 := jwf_set (a := 33) (k := 1) (b := 34) w2 (by omega) (by decide)
  refine jo_aload 0 d_X10_init_15 rfl rfl ?_
  refine jo_iconst 3 d_X10_init_16 ?_
  refine jo_newI (N := 3) (a0 := 33) (by decide +kernel : jG 39 = (1, 3)) (by omega) (by omega) w3 ar_int (by decide +kernel) (by decide +kernel) (Nat.le_of_ble_eq_true rfl) (And.intro (jvo_lt (by omega)) (And.intro (jvo_lt (by omega)) True.intro)) (And.intro (jvo_lt (by omega)) True.intro) (And.intro (Nat.le_of_ble_eq_true rfl) (Nat.le_of_ble_eq_true rfl)) d_X10_init_17 (fun ad3 h3 => ?_)
  have g3 := g2.tr h3 (by omega)
  have s3 := s2.ag h3
  have w4 := jwf_new w3
  refine jo_putR (k := 2) cl_10 (Nat.le_of_ble_eq_true rfl) lk_X10_18 rfl rfl rfl rfl (And.intro (by omega) (by decide +kernel : jG 33 = (0, 10))) d_X10_init_19 ?_
  have w5 := jwf_set (a := 33) (k := 2) (b := 39) w4 (by omega) (by decide)
  refine jo_aload 0 d_X10_init_22 rfl rfl ?_
  refine jo_iconst 0 d_X10_init_23 ?_
  refine jo_putIC (k := 3) cl_10 (Nat.le_of_ble_eq_true rfl) lk_X10_22 rfl rfl (And.intro (by omega) (by decide +kernel : jG 33 = (0, 10))) d_X10_init_24 ?_
  refine jo_aload 0 d_X10_init_27 rfl rfl ?_
  refine jo_aload 1 d_X10_init_28 rfl rfl ?_
  refine jo_putR (k := 0) cl_10 (Nat.le_of_ble_eq_true rfl) lk_X10_26 rfl rfl rfl rfl (And.intro (by omega) (by decide +kernel : jG 33 = (0, 10))) d_X10_init_29 ?_
  have w6 := jwf_set (a := 33) (k := 0) (b := 9) w5 (by omega) (by decide)
  exact jo_cret g3 rfl d_X10_init_32 (And.intro (Nat.le_refl _) (Nat.le_refl _))
theorem cw_X10 (ρ : JRho) (w0 : jwf 34 ρ) : jwf 40 (cR_X10 ρ) := by
  unfold cR_X10
  have w1 := jwf_new w0
  have w2 := cw_X9 34 (jzr ρ 34) w1
  have w3 := jwf_set (a := 33) (k := 1) (b := 34) w2 (by omega) (by decide)
  have w4 := jwf_new w3
  have w5 := jwf_set (a := 33) (k := 2) (b := 39) w4 (by omega) (by decide)
  have w6 := jwf_set (a := 33) (k := 0) (b := 9) w5 (by omega) (by decide)
  exact w6
end JCTOR

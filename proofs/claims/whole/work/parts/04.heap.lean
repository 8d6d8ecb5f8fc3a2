section JHEAP
variable {α : Type} {g : JG} {d : JD} {Qf : JQ α} {cs : Nat × Nat} {n : Nat} {ad : Nat → Nat} {ρ : JRho} {pc : Nat} {lo : List (Option Value)} {st : List Value} {M : JMem} {o : Option α}
/-- a cell of the world, of a kind -/
def jK (n : Nat) (kd : Nat × Nat) (a : Nat) : Prop := a < n ∧ jG a = kd
/-- what the tables say of a class of the world -/
def jCl (ci : Nat) (C : String) (T : u_T) (N : Nat) : Prop := vwCl[ci]? = some (C, T, N) ∧ (∀ w ∈ u_ws C T N, w ∈ jTW) ∧ (∀ k, k < N → parseFieldDescriptor (T k).2.2.1 = some (jty ci k)) ∧ (∀ a, a < N → ∀ b, b < N → a ≠ b → (T a).2.1 ≠ (T b).2.1) ∧ jN ci = N
theorem jE_obj {cy : Nat → ClassId} {ci : Nat} {m : Nat → Int} {r : Nat → Option Nat} : jE cy ad (0, ci) m r = .inr (ci, (List.range (jN ci)).map (fun k => jfv ad (jty ci k) (m k) (r k))) := rfl
theorem jat {kd : Nat × Nat} {a : Nat} (h : jK n kd a) : (jWl g.2.1 n ad ρ M)[a]? = some (ad a, jE g.2.1 ad kd (M a) (ρ a)) := by rw [jWl_get h.1, h.2]
theorem jfs_at {ci N k : Nat} {m : Nat → Int} {r : Nat → Option Nat} (hN : jN ci = N) (hk : k < N) : ((List.range (jN ci)).map (fun k => jfv ad (jty ci k) (m k) (r k)))[k]? = some (jfv ad (jty ci k) (m k) (r k)) := by
  rw [List.getElem?_map, List.getElem?_range (by omega)]
  rfl
theorem jo_getf {own ref' C : String} {T : u_T} {N ci k idx : Nat} {a : Nat} {v : Value} (hC : jCl ci C T N) (hk : k < N) (hlink : Cond.fieldLink d.1 idx (T k).1 (T k).2.1 (T k).2.2.1 ∈ jTW) (ha : jK n (0, ci) a) (hd : decode d.2.1 pc = .ok (.getfield idx, 3))
    (hv : jfv ad (jty ci k) (M a k) (ρ a k) = jmv ad v) (kk : jO g d Qf cs n ad ρ (pc + 3) lo (v :: st) M o) : jO g d Qf cs n ad ρ pc lo (.ref a :: st) M o := by
  intro x hx p e s m args below meth c H locs ls Cx hH hS hl
  obtain ⟨c1, c2, c3, c4, c5⟩ := hC
  obtain ⟨hx1, hb, hml, hr, hlk, hnm, hown, hts, hT, hX⟩ := id Cx
  exact va_get hx1 hb hts c2 hown hT.2 hH.1 a (jat ha) c1 k hk (hts _ hlink) (fun _ h => h) (jfs_at c5 hk) hd (by rw [hv]; exact kk x hx p e s m args below meth c H locs ls Cx hH hS hl)
theorem jo_getI {C : String} {T : u_T} {N ci k idx : Nat} {a : Nat} (hC : jCl ci C T N) (hk : k < N) (hlink : Cond.fieldLink d.1 idx (T k).1 (T k).2.1 (T k).2.2.1 ∈ jTW) (hty : jty ci k = .int ∨ jty ci k = .boolean) (ha : jK n (0, ci) a) (hd : decode d.2.1 pc = .ok (.getfield idx, 3))
    (kk : jO g d Qf cs n ad ρ (pc + 3) lo (ji (M a k) :: st) M o) : jO g d Qf cs n ad ρ pc lo (.ref a :: st) M o :=
  jo_getf (own := C) (ref' := C) hC hk hlink ha hd (by rcases hty with h | h <;> rw [h] <;> rfl) kk
theorem jo_getL {C : String} {T : u_T} {N ci k idx : Nat} {a : Nat} (hC : jCl ci C T N) (hk : k < N) (hlink : Cond.fieldLink d.1 idx (T k).1 (T k).2.1 (T k).2.2.1 ∈ jTW) (hty : jty ci k = .long) (ha : jK n (0, ci) a) (hd : decode d.2.1 pc = .ok (.getfield idx, 3))
    (kk : jO g d Qf cs n ad ρ (pc + 3) lo (jl (M a k) :: st) M o) : jO g d Qf cs n ad ρ pc lo (.ref a :: st) M o :=
  jo_getf (own := C) (ref' := C) hC hk hlink ha hd (by rw [hty]; rfl) kk
theorem jo_getR {C : String} {T : u_T} {N ci k idx : Nat} {a b : Nat} (hC : jCl ci C T N) (hk : k < N) (hlink : Cond.fieldLink d.1 idx (T k).1 (T k).2.1 (T k).2.2.1 ∈ jTW) (hty : (jty ci k).isReference = true) (ha : jK n (0, ci) a) (hb : ρ a k = some b) (hd : decode d.2.1 pc = .ok (.getfield idx, 3))
    (kk : jO g d Qf cs n ad ρ (pc + 3) lo (.ref b :: st) M o) : jO g d Qf cs n ad ρ pc lo (.ref a :: st) M o :=
  jo_getf (own := C) (ref' := C) hC hk hlink ha hd (by
    rw [hb]
    generalize hq : jty ci k = ty at hty
    cases ty <;> first | rfl | (exact absurd hty (by decide))) kk
theorem jrange_set {N k : Nat} {f f' : Nat → Value} {v : Value} (hk : k < N) (hv : f' k = v) (ho : ∀ j, j ≠ k → f' j = f j) : ((List.range N).map f).set k v = (List.range N).map f' := by
  apply List.ext_getElem?
  intro j
  by_cases hj : j < N
  · by_cases e : j = k
    · subst e
      rw [List.getElem?_set_self (by simpa using hj), List.getElem?_map, List.getElem?_range hj, ← hv]
      rfl
    · rw [List.getElem?_set_ne (Ne.symm e), List.getElem?_map, List.getElem?_map, List.getElem?_range hj]
      simp [ho j e]
  · rw [List.getElem?_eq_none (by simpa using hj), List.getElem?_eq_none (by simpa using hj)]
theorem jup_self (M : JMem) (a k : Nat) (v : Int) : jup M a k v a k = v := by simp [jup]
theorem jup_ne {M : JMem} {a k b j : Nat} {v : Int} (h : ¬ (b = a ∧ j = k)) : jup M a k v b j = M b j := if_neg h
theorem jup_row {M : JMem} {a k b : Nat} {v : Int} (h : b ≠ a) : jup M a k v b = M b := funext fun j => jup_ne (fun q => h q.1)
theorem jo_putf {C : String} {T : u_T} {N ci k idx : Nat} {a : Nat} {v : Value} {x : Int} {f : JMem → Option α} (hC : jCl ci C T N) (hk : k < N) (hlink : Cond.fieldLink d.1 idx (T k).1 (T k).2.1 (T k).2.2.1 ∈ jTW) (hfin : (T k).2.2.2 = false) (hq : v = jfv ad (jty ci k) x (ρ a k)) (hnr : narrow (jty ci k) v = v) (hfit : fits (jty ci k) v = true) (hmv : ∀ u, v = .ref u → False) (ha : jK n (0, ci) a) (hd : decode d.2.1 pc = .ok (.putfield idx, 3))
    (kk : ∀ M', jO g d Qf cs n ad ρ (pc + 3) lo st M' (f M')) : jO g d Qf cs n ad ρ pc lo (v :: .ref a :: st) M (letm (jup M a k x) f) := by
  intro z hz p e s m args below meth c H locs ls Cx hH hS hl
  obtain ⟨c1, c2, c3, c4, c5⟩ := hC
  obtain ⟨hx1, hb, hml, hr, hlk, hnm, hown, hts, hT, hX⟩ := id Cx
  have hvv : jmv ad v = v := by
    cases v with
    | ref u => exact (hmv u rfl).elim
    | _ => rfl
  show W p _ e _ s m args below meth c H locs _ _ _ (F0 m pc ls (jmv ad v :: .ref (ad a) :: st.map (jmv ad)))
  rw [hvv]
  refine va_put hx1 hb hts c2 (jty ci) c3 c4 hown hT.2 hH.1 hH.2 hS a (jat ha) c1 k hk (hts _ hlink) (fun _ h => h) hfin (c3 k hk) hnr hfit (by rw [List.length_map, List.length_range, c5]; exact hk) hd (fun H1 locs1 hP hD hS1 => ?_)
  have he : (jWl g.2.1 n ad ρ M).set a (ad a, .inr (ci, ((List.range (jN ci)).map (fun j => jfv ad (jty ci j) (M a j) (ρ a j))).set k v)) = jWl g.2.1 n ad ρ (jup M a k x) := by
    rw [jrange_set (f' := fun j => jfv ad (jty ci j) (jup M a k x a j) (ρ a j)) (by rw [c5]; exact hk) (by rw [jup_self]; exact hq.symm) (fun j hj => by rw [jup_ne (fun q => hj q.2)]), ← jE_obj (cy := g.2.1) (m := jup M a k x a), ← ha.2]
    exact jWl_set (fun b hb => jup_row hb) (fun b _ => rfl)
  rw [he] at hP hD
  exact kk (jup M a k x) z hz p e s m args below meth c H1 locs1 ls Cx ⟨hP, hD⟩ hS1 hl
theorem jo_putI {C : String} {T : u_T} {N ci k idx : Nat} {a : Nat} {x : Int} {f : JMem → Option α} (hC : jCl ci C T N) (hk : k < N) (hlink : Cond.fieldLink d.1 idx (T k).1 (T k).2.1 (T k).2.2.1 ∈ jTW) (hfin : (T k).2.2.2 = false) (hty : jty ci k = .int) (ha : jK n (0, ci) a) (hd : decode d.2.1 pc = .ok (.putfield idx, 3))
    (kk : ∀ M', jO g d Qf cs n ad ρ (pc + 3) lo st M' (f M')) : jO g d Qf cs n ad ρ pc lo (ji x :: .ref a :: st) M (letm (jup M a k x) f) :=
  jo_putf hC hk hlink hfin (by rw [hty]; rfl) (by rw [hty]; rfl) (by rw [hty]; rfl) (fun u h => by cases h) ha hd kk
theorem jo_putL {C : String} {T : u_T} {N ci k idx : Nat} {a : Nat} {x : Int} {f : JMem → Option α} (hC : jCl ci C T N) (hk : k < N) (hlink : Cond.fieldLink d.1 idx (T k).1 (T k).2.1 (T k).2.2.1 ∈ jTW) (hfin : (T k).2.2.2 = false) (hty : jty ci k = .long) (ha : jK n (0, ci) a) (hd : decode d.2.1 pc = .ok (.putfield idx, 3))
    (kk : ∀ M', jO g d Qf cs n ad ρ (pc + 3) lo st M' (f M')) : jO g d Qf cs n ad ρ pc lo (jl x :: .ref a :: st) M (letm (jup M a k x) f) :=
  jo_putf hC hk hlink hfin (by rw [hty]; rfl) (by rw [hty]; rfl) (by rw [hty]; rfl) (fun u h => by cases h) ha hd kk
theorem jchk {P : Prop} [Decidable P] (k : P → jO g d Qf cs n ad ρ pc lo st M o) : jO g d Qf cs n ad ρ pc lo st M (chk P o) := by
  by_cases h : P
  · rw [chk_pos h]; exact k h
  · rw [chk, if_neg h]; exact jO.none
theorem jbool {x : Int} (h : jw x = 0 ∨ jw x = 1) : Int32.ofInt x = 0 ∨ Int32.ofInt x = 1 := by
  rcases h with h | h
  · exact Or.inl (ji_z.mpr h)
  · exact Or.inr (by rw [show (1 : Int32) = Int32.ofInt 1 from rfl, ji_eq, h]; decide)
theorem jo_putZ {C : String} {T : u_T} {N ci k idx : Nat} {a : Nat} {x : Int} {f : JMem → Option α} (hC : jCl ci C T N) (hk : k < N) (hlink : Cond.fieldLink d.1 idx (T k).1 (T k).2.1 (T k).2.2.1 ∈ jTW) (hfin : (T k).2.2.2 = false) (hty : jty ci k = .boolean) (ha : jK n (0, ci) a) (hd : decode d.2.1 pc = .ok (.putfield idx, 3))
    (kk : ∀ M', jO g d Qf cs n ad ρ (pc + 3) lo st M' (f M')) : jO g d Qf cs n ad ρ pc lo (ji x :: .ref a :: st) M (chk (jw x = 0 ∨ jw x = 1) (letm (jup M a k x) f)) :=
  jchk fun hc => jo_putf hC hk hlink hfin (by rw [hty]; rfl) (by rw [hty]; show narrow .boolean (.int (Int32.ofInt x)) = .int (Int32.ofInt x); rcases jbool hc with h | h <;> rw [h] <;> rfl) (by rw [hty]; show fits .boolean (.int (Int32.ofInt x)) = true; rcases jbool hc with h | h <;> rw [h] <;> rfl) (fun u h => by cases h) ha hd kk
/-! arrays -/
theorem jvp_in {i : Int} {N : Nat} (h : jin i N) : vp_in (Int32.ofInt i) N := by
  intro q
  rcases q with q | q
  · have := ji_zlt.mp q
    have := h.1
    omega
  · rw [ji_nat] at q
    have := h.1
    have := h.2
    omega
theorem jty0 {g : JG} : (jtys g)[0]? = some (g.2.1 0, .int) := rfl
theorem jty1 {g : JG} : (jtys g)[1]? = some (g.2.1 1, .long) := rfl
theorem jty2 {g : JG} : (jtys g)[2]? = some (g.2.1 2, .byte) := rfl
theorem jo_iald {a N : Nat} {i : Int} (ha : jK n (1, N) a) (hd : decode d.2.1 pc = .ok (.iaload, 1)) (kk : jO g d Qf cs n ad ρ (pc + 1) lo (ji (M a (jw i).toNat) :: st) M o) : jO g d Qf cs n ad ρ pc lo (ji i :: .ref a :: st) M (chk (jin i N) o) := by
  refine jchk fun hc => ?_
  intro z hz p e s m args below meth c H locs ls Cx hH hS hl
  exact va_iald Cx.1 Cx.2.1 Cx.2.2.2.2.2.2.2.2.1.2 hH.1 a 0 (jat ha) jty0 (jvp_in hc) hd (by
    show W p _ e _ s m args below meth c H locs _ _ _ (F0 m (pc + 1) ls (.int (Int32.ofInt (M a (Int32.ofInt i).toNatClampNeg)) :: st.map (jmv ad)))
    rw [ji_nat]
    exact kk z hz p e s m args below meth c H locs ls Cx hH hS hl)
theorem jo_bald {a N : Nat} {i : Int} (ha : jK n (3, N) a) (hd : decode d.2.1 pc = .ok (.baload, 1)) (kk : jO g d Qf cs n ad ρ (pc + 1) lo (ji (M a (jw i).toNat) :: st) M o) : jO g d Qf cs n ad ρ pc lo (ji i :: .ref a :: st) M (chk (jin i N) o) := by
  refine jchk fun hc => ?_
  intro z hz p e s m args below meth c H locs ls Cx hH hS hl
  exact va_bald Cx.1 Cx.2.1 Cx.2.2.2.2.2.2.2.2.1.2 hH.1 a 2 (jat ha) jty2 (jvp_in hc) hd (by
    show W p _ e _ s m args below meth c H locs _ _ _ (F0 m (pc + 1) ls (.int (Int32.ofInt (M a (Int32.ofInt i).toNatClampNeg)) :: st.map (jmv ad)))
    rw [ji_nat]
    exact kk z hz p e s m args below meth c H locs ls Cx hH hS hl)
theorem jo_lald {a N : Nat} {i : Int} (ha : jK n (2, N) a) (hd : decode d.2.1 pc = .ok (.laload, 1)) (kk : jO g d Qf cs n ad ρ (pc + 1) lo (jl (M a (jw i).toNat) :: st) M o) : jO g d Qf cs n ad ρ pc lo (ji i :: .ref a :: st) M (chk (jin i N) o) := by
  refine jchk fun hc => ?_
  intro z hz p e s m args below meth c H locs ls Cx hH hS hl
  exact va_lald Cx.1 Cx.2.1 Cx.2.2.2.2.2.2.2.2.1.2 hH.1 a 1 (jat ha) jty1 (jvp_in hc) hd (by
    show W p _ e _ s m args below meth c H locs _ _ _ (F0 m (pc + 1) ls (.long (Int64.ofInt (M a (Int32.ofInt i).toNatClampNeg)) :: st.map (jmv ad)))
    rw [ji_nat]
    exact kk z hz p e s m args below meth c H locs ls Cx hH hS hl)
theorem jWl_up {a N : Nat} {k : Nat} {x : Int} {M : JMem} {kd : Nat × Nat} (ha : jK n kd a) : (jWl g.2.1 n ad ρ M).set a (ad a, jE g.2.1 ad kd (jup M a k x a) (ρ a)) = jWl g.2.1 n ad ρ (jup M a k x) := by
  rw [← ha.2]
  exact jWl_set (fun b hb => jup_row hb) (fun b _ => rfl)
theorem jupd {f : Int → Int32} {a k : Nat} {x : Int} : upd (fun j => f (M a j)) k (f x) = fun j => f (jup M a k x a j) := by
  funext j
  by_cases h : j = k
  · subst h
    simp [upd, jup]
  · simp [upd, jup, h]
theorem jupdL {f : Int → Int64} {a k : Nat} {x : Int} : vp_updL (fun j => f (M a j)) k (f x) = fun j => f (jup M a k x a j) := by
  funext j
  by_cases h : j = k
  · subst h
    simp [vp_updL, jup]
  · simp [vp_updL, jup, h]
theorem jo_iast {a N : Nat} {i x : Int} {f : JMem → Option α} (ha : jK n (1, N) a) (hd : decode d.2.1 pc = .ok (.iastore, 1)) (kk : ∀ M', jO g d Qf cs n ad ρ (pc + 1) lo st M' (f M')) : jO g d Qf cs n ad ρ pc lo (ji x :: ji i :: .ref a :: st) M (chk (jin i N) (letm (jup M a (jw i).toNat x) f)) := by
  refine jchk fun hc => ?_
  intro z hz p e s m args below meth c H locs ls Cx hH hS hl
  refine va_iast Cx.1 Cx.2.1 Cx.2.2.2.2.2.2.2.2.1.2 hH.1 hH.2 hS a 0 (jat ha) jty0 (jvp_in hc) hd (fun H1 locs1 hP hD hS1 => ?_)
  rw [ji_nat, jupd (f := fun q => Int32.ofInt q)] at hP hD
  exact kk _ z hz p e s m args below meth c H1 locs1 ls Cx ⟨by rw [← jWl_up (N := N) ha]; exact hP, by rw [← jWl_up (N := N) ha]; exact hD⟩ hS1 hl
theorem jo_last {a N : Nat} {i x : Int} {f : JMem → Option α} (ha : jK n (2, N) a) (hd : decode d.2.1 pc = .ok (.lastore, 1)) (kk : ∀ M', jO g d Qf cs n ad ρ (pc + 1) lo st M' (f M')) : jO g d Qf cs n ad ρ pc lo (jl x :: ji i :: .ref a :: st) M (chk (jin i N) (letm (jup M a (jw i).toNat x) f)) := by
  refine jchk fun hc => ?_
  intro z hz p e s m args below meth c H locs ls Cx hH hS hl
  refine va_last Cx.1 Cx.2.1 Cx.2.2.2.2.2.2.2.2.1.2 hH.1 hH.2 hS a 1 (jat ha) jty1 (jvp_in hc) hd (fun H1 locs1 hP hD hS1 => ?_)
  rw [ji_nat, jupdL (f := fun q => Int64.ofInt q)] at hP hD
  exact kk _ z hz p e s m args below meth c H1 locs1 ls Cx ⟨by rw [← jWl_up (N := N) ha]; exact hP, by rw [← jWl_up (N := N) ha]; exact hD⟩ hS1 hl
theorem jo_bast {a N : Nat} {i x : Int} {f : JMem → Option α} (ha : jK n (3, N) a) (hd : decode d.2.1 pc = .ok (.bastore, 1)) (kk : ∀ M', jO g d Qf cs n ad ρ (pc + 1) lo st M' (f M')) : jO g d Qf cs n ad ρ pc lo (ji x :: ji i :: .ref a :: st) M (chk (jin i N) (letm (jup M a (jw i).toNat (jw8 x)) f)) := by
  refine jchk fun hc => ?_
  intro z hz p e s m args below meth c H locs ls Cx hH hS hl
  refine va_bast Cx.1 Cx.2.1 Cx.2.2.2.2.2.2.2.2.1.2 hH.1 hH.2 hS a 2 (jat ha) jty2 (jvp_in hc) hd (fun H1 locs1 hP hD hS1 => ?_)
  rw [ji_nat, show vp_nar .byte (Int32.ofInt x) = Int32.ofInt (jw8 x) from jbyte x, jupd (f := fun q => Int32.ofInt q)] at hP hD
  exact kk _ z hz p e s m args below meth c H1 locs1 ls Cx ⟨by rw [← jWl_up (N := N) ha]; exact hP, by rw [← jWl_up (N := N) ha]; exact hD⟩ hS1 hl
/-! what is moved from one state to another -/
theorem va_S.at {A : Nat → Prop} {H0 H : Heap} {locs : List Loc} (h : va_S A H0 H locs) : ∀ q : Nat, q < H0.size → ¬ A q → H[q]? = H0[q]? := h.2.1
theorem jTx.go {s U : State} {H : Heap} {locs : List Loc} (hW : s.WarmedH U.vm) (hS : va_S (jA g) s.heap H locs) (h : jTx g (jA g) s s.heap) : jTx g (jA g) U H :=
  h.by hW.alike (fun _ _ _ _ q => q.warm hW) hS.at
theorem jU.same {u U : State} (hv : U.vm = u.vm) (hh : U.heap = u.heap) (h : jU g n ad ρ M u) : jU g n ad ρ M U := by
  obtain ⟨⟨⟨h1, h9⟩, h2⟩, h3, h6⟩ := h
  have ha : u.vm.Alike U.vm := by rw [hv]; exact Vm.Alike.refl u.vm
  refine ⟨⟨⟨fun w hw => ?_, h9.moved ha⟩, va_K.moved ha h2⟩, h3.by ha (fun _ _ _ _ q => q.same hv) (fun a _ _ => by rw [hh]), by rw [hh]; exact h6⟩
  have h7 := h1 w hw
  obtain ⟨a, i, x, b, rfl⟩ := jNW_form w hw
  exact va_Nw.same rfl hv.symm h7
/-! results -/
def jrv (rt : Option FieldType) (r : Int) : Option Value := match rt with
  | none => none
  | some .long => some (jl r)
  | some _ => some (ji r)
def jRet (g : JG) (n : Nat) (ad : Nat → Nat) (ρ : JRho) (rt : Option FieldType) (r : Int) (M' : JMem) : Array Value → State → Outcome → State → Prop := fun _ st oc t => oc = .returned (jrv rt r) ∧ jU g n ad ρ M' t ∧ va_F (jA g) st t
def jMQ (g : JG) (n : Nat) (ad : Nat → Nat) (ρ : JRho) (rt : Option FieldType) : JQ (Int × JMem) := fun x below args s => MQ below (jRet g n ad ρ rt x.1 x.2) args s 0 0 (jA g)
theorem jend {p : Program} {s : State} {m : MethodId} {args : Array Value} {meth : Method} {c : Code} {H : Heap} {locs : List Loc} {rt : Option FieldType} {r : Int} (Cx : jCx g d p s m args meth c) (hH : jH g n ad ρ M H) (hS : va_S (jA g) s.heap H locs) {v : Option Value} (hv : v = jrv rt r) : ∀ t : State, t.heap = H → s.WarmedH t.vm → jRet g n ad ρ rt r M args s (.returned v) t := by
  intro t ht hW
  obtain ⟨hx1, hb, hml, hr, hlk, hnm, hown, hts, hT, hX⟩ := Cx
  refine ⟨by rw [hv], ⟨hT.warm hW, ?_, ?_⟩, hS.F ht⟩
  · rw [ht]; exact jTx.go hW hS hX
  · rw [ht]; exact hH
theorem jo_iret {v : Int} (hr0 : d.2.2.2.1 = some .int) (hd : decode d.2.1 pc = .ok (.ireturn, 1)) : jO g d (jMQ g n ad ρ d.2.2.2.1) (0, 0) n ad ρ pc lo [ji v] M (some (v, M)) := by
  intro z hz p e s m args below meth c H locs ls Cx hH hS hl
  cases hz
  exact W.iret Cx.1 Cx.2.1 (Cx.2.2.2.1.trans hr0) (jend Cx hH hS (by rw [hr0]; rfl)) hS.2.2 hd (hlocks := Cx.2.2.2.2.1)
theorem jo_lret {v : Int} (hr0 : d.2.2.2.1 = some .long) (hd : decode d.2.1 pc = .ok (.lreturn, 1)) : jO g d (jMQ g n ad ρ d.2.2.2.1) (0, 0) n ad ρ pc lo [jl v] M (some (v, M)) := by
  intro z hz p e s m args below meth c H locs ls Cx hH hS hl
  cases hz
  exact W.lret Cx.1 Cx.2.1 (Cx.2.2.2.1.trans hr0) (jend Cx hH hS (by rw [hr0]; rfl)) hS.2.2 hd (hlocks := Cx.2.2.2.2.1)
theorem jo_vret (hr0 : d.2.2.2.1 = none) (hd : decode d.2.1 pc = .ok (.return_, 1)) : jO g d (jMQ g n ad ρ d.2.2.2.1) (0, 0) n ad ρ pc lo [] M (some (0, M)) := by
  intro z hz p e s m args below meth c H locs ls Cx hH hS hl
  cases hz
  exact W.vret Cx.1 Cx.2.1 (Cx.2.2.2.1.trans hr0) (jend Cx hH hS (by rw [hr0]; rfl)) hS.2.2 hd (hlocks := Cx.2.2.2.2.1)
theorem jo_zret {v : Int} (hr0 : d.2.2.2.1 = some .boolean) (hb : jw v = 0 ∨ jw v = 1) (hd : decode d.2.1 pc = .ok (.ireturn, 1)) : jO g d (jMQ g n ad ρ d.2.2.2.1) (0, 0) n ad ρ pc lo [ji v] M (some (v, M)) := by
  intro z hz p e s m args below meth c H locs ls Cx hH hS hl
  cases hz
  exact W.zret Cx.1 Cx.2.1 (Cx.2.2.2.1.trans hr0) (by rcases jbool hb with h | h <;> rw [h] <;> rfl) (jend Cx hH hS (by rw [hr0]; rfl)) hS.2.2 hd (hlocks := Cx.2.2.2.2.1)
theorem jo_zretq {v : Int} (hr0 : d.2.2.2.1 = some .boolean) (hd : decode d.2.1 pc = .ok (.ireturn, 1)) : jO g d (jMQ g n ad ρ d.2.2.2.1) (0, 0) n ad ρ pc lo [ji v] M (chk (jw v = 0 ∨ jw v = 1) (some (v, M))) :=
  jchk fun hb => jo_zret hr0 hb hd
/-! a method's contract -/
def jMet (g : JG) (n : Nat) (ad : Nat → Nat) (ρ : JRho) (d : JD) (y : MethodName) (As : List Value) (M : JMem) (o : Option (Int × JMem)) : Prop := ∀ (r : Int) (M' : JMem), o = some (r, M') →
  Met g.2.2.2.1 y (Cond.code y d.2.1 d.2.2.1 d.2.2.2.1 :: jTW) d.2.2.2.2.2 (va_Pc (As.map (jmv ad)) (fun U => jU g n ad ρ M U)) (jRet g n ad ρ d.2.2.2.1 r M') 0 0 (jA g)
/-- the arguments as locals -/
def jlo : List Value → List (Option Value)
  | [] => []
  | v :: l => if v.category = 2 then some v :: none :: jlo l else some v :: jlo l
theorem jlo_at : ∀ (As : List Value) (b i : Nat) (v : Value), (jlo As)[i]? = some (some v) → (b + i, jmv ad v) ∈ lv_args b (As.map (jmv ad))
  | [], b, i, v, h => by simp [jlo] at h
  | u :: l, b, i, v, h => by
    simp only [List.map_cons, lv_args, jmv_cat]
    by_cases hc : u.category = 2
    · rw [if_pos hc]
      rw [jlo, if_pos hc] at h
      match i, h with
      | 0, h =>
        cases h
        exact List.mem_cons_self
      | 1, h => simp at h
      | i + 2, h =>
        have h2 := jlo_at l (b + 2) i v (by simpa using h)
        rw [show b + (i + 2) = b + 2 + i by omega]
        exact List.mem_cons_of_mem _ h2
    · rw [if_neg hc]
      rw [jlo, if_neg hc] at h
      match i, h with
      | 0, h =>
        cases h
        exact List.mem_cons_self
      | i + 1, h =>
        have h2 := jlo_at l (b + 1) i v (by simpa using h)
        rw [show b + (i + 1) = b + 1 + i by omega]
        exact List.mem_cons_of_mem _ h2
theorem jMet.of {y : MethodName} {As : List Value} {o : Option (Int × JMem)} {lo0 : List (Option Value)} (hy : plainName y.cls = true) (hd0 : d.1 = y.cls) (hn0 : d.2.2.2.2.1 = y.name) (hlen : (lg_sl (As.map (jmv ad))).length ≤ d.2.2.1) (hlo : jle lo0 (jlo As))
    (k : jO g d (jMQ g n ad ρ d.2.2.2.1) (0, 0) n ad ρ 0 lo0 [] M o) : jMet g n ad ρ d y As M o := by
  intro r M' ho
  refine Met.ofW (cc := d.2.1) (maxL := d.2.2.1) (ret := d.2.2.2.1) hy rfl ?_
  intro p e s m args below meth c s₁ B hml hv
  obtain ⟨rfl, hTb, hTx, hH⟩ := hv
  have hts := atoms_spec (ws := Cond.code y d.2.1 d.2.2.1 d.2.2.2.1 :: jTW) B.pre
  have hown : s.vm.findClass d.1 = some m.cls := by rw [hd0]; exact findClass_of_methodNamed B.named
  have hin : meth.name = d.2.2.2.2.1 := by rw [hn0]; exact (name_of_methodNamed B.named B.method).1
  rw [lg_entry_eq]
  have hl := lv_entry (As.map (jmv ad)) (n := d.2.2.1) hlen
  have hj : jhas ad ((lg_sl (As.map (jmv ad)) ++ List.replicate (d.2.2.1 - (lg_sl (As.map (jmv ad))).length) Slot.unset).toArray) d.2.2.1 lo0 :=
    ⟨hl.1, hl.2.1, fun i v hv => by
      have h1 := jlo_at (ad := ad) As 0 i v (jle_at lo0 (jlo As) hlo i v hv)
      rw [Nat.zero_add] at h1
      exact hl.2.2 _ h1⟩
  exact k (r, M') ho p e s m _ below meth c s.heap [] _ ⟨B.exec, B.bytes, hml, B.returns, B.notSynchronized, hin, hown, fun w hw => hts w (List.mem_cons_of_mem _ hw), hTb, hTx⟩ hH va_S.rf hj
/-- what a call needs to know of its callee -/
def jOk (d : JD) (y : MethodName) (na : Nat) : Prop := Cond.code y d.2.1 d.2.2.1 d.2.2.2.1 ∈ jTW ∧ Cond.initialized y.cls ∈ jTW ∧ (y.cls ≠ "java/lang/invoke/MethodHandle" ∧ y.cls ≠ "java/lang/invoke/VarHandle") ∧ (parseMethodDescriptor y.desc).map (fun q => q.parameters.length) = some na ∧ d.2.2.2.2.2.cells = 0 ∧ d.2.2.2.2.2.slots = 0
/-- its frames and locals fit into the caller's room -/
def jFit (d' d : JD) : Prop := d'.2.2.2.2.2.frames + 1 ≤ d.2.2.2.2.2.frames ∧ 8 + (d'.2.2.1 + 11) + d'.2.2.2.2.2.locals ≤ d.2.2.2.2.2.locals
def jres (rt : Option FieldType) (r : Int) : List Value := (jrv rt r).toList
theorem jres_mv (rt : Option FieldType) (r : Int) : (jres rt r).map (jmv ad) = jres rt r := by
  unfold jres jrv
  split <;> rfl
theorem jpay {s : State} {args : Array Value} {y : MethodName} {b : ByteArray} {k : Nat} {r : Option FieldType} (hts : ∀ w ∈ jTW, w.before args s = true) (hc : Cond.code y b k r ∈ jTW) : ∀ w ∈ Cond.code y b k r :: jTW, ∀ (a' : Array Value) (U : State), s.WarmedH U.vm → w.before a' U = true := by
  intro w hw a' U hW
  have h2 : w ∈ jTW := by
    rcases List.mem_cons.mp hw with rfl | h
    · exact hc
    · exact h
  exact word_at hW (good_of_word (List.mem_filter.mp h2).2) (hts w h2)
theorem jblind {As : List Value} : FrameBlind (va_Pc As (fun U => jU g n ad ρ M U)) := fun a U g' mk h => ⟨h.1, jU.same (u := U) (U := U.calling g' mk a) rfl rfl h.2⟩
theorem jcalled {s : State} {p : Program} {m : MethodId} {args : Array Value} {meth : Method} {c : Code} {H : Heap} {locs : List Loc} {As : List Value} (Cx : jCx g d p s m args meth c) (hH : jH g n ad ρ M H) (hS : va_S (jA g) s.heap H locs) : ∀ U : State, U.heap = H → s.WarmedH U.vm → va_Pc As (fun U => jU g n ad ρ M U) As.toArray U := by
  intro U hU hW
  obtain ⟨hx1, hb, hml, hr, hlk, hnm, hown, hts, hT, hX⟩ := Cx
  exact ⟨rfl, hT.warm hW, by rw [hU]; exact jTx.go hW hS hX, by rw [hU]; exact hH⟩
/-- behind a call -/
theorem jback {p : Program} {e : Env} {s : State} {m : MethodId} {args : Array Value} {below : List Frame} {meth : Method} {c : Code} {H : Heap} {locs : List Loc} {ls : Array Slot} {Q : State → Prop} {R : Room} {c1 c2 : Nat} {rt : Option FieldType} {r : Int} {M' : JMem} {st0 rest : List Value} {a : Array Value}
    (hr : va_Run p g.2.2.2.1 e R s m args below meth c H locs c1 c2 0 0 (F0 m pc ls st0) rest (jRet g n ad ρ rt r M' a) (jA g)) (hS : va_S (jA g) s.heap H locs)
    (kk : ∀ (H1 : Heap) (locs1 : List Loc), jH g n ad ρ M' H1 → va_S (jA g) s.heap H1 locs1 → W p g.2.2.2.1 e R s m args below meth c H1 locs1 c1 c2 Q (F0 m (pc + 3) ls (jres rt r ++ rest))) : W p g.2.2.2.1 e R s m args below meth c H locs c1 c2 Q (F0 m pc ls st0) := by
  intro T hT X
  obtain ⟨v, st₀, t, T', L, h0, X', hL, e1, e2, ⟨hv, hU, hz, hk⟩, st⟩ := hr T hT X
  cases hv
  rw [h0] at hz hk
  obtain ⟨t2, a1, b1⟩ := kk T'.heap (locs ++ L) (by rw [e1]; exact hU.2.2) ⟨Nat.le_trans hS.1 (by rw [e1]; exact hz), fun q h1 h2 => by rw [e1, hk q (Nat.lt_of_lt_of_le h1 hS.1) h2]; exact hS.2.1 q h1 h2, fun q hq => by
      rcases List.mem_append.mp hq with h | h
      · exact hS.2.2 q h
      · exact hL q h⟩ T' rfl X'
  exact ⟨t2, st t2 a1, b1⟩
theorem jlen {y : MethodName} {na : Nat} (h : (parseMethodDescriptor y.desc).map (fun q => q.parameters.length) = some na) : ∀ sig, parseMethodDescriptor y.desc = some sig → na = sig.parameters.length := fun sig hs => by
  rw [hs] at h
  exact (Option.some.inj h).symm
theorem jcat : (st.map (jmv ad)).map (fun v => v.category) = st.map (fun v => v.category) := by
  rw [List.map_map]
  exact List.map_congr_left (fun v _ => jmv_cat ad v)
theorem jcallB {p : Program} {s : State} {m : MethodId} {args : Array Value} {meth : Method} {c : Code} {d' : JD} {y : MethodName} {na idx : Nat} (Cx : jCx g d p s m args meth c) (ok : jOk d' y na) (hfit : jFit d' d) (hlink : Cond.methodLink d.1 idx y ∈ jTW) : CallB d.2.2.2.2.2 s args d.1 idx y d'.2.1 d'.2.2.1 d'.2.2.2.1 (Cond.code y d'.2.1 d'.2.2.1 d'.2.2.2.1 :: jTW) d'.2.2.2.2.2 0 0 na := by
  obtain ⟨hx1, hb, hml, hr, hlk, hnm, hown, hts, hT, hX⟩ := Cx
  obtain ⟨k1, k2, k3, k4, k5, k6⟩ := ok
  exact ⟨k5, k6, hfit.1, hfit.2, jpay hts k1, List.mem_cons_self, hts _ k1, hts _ k2, k3, jlen k4, hts _ hlink⟩
theorem jo_callV {d' : JD} {y : MethodName} {na idx : Nat} {As : List Value} {b ci : Nat} {q : vw_C} {st0 : List Value} {o' : Option (Int × JMem)} {f : Int → JMem → Option α} (hM : jMet g n ad ρ d' y (.ref b :: As) M o') (ok : jOk d' y na) (hfit : jFit d' d) (hlink : Cond.methodLink d.1 idx y ∈ jTW) (hi : Cond.instanceMethod y ∈ jTW) (hs : Cond.selects y.cls y y ∈ jTW) (hn : As.length = na) (hb : jK n (0, ci) b) (hq : vwCl[ci]? = some q) (hqn : q.1 = y.cls)
    (hcs : cs.1 ≤ d.2.2.2.2.2.cells ∧ cs.2 ≤ d.2.2.2.2.2.slots) (hst : st0 = As.reverse ++ .ref b :: st) (hw : (st.map fun v => v.category).sum ≤ 8) (hd : decode d.2.1 pc = .ok (.invokevirtual idx, 3))
    (k : ∀ (r : Int) (M' : JMem), jO g d Qf cs n ad ρ (pc + 3) lo (jres d'.2.2.2.1 r ++ st) M' (f r M')) : jO g d Qf cs n ad ρ pc lo st0 M (bnd o' f) := by
  intro z hz p e s m args below meth c H locs ls Cx hH hS hl
  cases ho : o' with
  | none => rw [ho] at hz; cases hz
  | some rM =>
    obtain ⟨r, M'⟩ := rM
    rw [ho, bnd_some] at hz
    have hM2 := hM r M' ho
    obtain ⟨hx1, hbb, hml, hr, hlk, hnm, hown, hts, hT, hX⟩ := id Cx
    subst hst
    have hstk : (As.reverse ++ .ref b :: st).map (jmv ad) = (As.map (jmv ad)).reverse ++ .ref (ad b) :: st.map (jmv ad) := by
      rw [List.map_append, List.map_reverse]
      rfl
    rw [hstk]
    refine jback (rest := st.map (jmv ad)) (va_runV (C := y.cls) (As := As.map (jmv ad)) (n := na) ⟨hx1, hbb, hml, hown, hts⟩ hM2 ⟨jcallB Cx ok hfit hlink, hts _ hi, hts _ hs⟩ ⟨jblind, ?_, ?_⟩ rfl (by rw [List.length_map]; exact hn) hl.1 rfl (lv_room (by rw [jcat]; exact hw)) hd ⟨hcs.1, hcs.2⟩) hS (fun H1 locs1 hH1 hS1 => ?_)
    · have hrc := va_recv hT.2 hH.1 hq (by rw [jat hb, jE_obj] : (jWl g.2.1 n ad ρ M)[b]? = some (ad b, .inr (ci, _)))
      rw [hqn] at hrc
      exact hrc
    · exact jcalled Cx hH hS
    · have hk := k r M' z hz p e s m args below meth c H1 locs1 ls Cx hH1 hS1 hl
      rw [List.map_append, jres_mv] at hk
      exact hk
theorem jo_callS {d' : JD} {y : MethodName} {na idx : Nat} {As : List Value} {st0 : List Value} {o' : Option (Int × JMem)} {f : Int → JMem → Option α} (hM : jMet g n ad ρ d' y As M o') (ok : jOk d' y na) (hfit : jFit d' d) (hlink : Cond.methodLink d.1 idx y ∈ jTW) (hi : Cond.static y ∈ jTW) (hn : As.length = na)
    (hcs : cs.1 ≤ d.2.2.2.2.2.cells ∧ cs.2 ≤ d.2.2.2.2.2.slots) (hst : st0 = As.reverse ++ st) (hw : (st.map fun v => v.category).sum ≤ 8) (hd : decode d.2.1 pc = .ok (.invokestatic idx, 3))
    (k : ∀ (r : Int) (M' : JMem), jO g d Qf cs n ad ρ (pc + 3) lo (jres d'.2.2.2.1 r ++ st) M' (f r M')) : jO g d Qf cs n ad ρ pc lo st0 M (bnd o' f) := by
  intro z hz p e s m args below meth c H locs ls Cx hH hS hl
  cases ho : o' with
  | none => rw [ho] at hz; cases hz
  | some rM =>
    obtain ⟨r, M'⟩ := rM
    rw [ho, bnd_some] at hz
    have hM2 := hM r M' ho
    obtain ⟨hx1, hbb, hml, hr, hlk, hnm, hown, hts, hT, hX⟩ := id Cx
    subst hst
    have hstk : (As.reverse ++ st).map (jmv ad) = (As.map (jmv ad)).reverse ++ st.map (jmv ad) := by
      rw [List.map_append, List.map_reverse]
    rw [hstk]
    refine jback (rest := st.map (jmv ad)) (va_runS (As := As.map (jmv ad)) (n := na) ⟨hx1, hbb, hml, hown, hts⟩ hM2 ⟨jcallB Cx ok hfit hlink, hts _ hi⟩ ⟨jblind, ?_⟩ rfl (by rw [List.length_map]; exact hn) hl.1 rfl (lv_room (by rw [jcat]; exact hw)) hd ⟨hcs.1, hcs.2⟩) hS (fun H1 locs1 hH1 hS1 => ?_)
    · exact jcalled Cx hH hS
    · have hk := k r M' z hz p e s m args below meth c H1 locs1 ls Cx hH1 hS1 hl
      rw [List.map_append, jres_mv] at hk
      exact hk
theorem jo_callSN {d' : JD} {y : MethodName} {na idx : Nat} {host : String} {As : List Value} {st0 : List Value} {o' : Option (Int × JMem)} {f : Int → JMem → Option α} (hM : jMet g n ad ρ d' y As M o') (ok : jOk d' y na) (hfit : jFit d' d) (hlink : Cond.methodLinkNest d.1 idx y host ∈ jNW) (hi : Cond.static y ∈ jTW) (hn : As.length = na)
    (hcs : cs.1 ≤ d.2.2.2.2.2.cells ∧ cs.2 ≤ d.2.2.2.2.2.slots) (hst : st0 = As.reverse ++ st) (hw : (st.map fun v => v.category).sum ≤ 8) (hd : decode d.2.1 pc = .ok (.invokestatic idx, 3))
    (k : ∀ (r : Int) (M' : JMem), jO g d Qf cs n ad ρ (pc + 3) lo (jres d'.2.2.2.1 r ++ st) M' (f r M')) : jO g d Qf cs n ad ρ pc lo st0 M (bnd o' f) := by
  intro z hz p e s m args below meth c H locs ls Cx hH hS hl
  cases ho : o' with
  | none => rw [ho] at hz; cases hz
  | some rM =>
    obtain ⟨r, M'⟩ := rM
    rw [ho, bnd_some] at hz
    have hM2 := hM r M' ho
    obtain ⟨hx1, hbb, hml, hr, hlk, hnm, hown, hts, hT, hX⟩ := id Cx
    obtain ⟨k1, k2, k3, k4, k5, k6⟩ := id ok
    subst hst
    have hstk : (As.reverse ++ st).map (jmv ad) = (As.map (jmv ad)).reverse ++ st.map (jmv ad) := by
      rw [List.map_append, List.map_reverse]
    rw [hstk]
    refine jback (rest := st.map (jmv ad)) (va_runSN (host := host) (As := As.map (jmv ad)) (n := na) ⟨hx1, hbb, hml, hown, hts⟩ hM2 ⟨⟨⟨k5, k6, hfit.1, hfit.2, jpay hts k1, List.mem_cons_self⟩, hts _ k1, hts _ k2, k3, jlen k4, va_Nw.use rfl (hT.1.1 _ hlink)⟩, hts _ hi, trivial⟩ ⟨jblind, ?_⟩ rfl (by rw [List.length_map]; exact hn) hl.1 rfl (lv_room (by rw [jcat]; exact hw)) hd ⟨hcs.1, hcs.2⟩) hS (fun H1 locs1 hH1 hS1 => ?_)
    · exact jcalled Cx hH hS
    · have hk := k r M' z hz p e s m args below meth c H1 locs1 ls Cx hH1 hS1 hl
      rw [List.map_append, jres_mv] at hk
      exact hk
end JHEAP

section JENTRY
def jFl : Cond → List Cond
  | .and a b => jFl a ++ jFl b
  | .tt => []
  | c => [c]
theorem jFl_of {a : Array Value} {s : State} (c : Cond) : c.before a s = true → ∀ w ∈ jFl c, w.before a s = true := by
  induction c with
  | and x y ihx ihy =>
    intro h w hw
    rw [Cond.before_and, Bool.and_eq_true] at h
    rw [jFl] at hw
    rcases List.mem_append.1 hw with q | q
    · exact ihx h.1 w q
    · exact ihy h.2 w q
  | tt => intro _ w hw; cases hw
  | _ => intro h w hw; cases List.mem_singleton.1 (show w ∈ [_] from hw); exact h
theorem jcl_in : ∀ (k : Nat) (q : vw_C), vwCl[k]? = some q → (∀ w ∈ u_ws q.1 q.2.1 q.2.2, w ∈ lw_tbl) ∧ Cond.instantiable q.1 q.2.2 ∈ lw_tbl := by
  intro k q hq
  match k, hq with
  | 0, hq => cases hq; exact ⟨inX0, List.mem_of_getElem? (i := 584) (by decide +kernel)⟩
  | 1, hq => cases hq; exact ⟨inX1, List.mem_of_getElem? (i := 395) (by decide +kernel)⟩
  | 2, hq => cases hq; exact ⟨inX2, List.mem_of_getElem? (i := 290) (by decide +kernel)⟩
  | 3, hq => cases hq; exact ⟨inX3, List.mem_of_getElem? (i := 565) (by decide +kernel)⟩
  | 4, hq => cases hq; exact ⟨inX4, List.mem_of_getElem? (i := 296) (by decide +kernel)⟩
  | 5, hq => cases hq; exact ⟨inX5, List.mem_of_getElem? (i := 552) (by decide +kernel)⟩
  | 6, hq => cases hq; exact ⟨inX6, List.mem_of_getElem? (i := 186) (by decide +kernel)⟩
  | 7, hq => cases hq; exact ⟨inX7, List.mem_of_getElem? (i := 164) (by decide +kernel)⟩
  | 8, hq => cases hq; exact ⟨inX8, List.mem_of_getElem? (i := 538) (by decide +kernel)⟩
  | 9, hq => cases hq; exact ⟨inX9, List.mem_of_getElem? (i := 476) (by decide +kernel)⟩
  | 10, hq => cases hq; exact ⟨inX10, List.mem_of_getElem? (i := 470) (by decide +kernel)⟩
  | 11, hq => cases hq; exact ⟨inX11, List.mem_of_getElem? (i := 156) (by decide +kernel)⟩
  | 12, hq => cases hq; exact ⟨inX12, List.mem_of_getElem? (i := 1367) (by decide +kernel)⟩
  | k + 13, hq => simp [vwCl] at hq
theorem jKn {s : State} {args : Array Value} (hts : ∀ w ∈ lw_tbl, w.before args s = true) : ∃ (dC : Nat → ClassId) (dI : Nat → Nat → Nat), ∀ (k : Nat) (q : vw_C), vwCl[k]? = some q → u_Kn s q.1 q.2.1 q.2.2 (dC k) (dI k) := by
  have h : ∀ k : Nat, ∃ x : ClassId × (Nat → Nat), ∀ q : vw_C, vwCl[k]? = some q → u_Kn s q.1 q.2.1 q.2.2 x.1 x.2 := by
    intro k
    by_cases hq : ∃ q, vwCl[k]? = some q
    · obtain ⟨q, hq⟩ := hq
      obtain ⟨h1, h2⟩ := jcl_in k q hq
      obtain ⟨c0, i0, h3⟩ := u_known (C := q.1) (T := q.2.1) (N := q.2.2) (n := q.2.2) hts h1 (hts _ h2)
      exact ⟨(c0, i0), fun q' hq' => by
        cases hq.symm.trans hq'
        exact h3⟩
    · obtain ⟨c0, i0, h3⟩ := u_known (C := RX11) (T := TX11) (N := 20) (n := 20) hts inX11 (hts _ (jcl_in 11 _ rfl).2)
      exact ⟨(c0, i0), fun q hq' => absurd ⟨q, hq'⟩ hq⟩
  exact ⟨fun k => (Classical.choose (h k)).1, fun k => (Classical.choose (h k)).2, fun k q hq => Classical.choose_spec (h k) q hq⟩
theorem jArrP {s : State} {args : Array Value} {t : FieldType} (ht : ∀ C, t ≠ .object C) (h : (Cond.arrayClass t).before args s = true) : ∃ c : ClassId, ArrOfT s c t ∧ va_RA s c t := by
  obtain ⟨c, k, comp, h1, h2, h3⟩ := Cond.arrayClass_spec h
  refine ⟨c, fun N z => ⟨(fun q hq => by cases hq), k, h2, comp, h3⟩, ?_⟩
  cases t <;> first | exact h1 | exact absurd rfl (ht _)
theorem jArrO {s : State} {args : Array Value} {C : String} (h : (Cond.arrayOver (.object C)).before args s = true) : ∃ c : ClassId, ArrOfT s c (.object C) ∧ va_RA s c (.object C) := by
  obtain ⟨comp, c, k, h1, h2, h3, h4, h5⟩ := Cond.arrayOver_spec h
  exact ⟨c, fun N z => ⟨(fun q hq => by cases hq), k, h3, comp, h4⟩, k, comp, h3, h4, h1, h5⟩
theorem jArrA {s : State} {args : Array Value} (h : (Cond.arrayOver (.array .long)).before args s = true) : ∃ c : ClassId, ArrOfT s c (.array .long) ∧ va_RA s c (.array .long) := by
  obtain ⟨comp, c, k, h1, h2, h3, h4, h5⟩ := arrayOverA_spec h
  exact ⟨c, fun N z => ⟨(fun q hq => by cases hq), k, h3, comp, h4⟩, h5⟩
def jTm (i : Nat) : Term := if i = 0 then .string "CageLeave$Text" 48 else .string "CageLeaveModel" 180
theorem jTm_all : (∀ i : Nat, i < 2 → Cond.exactly (jTm i) "java/lang/String" ∈ jFl (Cond.and given_1 narrow_1)) ∧ (∀ i : Nat, i < 2 → Cond.eq (.field (jTm i) "java/lang/String" "coder" "B") (.int 0) ∈ jFl (Cond.and given_1 narrow_1)) ∧
    (∀ i : Nat, i < 2 → Cond.arrayOf (.field (jTm i) "java/lang/String" "value" "[B") .byte ∈ jFl (Cond.and given_1 narrow_1)) ∧ (∀ i : Nat, i < 2 → Cond.eq (.length (.field (jTm i) "java/lang/String" "value" "[B")) (.int (Int32.ofNat (jLen.getD i 0))) ∈ jFl (Cond.and given_1 narrow_1)) := by decide +kernel
theorem jTm_el0 : ∀ j : Nat, j < 137 → (jFl (Cond.and given_1 narrow_1))[52 + j]? = some (Cond.eq (.elem (.field (jTm 0) "java/lang/String" "value" "[B") (.int (Int32.ofNat j))) (.int ((jByt.getD 0 []).getD j 0))) := by decide +kernel
theorem jTm_el1 : ∀ j : Nat, j < 138 → (jFl (Cond.and given_1 narrow_1))[193 + j]? = some (Cond.eq (.elem (.field (jTm 1) "java/lang/String" "value" "[B") (.int (Int32.ofNat j))) (.int ((jByt.getD 1 []).getD j 0))) := by decide +kernel
theorem jTm_el (i : Nat) (hi : i < 2) (j : Nat) (hj : j < jLen.getD i 0) : Cond.eq (.elem (.field (jTm i) "java/lang/String" "value" "[B") (.int (Int32.ofNat j))) (.int ((jByt.getD i []).getD j 0)) ∈ jFl (Cond.and given_1 narrow_1) := by
  rcases (show i = 0 ∨ i = 1 by omega) with rfl | rfl
  · exact List.mem_of_getElem? (jTm_el0 j hj)
  · exact List.mem_of_getElem? (jTm_el1 j hj)
theorem jTm_ne : Cond.not (Cond.eq (jTm 0) (jTm 1)) ∈ jFl (Cond.and given_1 narrow_1) ∨ Cond.not (Cond.eq (jTm 1) (jTm 0)) ∈ jFl (Cond.and given_1 narrow_1) := by decide +kernel
theorem jTxts {s : State} {args : Array Value} {A : Nat → Prop} (hA : ∀ a : Nat, a < s.heap.size → ¬ A a) (hs : ∀ c ∈ jFl (Cond.and given_1 narrow_1), c.before args s = true) : ∃ adK adV : Nat → Nat, vk_S 2 jLen jByt adK adV A s s.heap ∧ ∀ i : Nat, i < 2 → (jTm i).eval args s none [] s = some (.ref (adK i)) := by
  obtain ⟨t1, t2, t3, t4⟩ := jTm_all
  refine vk_Sof (tm := jTm) (by decide) (fun i hi => hs _ (t1 i hi)) (fun i hi => hs _ (t2 i hi)) (fun i hi => hs _ (t3 i hi)) (fun i hi => hs _ (t4 i hi)) (fun i hi j hj => hs _ (jTm_el i hi j hj)) (fun i j hi hj hij => ?_) hA
  rcases (show (i = 0 ∧ j = 1) ∨ (i = 1 ∧ j = 0) by omega) with ⟨rfl, rfl⟩ | ⟨rfl, rfl⟩
  · exact jTm_ne.imp (fun h => hs _ h) (fun h => hs _ h)
  · exact jTm_ne.symm.imp (fun h => hs _ h) (fun h => hs _ h)
set_option maxHeartbeats 4000000 in
set_option maxRecDepth 20000 in
theorem whole_of (hpure : ∀ (L : Nat) (X : Nat → Int), L ≤ 3072 → (∀ j : Nat, -2147483648 ≤ X j ∧ X j < 2147483648) → ∃ (n : Nat) (r : Int) (M' : JMem), f_L_law n L X jM0 = some (r, M')) {p : Program} {e : Env} {s : State} {m : MethodId} {below : List Frame} {meth : Method} {c : Code} (l : Launch) {b L : Nat} {xs : Nat → Int32} (hL : L ≤ 3072) (C0 : lw_At p s m meth c b L xs) : W p l e room_1 s m #[Value.ref b] below meth c s.heap [] 0 0 (lw_Z below #[Value.ref b] s) (entryFrame m ([Value.ref b] : List Value).toArray 4) := by
  obtain ⟨hx, hb, hr, hml, hown, hts, hX, hbl, hlocks, hgv⟩ := id C0
  have hflat := jFl_of _ hgv
  obtain ⟨dC, dI, hKn⟩ := jKn hts
  obtain ⟨cI, hI1, hI2⟩ := jArrP (t := .int) (fun C h => by cases h) (hts _ (List.mem_of_getElem? (i := 184) (by decide +kernel)))
  obtain ⟨cJ, hJ1, hJ2⟩ := jArrP (t := .long) (fun C h => by cases h) (hts _ (List.mem_of_getElem? (i := 183) (by decide +kernel)))
  obtain ⟨cB, hB1, hB2⟩ := jArrP (t := .byte) (fun C h => by cases h) (hts _ (List.mem_of_getElem? (i := 288) (by decide +kernel)))
  obtain ⟨cA, hA1, hA2⟩ := jArrA (hts _ (List.mem_of_getElem? (i := 170) (by decide +kernel)))
  obtain ⟨cP, hP1, hP2⟩ := jArrO (C := RX4) (hts _ (List.mem_of_getElem? (i := 534) (by decide +kernel)))
  obtain ⟨cN, hN1, hN2⟩ := jArrO (C := RX1) (hts _ (List.mem_of_getElem? (i := 535) (by decide +kernel)))
  obtain ⟨cW, hW1, hW2⟩ := jArrO (C := RX9) (hts _ (List.mem_of_getElem? (i := 536) (by decide +kernel)))
  have hAn : ∀ a : Nat, a < s.heap.size → ¬ (fun q : Nat => s.heap.size ≤ q) a := fun a ha => Nat.not_le.mpr ha
  obtain ⟨adK, adV, hSt, hEv⟩ := jTxts (A := fun q : Nat => s.heap.size ≤ q) hAn hflat
  have hcomp : va_Z "java/lang/String" "COMPACT_STRINGS" "Z" (.int 1) (fun q : Nat => s.heap.size ≤ q) s s.heap :=
    va_Zof (hts _ (List.mem_of_getElem? (i := 201) (by decide +kernel))) (hts _ (List.mem_of_getElem? (i := 138) (by decide +kernel))) (va_eqt (hflat (Cond.eq (.static "java/lang/String" "COMPACT_STRINGS" "Z") (.int 1)) (by decide +kernel))) hAn
  have hsio : va_Zq "jdk/internal/util/Preconditions" "SIOOBE_FORMATTER" "Ljava/util/function/BiFunction;" (fun q : Nat => s.heap.size ≤ q) s s.heap :=
    va_Zqof (hts _ (List.mem_of_getElem? (i := 217) (by decide +kernel))) (hts _ (List.mem_of_getElem? (i := 140) (by decide +kernel))) (hflat (Cond.isRef (.static "jdk/internal/util/Preconditions" "SIOOBE_FORMATTER" "Ljava/util/function/BiFunction;")) (by decide +kernel)) hAn
  obtain ⟨sz, hsz⟩ : ∃ sz : Nat, va_Z "jdk/internal/util/Preconditions" "SIOOBE_FORMATTER" "Ljava/util/function/BiFunction;" .null (fun q : Nat => s.heap.size ≤ q) s s.heap ∨ va_Z "jdk/internal/util/Preconditions" "SIOOBE_FORMATTER" "Ljava/util/function/BiFunction;" (.ref sz) (fun q : Nat => s.heap.size ≤ q) s s.heap := by
    rcases hsio with h | ⟨t, h⟩
    · exact ⟨0, Or.inl h⟩
    · exact ⟨t, Or.inr h⟩
  obtain ⟨g, hg⟩ : ∃ g : JG, g = ((dC, dI), (fun k => if k = 0 then cI else if k = 1 then cJ else if k = 2 then cB else if k = 4 then cA else if k = 5 then cP else if k = 6 then cN else cW), s.heap.size, l, adK, (fun k => if k = 2 then sz else adV k), (b, L, xs)) := ⟨_, rfl⟩
  have hK : va_K g.1 vwCl (jtys g) s := by
    rw [hg]
    refine ⟨hKn, fun k q hq => ?_⟩
    match k, hq with
    | 0, hq => cases hq; exact ⟨hI1, hI2⟩
    | 1, hq => cases hq; exact ⟨hJ1, hJ2⟩
    | 2, hq => cases hq; exact ⟨hB1, hB2⟩
    | 3, hq => cases hq; exact ⟨hA1, hA2⟩
    | 4, hq => cases hq; exact ⟨hP1, hP2⟩
    | 5, hq => cases hq; exact ⟨hN1, hN2⟩
    | 6, hq => cases hq; exact ⟨hW1, hW2⟩
    | k + 7, hq => simp [jtys] at hq
  have hTb : jTb g s := by
    refine ⟨⟨fun w hw => ?_, va_AO.of (hts _ (List.mem_of_getElem? (i := 534) (by decide +kernel))), va_AO.of (hts _ (List.mem_of_getElem? (i := 535) (by decide +kernel))), va_AO.of (hts _ (List.mem_of_getElem? (i := 536) (by decide +kernel))), show jAOA s from hts (Cond.arrayOver (.array .long)) (List.mem_of_getElem? (i := 170) (by decide +kernel))⟩, hK⟩
    have h1 := hts w (jNW_in w hw)
    obtain ⟨a1, i1, x1, b1, rfl⟩ := jNW_form w hw
    exact va_Nw.of rfl h1
  have hSt2 : vk_S 2 jLen jByt adK (fun k => if k = 2 then sz else adV k) (fun q : Nat => s.heap.size ≤ q) s s.heap := by
    refine ⟨fun i hi => ?_, hSt.2⟩
    have h1 := hSt.1 i hi
    have e1 : (if i = 2 then sz else adV i) = adV i := if_neg (by omega)
    show _ ∧ _ ∧ va_OF _ _ _ (.ref (if i = 2 then sz else adV i)) _ _ _ _ ∧ va_T _ (if i = 2 then sz else adV i) _ _ _ _ _
    rw [e1]
    exact h1
  have hTx : jTx g (jA g) s s.heap := by
    rw [hg]
    exact ⟨hSt2, vk_R.of (hts _ (List.mem_of_getElem? (i := 191) (by decide +kernel))) (hEv 0 (by decide)), vk_R.of (hts _ (List.mem_of_getElem? (i := 1581) (by decide +kernel))) (hEv 1 (by decide)), hcomp, hsz, hX, hAn b hbl⟩
  have hl := lv_entry ([.ref b]) (n := 4) (Nat.le_of_ble_eq_true rfl)
  rw [lg_entry_eq]
  generalize (lg_sl ([.ref b]) ++ List.replicate (4 - (lg_sl ([.ref b])).length) Slot.unset).toArray = ls at hl ⊢
  have hl : lv_has ls 4 [(0, .ref b)] := hl
  have hZ : g.2.2.1 = s.heap.size := by rw [hg]
  have hPe : va_P g.1 vwCl [] s.heap := fun k q h => by simp at h
  have hDe : va_D (jA g) [] := ⟨fun i j p q h => by simp at h, fun k q h => by simp at h⟩
  refine va_new (D := g.1) (A := jA g) (tys := jtys g) (ws := []) (cl := vwCl) (H0 := s.heap) (ci := 11) (fs := (List.range (jN 11)).map (fun k => jfv (fun _ => 0) (jty 11 k) 0 none)) (C := RX11) (T := TX11) (N := 20) hx hb hts inX11 (jty 11) tyX11_ok hown (hts _ (List.mem_of_getElem? (i := 155) (by decide +kernel))) (hts _ (List.mem_of_getElem? (i := 156) (by decide +kernel))) (hts _ (List.mem_of_getElem? (i := 135) (by decide +kernel))) hK hPe hDe va_S.rf (fun q hq => by unfold jA; omega) rfl (fun j hj => ?_) (Nat.le_of_ble_eq_true rfl) (Nat.le_of_ble_eq_true rfl) d_L_law_0 (fun q H1 hP hD hS1 => ?_)
  · rw [jfvD (ad := fun _ => 0) (fd_11 j hj).1 (fd_11 j hj).2]
    unfold vp_V
    rw [List.getD_eq_getElem?_getD, List.getElem?_map, List.getElem?_range (show j < jN 11 from hj)]
    rfl
  · obtain ⟨n, r, M', hp⟩ := hpure L (fun j => (xs j).toInt) hL (fun j => ⟨by have := Int32.le_toInt (xs j); omega, by have := Int32.toInt_lt (xs j); omega⟩)
    have hjH : jH g 1 (fun k => if k = 0 then q else if k = 1000 then adK 0 else if k = 1001 then adK 1 else if k = 1002 then adV 0 else if k = 1003 then adV 1 else if k = 1004 then sz else b) jZr jZ H1 := by
      have e1 : jWl g.2.1 1 (fun k => if k = 0 then q else if k = 1000 then adK 0 else if k = 1001 then adK 1 else if k = 1002 then adV 0 else if k = 1003 then adV 1 else if k = 1004 then sz else b) jZr jZ = [] ++ [(q, .inr (11, (List.range (jN 11)).map (fun k => jfv (fun _ => 0) (jty 11 k) 0 none)))] := by
        unfold jWl
        rw [show List.range 1 = [0] from rfl, List.map_cons, List.map_nil, show jG 0 = (0, 11) by decide +kernel]
        rw [jE_ag (ad := fun _ => 0) (fun k b hb => by cases hb), jE_obj]
        rfl
      exact ⟨by rw [e1]; exact hP, by rw [e1]; exact hD⟩
    have hs : jStr g (fun k => if k = 0 then q else if k = 1000 then adK 0 else if k = 1001 then adK 1 else if k = 1002 then adV 0 else if k = 1003 then adV 1 else if k = 1004 then sz else b) := by
      rw [hg]
      exact ⟨rfl, rfl, rfl, rfl, rfl⟩
    have hp2 : f_L_law n g.2.2.2.2.2.2.2.1 (fun j => (g.2.2.2.2.2.2.2.2 j).toInt) jM0 = some (r, M') := by rw [hg]; exact hp
    have hbody := law_body meth.name hs (by rw [hg]; rfl) hp2
    have hr2 : meth.sig.returnType = some .boolean := hr
    have hW := hbody (r, M') rfl p e s m #[Value.ref b] below meth c H1 [] ls ⟨hx, hb, hml, hr2, hlocks, rfl, hown, fun w hw => hts w (jTW_in hw), hTb, hTx⟩ hjH (by rw [show jA g = fun q : Nat => s.heap.size ≤ q by unfold jA; rw [hZ]]; rw [show jA g = fun q : Nat => s.heap.size ≤ q by unfold jA; rw [hZ]] at hS1; exact hS1) ⟨hl.1, hl.2.1, fun i v hv => by
      match i, hv with
      | 0, hv => cases hv; exact lv_at hl 0 rfl
      | 1, hv => simp at hv
      | 2, hv => simp at hv
      | 3, hv => simp at hv
      | i + 4, hv => simp at hv⟩
    have hl2 : g.2.2.2.1 = l := by rw [hg]
    rw [hl2] at hW
    intro T hT X
    obtain ⟨t, a1, b1⟩ := hW T hT X
    exact ⟨t, a1, b1 b rfl (by rw [hZ]; exact Nat.le_refl _)⟩
end JENTRY

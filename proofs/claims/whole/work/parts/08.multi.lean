def va_AOA (t : FieldType) (U : State) : Prop := (Cond.arrayOver (.array t)).before #[] U = true
theorem va_AOA.use {t : FieldType} {A : Array Value} {U : State} (h : va_AOA t U) : (Cond.arrayOver (.array t)).before A U = true := h
/-! ===== BEGIN new T[n][m]: the outer array a place, the inner ones among the pooled ===== -/
/-- f, but v at every address of l -/
def vr_up {α : Type} (f : Nat → α) (l : List Nat) (v : α) : Nat → α := fun a => if a ∈ l then v else f a
theorem vr_up_in {α : Type} {f : Nat → α} {l : List Nat} {v : α} {a : Nat} (h : a ∈ l) : vr_up f l v a = v := if_pos h
theorem vr_up_ne {α : Type} {f : Nat → α} {l : List Nat} {v : α} {a : Nat} (h : a ∉ l) : vr_up f l v a = f a := if_neg h
theorem vr_rows {L l : List Nat} {f : Nat → va_E} {e : va_E} (h : ∀ a, a ∈ l → a ∉ L) : va_pl L f ++ l.map (fun a => (a, e)) = va_pl (L ++ l) (vr_up f l e) := by
  unfold va_pl
  rw [List.map_append]
  congr 1
  · apply List.map_congr_left
    intro a ha
    rw [vr_up_ne (fun q => h a q ha)]
  · apply List.map_congr_left
    intro a ha
    rw [vr_up_in ha]
theorem vr_lay {X rows : va_W} {x : Nat × va_E} {pl : va_W} {D : va_G} {cl : List vw_C} {H : Heap} (hP : va_P D cl (((X ++ pl) ++ [x]) ++ rows) H) : va_P D cl ((X ++ [x]) ++ (pl ++ rows)) H := by
  rw [List.append_assoc (X ++ pl)] at hP
  have h := va_P.swap hP
  rw [← List.append_assoc X] at h
  have h2 := va_P.swap h
  rw [List.append_assoc (X ++ [x])] at h2
  exact h2
theorem vr_layD {X rows : va_W} {x : Nat × va_E} {pl : va_W} {A : Nat → Prop} (hD : va_D A (((X ++ pl) ++ [x]) ++ rows)) : va_D A ((X ++ [x]) ++ (pl ++ rows)) := by
  rw [List.append_assoc (X ++ pl)] at hD
  have h := va_D.swap hD
  rw [← List.append_assoc X] at h
  have h2 := va_D.swap h
  rw [List.append_assoc (X ++ [x])] at h2
  exact h2
theorem vr_outer (c : ClassId) (N h0 : Nat) : ∀ i : Nat, Jvm.Free.Multi.outerC c N h0 i = arrV c N (fun j => va_rf (if j < i then some (h0 + 1 + j) else none))
  | 0 => by
    show ({ cls := c, slots := Array.replicate N .null, vm := .none } : Cell) = _
    rw [arrV_new]
    refine congrArg (arrV c N) (funext fun j => ?_)
    simp [va_rf]
  | i + 1 => by
    show (Jvm.Free.Multi.outerC c N h0 i).setSlot i (.ref (h0 + 1 + i)) = _
    rw [vr_outer c N h0 i, arrV_store]
    refine congrArg (arrV c N) (funext fun j => ?_)
    by_cases e : j = i
    · subst e
      simp [updV, va_rf]
    · by_cases h : j < i
      · simp [updV, e, h, Nat.lt_succ_of_lt h]
      · simp [updV, e, h, show ¬ j < i + 1 by omega]
section VGM
variable {p : Program} {l : Launch} {e : Env} {R : Room} {s : State} {m : MethodId} {args : Array Value} {below : List Frame} {meth : Method} {c : Code} {H : Heap} {locs : List Loc} {cells slots : Nat} {Q : State → Prop}
variable {cc : ByteArray} {pc : Nat} {ls : Array Slot} {rest : List Value} {D : va_G} {cl : List vw_C} {A : Nat → Prop} {a : Nat} {tys : List (ClassId × FieldType)} {ws : va_W} {H0 : Heap}
theorem va_mna {X : va_W} {L : List Nat} {f : Nat → va_E} {cc : ByteArray} (hexec : p.tables.exec = Jvm.exec) (hb : c.code = cc) {own : String} {index : Nat} {ty : FieldType} {cy : ClassId} (hown : s.vm.findClass own = some m.cls) (hclink : (Cond.classLink own index ("[" ++ (FieldType.array ty).toString)).before args s = true) (hover : va_AOA ty s) (harr : (Cond.arrayClass ty).before args s = true) (hcy : s.vm.findClass (FieldType.array ty).toString = some cy)
    (hK : va_K D cl tys s) (hP : va_P D cl (X ++ va_pl L f) H) (hD : va_D A (X ++ va_pl L f)) (hS : va_S A H0 H locs) (hA : ∀ q, H0.size ≤ q → A q) {n k : Int32} {N' K' : Nat} {z : vp_A} (hn : ¬ n < 0) (hk : ¬ k < 0) (hN : n.toNatClampNeg = N') (hM : k.toNatClampNeg = K')
    (hb1 : N' * 4 ≤ 536870912) (hb2 : K' * componentBytes ty ≤ 536870912) (hb3 : K' ≤ 536870912) (hdf : fits ty (defaultValue ty) = true) (hdd : (defaultValue ty).isDefault = true) (hcells : cells + (1 + N') ≤ R.cells) (hslots : slots + (N' + N' * K') ≤ R.slots) (hz : ∀ c : ClassId, Jvm.Free.Multi.innerC c K' (defaultValue ty) = vp_cell c z) (hdg : decode cc pc = .ok (.multianewarray index 2, 4))
    (kk : ∀ (q : Nat) (r : Nat → Nat) (cA : ClassId) (H1 : Heap), (∀ i j : Nat, i < N' → j < N' → r i = r j → i = j) → (∀ i : Nat, i < N' → r i ∉ L) → va_K D cl (tys ++ [(cA, .array ty)]) s →
      va_P D cl ((X ++ [(q, .inl (cA, N', .inr (.inr (.inr (.inr (fun i => if i < N' then some (r i) else none))))))]) ++ va_pl (L ++ (List.range N').map r) (vr_up f ((List.range N').map r) (.inl (cy, z)))) H1 → va_D A ((X ++ [(q, .inl (cA, N', .inr (.inr (.inr (.inr (fun i => if i < N' then some (r i) else none))))))]) ++ va_pl (L ++ (List.range N').map r) (vr_up f ((List.range N').map r) (.inl (cy, z)))) → va_S A H0 H1 locs →
      W p l e R s m args below meth c H1 locs (cells + 1 + N') (slots + N' + N' * K') Q (F0 m (pc + 4) ls (.ref q :: rest))) : W p l e R s m args below meth c H locs cells slots Q (F0 m pc ls (.int k :: .int n :: rest)) := by
  subst hN
  subst hM
  intro T hT Xs
  obtain ⟨vm₁, cA, comp, -, fA, fC, hO, -, X', step⟩ := Xs.multianewarray2F hexec hown hclink (va_AOA.use hover) harr (g := F0 m pc ls (.int k :: .int n :: rest)) rfl (by rw [hb]; exact hdg) rfl hn hk hb1 hb2 hb3 hdf hdd hcells hslots
  have ec : some cy = some comp := hcy.symm.trans fC
  cases ec
  generalize hF : Jvm.Free.Multi.fill (T.setVm vm₁) cA cy n.toNatClampNeg k.toNatClampNeg (defaultValue ty) n.toNatClampNeg = F at X' step
  have hTh : (T.setVm vm₁).heap = H := hT
  obtain ⟨f1, f2, -, -⟩ := Jvm.Free.Multi.fill_facts (T.setVm vm₁) cA cy n.toNatClampNeg k.toNatClampNeg (defaultValue ty) n.toNatClampNeg
  rw [hF, hTh] at f1 f2
  have hold : ∀ x : Nat, x < H.size → F.heap[x]? = H[x]? := fun x hx => by
    have := Jvm.Free.Multi.fill_old (T.setVm vm₁) cA cy n.toNatClampNeg k.toNatClampNeg (defaultValue ty) (a := x) (by rw [hTh]; exact hx) n.toNatClampNeg
    rw [hF, hTh] at this
    exact this
  have hrow : ∀ j : Nat, j < n.toNatClampNeg → F.heap[H.size + 1 + j]? = some (vp_cell cy z) := fun j hj => by
    have := Jvm.Free.Multi.fill_inner (T.setVm vm₁) cA cy n.toNatClampNeg k.toNatClampNeg (defaultValue ty) n.toNatClampNeg j hj
    rw [hF, hTh, hz] at this
    exact this
  have hout : Jvm.Free.Multi.outerC cA n.toNatClampNeg H.size n.toNatClampNeg = vp_cell cA (n.toNatClampNeg, .inr (.inr (.inr (.inr (fun i => if i < n.toNatClampNeg then some (H.size + 1 + i) else none))))) := by
    rw [vp_cell_q]
    exact vr_outer cA n.toNatClampNeg H.size n.toNatClampNeg
  rw [hout] at f2
  have hlt : ∀ a, a ∈ L → a < H.size := fun a ha => by
    obtain ⟨k9, hk9⟩ := va_pl_get (X := X) (f := f) ha
    exact (hP k9 _ hk9).lt
  have hnl : ∀ i : Nat, i < n.toNatClampNeg → H.size + 1 + i ∉ L := fun i _ h => by
    have := hlt _ h
    omega
  have hnm : ∀ a, a ∈ (List.range n.toNatClampNeg).map (fun i => H.size + 1 + i) → a ∉ L := fun a ha h => by
    obtain ⟨i, -, rfl⟩ := List.mem_map.mp ha
    have := hlt _ h
    omega
  have hP0 : va_P D cl (X ++ va_pl L f) F.heap := hP.kept (fun k9 x hx => hold x.1 ((hP k9 x hx).lt))
  have hP1 : va_P D cl ((X ++ va_pl L f) ++ [(H.size, .inl (cA, n.toNatClampNeg, .inr (.inr (.inr (.inr (fun i => if i < n.toNatClampNeg then some (H.size + 1 + i) else none))))))]) F.heap := hP0.app (fun k9 x hx => by
    have h0 : k9 < 1 := (List.getElem?_eq_some_iff.mp hx).1
    rw [show k9 = 0 by omega] at hx
    cases hx
    exact f2)
  have hP2 : va_P D cl (((X ++ va_pl L f) ++ [(H.size, .inl (cA, n.toNatClampNeg, .inr (.inr (.inr (.inr (fun i => if i < n.toNatClampNeg then some (H.size + 1 + i) else none))))))]) ++ ((List.range n.toNatClampNeg).map (fun i => H.size + 1 + i)).map (fun a => (a, .inl (cy, z)))) F.heap := hP1.app (fun k9 x hx => by
    obtain ⟨a, ha, rfl⟩ := List.mem_map.mp (List.mem_of_getElem? hx)
    obtain ⟨i, hi, rfl⟩ := List.mem_map.mp ha
    exact hrow i (List.mem_range.mp hi))
  have hD2 : va_D A (((X ++ va_pl L f) ++ [(H.size, .inl (cA, n.toNatClampNeg, .inr (.inr (.inr (.inr (fun i => if i < n.toNatClampNeg then some (H.size + 1 + i) else none))))))]) ++ ((List.range n.toNatClampNeg).map (fun i => H.size + 1 + i)).map (fun a => (a, .inl (cy, z)))) := by
    have hD1 := hD.push (e := .inl (cA, n.toNatClampNeg, .inr (.inr (.inr (.inr (fun i => if i < n.toNatClampNeg then some (H.size + 1 + i) else none)))))) hP rfl (hA _ hS.1)
    generalize hW1 : (X ++ va_pl L f) ++ [(H.size, .inl (cA, n.toNatClampNeg, .inr (.inr (.inr (.inr (fun i => if i < n.toNatClampNeg then some (H.size + 1 + i) else none))))))] = W1 at hD1 hP1 ⊢
    have hle : ∀ (k9 : Nat) (x : Nat × va_E), W1[k9]? = some x → x.1 ≤ H.size := fun k9 x hx => by
      rw [← hW1] at hx
      by_cases hl : k9 < (X ++ va_pl L f).length
      · rw [List.getElem?_append_left hl] at hx
        exact Nat.le_of_lt ((hP k9 x hx).lt)
      · rw [List.getElem?_append_right (by omega)] at hx
        have h0 : k9 - (X ++ va_pl L f).length < 1 := (List.getElem?_eq_some_iff.mp hx).1
        rw [show k9 - (X ++ va_pl L f).length = 0 by omega] at hx
        cases hx
        exact Nat.le_refl _
    have hr : ∀ (k9 : Nat) (x : Nat × va_E), (((List.range n.toNatClampNeg).map (fun i => H.size + 1 + i)).map (fun a => ((a, .inl (cy, z)) : Nat × va_E)))[k9]? = some x → x.1 = H.size + 1 + k9 := fun k9 x hx => by
      rw [List.getElem?_map, List.getElem?_map] at hx
      by_cases h9 : k9 < n.toNatClampNeg
      · rw [List.getElem?_range h9] at hx
        cases hx
        rfl
      · have hn0 : (List.range n.toNatClampNeg)[k9]? = none := List.getElem?_eq_none (by rw [List.length_range]; omega)
        rw [hn0] at hx
        cases hx
    refine ⟨fun i j x y hi hj hxy => ?_, fun k9 x hx => ?_⟩
    · by_cases h1 : i < W1.length <;> by_cases h2 : j < W1.length
      · rw [List.getElem?_append_left h1] at hi
        rw [List.getElem?_append_left h2] at hj
        exact hD1.1 i j x y hi hj hxy
      · rw [List.getElem?_append_left h1] at hi
        rw [List.getElem?_append_right (by omega)] at hj
        have := hle _ _ hi
        have := hr _ _ hj
        omega
      · rw [List.getElem?_append_right (by omega)] at hi
        rw [List.getElem?_append_left h2] at hj
        have := hle _ _ hj
        have := hr _ _ hi
        omega
      · rw [List.getElem?_append_right (by omega)] at hi hj
        have := hr _ _ hi
        have := hr _ _ hj
        omega
    · by_cases h1 : k9 < W1.length
      · rw [List.getElem?_append_left h1] at hx
        exact hD1.2 k9 x hx
      · rw [List.getElem?_append_right (by omega)] at hx
        have := hr _ _ hx
        exact hA _ (by have := hS.1; omega)
  have hAr : ArrOfT s cA (.array ty) := fun N9 z9 => by
    obtain ⟨-, k9, hk9, cm9, hkk9⟩ := (hO 0 0 0).1
    exact ⟨(fun q hq => by cases hq), k9, hk9, cm9, hkk9⟩
  have hK2 : va_K D cl (tys ++ [(cA, .array ty)]) s := ⟨hK.1, fun k9 x hx => by
    by_cases hl : k9 < tys.length
    · rw [List.getElem?_append_left hl] at hx
      exact hK.2 k9 x hx
    · rw [List.getElem?_append_right (by omega)] at hx
      have h0 : k9 - tys.length < 1 := (List.getElem?_eq_some_iff.mp hx).1
      rw [show k9 - tys.length = 0 by omega] at hx
      cases hx
      exact ⟨hAr, fA⟩⟩
  obtain ⟨t, a1, b1⟩ := kk H.size (fun i => H.size + 1 + i) cA F.heap (fun i j _ _ h => by have h9 : H.size + 1 + i = H.size + 1 + j := h; omega) hnl hK2 (by rw [← vr_rows hnm]; exact vr_lay hP2) (by rw [← vr_rows hnm]; exact vr_layD hD2) ⟨by rw [f1]; have := hS.1; omega, fun x h1 h2 => (hold x (Nat.lt_of_lt_of_le h1 hS.1)).trans (hS.2.1 x h1 h2), hS.2.2⟩ F rfl X'
  refine ⟨t, step t ?_, b1⟩
  have e : T.heap.size = H.size := by rw [hT]
  rw [e]
  exact a1
end VGM
/-! ===== END ===== -/

section JMULTI
variable {α : Type} {g : JG} {d : JD} {Qf : JQ α} {cs : Nat × Nat} {n : Nat} {ad : Nat → Nat} {ρ : JRho} {pc : Nat} {lo : List (Option Value)} {st : List Value} {M : JMem} {o : Option α}
def jmulM (M : JMem) : JMem := fun a k => if 2 ≤ a ∧ a ≤ 6 then 0 else M a k
def jmulR (ρ : JRho) : JRho := fun a k => if a = 2 then (if k < 4 then some (3 + k) else none) else if 3 ≤ a ∧ a ≤ 6 then none else ρ a k
theorem jwf_mul (h : jwf 2 ρ) : jwf 7 (jmulR ρ) := by
  intro a k b ha hb
  unfold jmulR at hb
  split at hb
  · split at hb
    · cases hb; exact ⟨by omega, by omega⟩
    · cases hb
  · split at hb
    · cases hb
    · have := h a k b (by omega) hb
      exact ⟨by omega, this.2⟩
theorem jmulE {M : JMem} {q : Nat} {r : Nat → Nat} {cy : Nat → ClassId} {f : Nat → va_E} (hwf : jwf 2 ρ) :
    (jWl cy 2 ad ρ M ++ [(q, .inl (cy 4, 4, .inr (.inr (.inr (.inr (fun i => if i < 4 then some (r i) else none))))))]) ++ va_pl ([] ++ (List.range 4).map r) (vr_up f ((List.range 4).map r) (.inl (cy 1, (60, .inr (.inl (fun _ => Int64.ofInt 0)))))) =
      jWl cy 7 (fun k => if k = 2 then q else if 3 ≤ k ∧ k ≤ 6 then r (k - 3) else ad k) (jmulR ρ) (jmulM M) := by
  have r2 : List.range 2 = [0, 1] := by decide
  have r4 : List.range 4 = [0, 1, 2, 3] := by decide
  have r7 : List.range 7 = [0, 1, 2, 3, 4, 5, 6] := by decide
  have hin : ∀ x, x ∈ [r 0, r 1, r 2, r 3] → vr_up f [r 0, r 1, r 2, r 3] ((.inl (cy 1, (60, .inr (.inl (fun _ => Int64.ofInt 0)))) : va_E)) x = .inl (cy 1, (60, .inr (.inl (fun _ => Int64.ofInt 0)))) := fun x hx => vr_up_in hx
  have hold : ∀ k, k < 2 → jE cy ad (jG k) (M k) (ρ k) = jE cy (fun k => if k = 2 then q else if 3 ≤ k ∧ k ≤ 6 then r (k - 3) else ad k) (jG k) (jmulM M k) (jmulR ρ k) := by
    intro k hk
    have e1 : jmulM M k = M k := funext fun j => if_neg (by omega)
    have e2 : jmulR ρ k = ρ k := funext fun j => by
      unfold jmulR
      rw [if_neg (by omega), if_neg (by omega)]
    rw [e1, e2]
    exact (jE_ag (fun j b hb => by
      have := (hwf k j b hk hb).1
      show (if b = 2 then q else if 3 ≤ b ∧ b ≤ 6 then r (b - 3) else ad b) = ad b
      rw [if_neg (by omega), if_neg (by omega)])).symm
  have hout : (.inl (cy 4, 4, .inr (.inr (.inr (.inr (fun i => if i < 4 then some (r i) else none))))) : va_E) = jE cy (fun k => if k = 2 then q else if 3 ≤ k ∧ k ≤ 6 then r (k - 3) else ad k) (jG 2) (jmulM M 2) (jmulR ρ 2) := by
    rw [show jG 2 = (4, 4) by decide +kernel]
    show _ = (.inl (cy 4, 4, .inr (.inr (.inr (.inr (fun j => (jmulR ρ 2 j).map (fun k => if k = 2 then q else if 3 ≤ k ∧ k ≤ 6 then r (k - 3) else ad k)))))) : va_E)
    have e : (fun i => if i < 4 then some (r i) else none) = fun j => (jmulR ρ 2 j).map (fun k => if k = 2 then q else if 3 ≤ k ∧ k ≤ 6 then r (k - 3) else ad k) := by
      funext j
      unfold jmulR
      rw [if_pos rfl]
      by_cases hj : j < 4
      · rw [if_pos hj, if_pos hj]
        show some (r j) = some (if 3 + j = 2 then q else if 3 ≤ 3 + j ∧ 3 + j ≤ 6 then r (3 + j - 3) else ad (3 + j))
        rw [if_neg (by omega), if_pos (by omega), show 3 + j - 3 = j by omega]
      · rw [if_neg hj, if_neg hj]
        rfl
    rw [e]
  have hrow : ∀ i, 3 ≤ i → i ≤ 6 → jG i = (2, 60) → (.inl (cy 1, (60, .inr (.inl (fun _ => Int64.ofInt 0)))) : va_E) = jE cy (fun k => if k = 2 then q else if 3 ≤ k ∧ k ≤ 6 then r (k - 3) else ad k) (jG i) (jmulM M i) (jmulR ρ i) := by
    intro i h1 h2 h3
    rw [h3]
    have e1 : jmulM M i = fun _ => 0 := funext fun j => if_pos (by omega)
    rw [e1]
    rfl
  unfold jWl va_pl
  rw [r2, r4, r7]
  simp only [List.map_cons, List.map_nil, List.nil_append, List.cons_append]
  rw [hin (r 0) (by simp), hin (r 1) (by simp), hin (r 2) (by simp), hin (r 3) (by simp), hold 0 (by omega), hold 1 (by omega), hout]
  rw [← hrow 3 (by omega) (by omega) (by decide +kernel), ← hrow 4 (by omega) (by omega) (by decide +kernel), ← hrow 5 (by omega) (by omega) (by decide +kernel), ← hrow 6 (by omega) (by omega) (by decide +kernel)]
  rfl
theorem jo_multi {a0 : Nat} (ha0 : a0 < 2) (hwf : jwf 2 ρ) (hlo : jlo0 2 lo) (hst : jro 2 st) (hd : decode d.2.1 pc = .ok (.multianewarray 11 2, 4)) (hown2 : d.1 = RX7) (hcs : cs.1 + (1 + 4) ≤ d.2.2.2.2.2.cells ∧ cs.2 + (4 + 4 * 60) ≤ d.2.2.2.2.2.slots)
    (kk : ∀ ad', jag 2 ad ad' → jO g d Qf (cs.1 + 1 + 4, cs.2 + 4 + 4 * 60) 7 ad' (jmulR ρ) (pc + 4) lo (.ref 2 :: st) (jmulM M) o) : jO g d Qf cs 2 ad ρ pc lo (ji 60 :: ji 4 :: st) M o := by
  intro z hz p e s m args below meth c H locs ls Cx hH hS hl
  obtain ⟨hx1, hb, hml, hr, hlk, hnm, hown, hts, hT, hX⟩ := id Cx
  have hP0 : va_P g.1 vwCl (jWl g.2.1 2 ad ρ M ++ va_pl [] (fun _ => .inr (0, []))) H := by
    rw [show va_pl [] (fun _ => (.inr (0, []) : va_E)) = [] from rfl, List.append_nil]; exact hH.1
  have hD0 : va_D (jA g) (jWl g.2.1 2 ad ρ M ++ va_pl [] (fun _ => .inr (0, []))) := by
    rw [show va_pl [] (fun _ => (.inr (0, []) : va_E)) = [] from rfl, List.append_nil]; exact hH.2
  refine va_mna (ty := .long) (cy := g.2.1 1) (N' := 4) (K' := 60) (z := (60, .inr (.inl (fun _ => Int64.ofInt 0)))) (own := RX7) (index := 11) hx1 hb (by rw [← hown2]; exact hown) (hts _ (jTW_mem (k := 169) (by decide +kernel) rfl : Cond.classLink RX7 11 "[[J" ∈ jTW)) hT.1.2.2.2.2 (hts _ ar_long) (hT.2.2 1 _ rfl).2 hT.2 hP0 hD0 (jS0 hS) (jz_le hH ha0) (by decide) (by decide) (by decide) (by decide) (by decide) (by decide) (by decide) rfl rfl hcs.1 hcs.2 (fun c => ?_) hd (fun q r cA H1 hinj hnl hK2 hP2 hD2 hS1 => ?_)
  · show ({ cls := c, slots := Array.replicate 60 (.long 0), vm := .none } : Cell) = _
    rw [arrV_new]
    rfl
  · have hcA : cA = g.2.1 4 := jcA hT.2 (k := 3) rfl hK2
    subst hcA
    rw [jmulE hwf] at hP2 hD2
    have g1 : jag 2 ad (fun k => if k = 2 then q else if 3 ≤ k ∧ k ≤ 6 then r (k - 3) else ad k) := ⟨fun k hk => by
      show (if k = 2 then q else if 3 ≤ k ∧ k ≤ 6 then r (k - 3) else ad k) = ad k
      rw [if_neg (by omega), if_neg (by omega)], fun k hk => by
      show (if k = 2 then q else if 3 ≤ k ∧ k ≤ 6 then r (k - 3) else ad k) = ad k
      rw [if_neg (by omega), if_neg (by omega)]⟩
    have k2 := kk _ g1 z hz p e s m args below meth c H1 locs ls Cx ⟨hP2, hD2⟩ (jS1 hS hS1) (jhas_ag g1 hlo hl)
    rw [List.map_cons, jro_mv g1 hst] at k2
    exact k2

theorem lm_X7_3 : Cond.methodLink RX7 3 Lib.objectInit ∈ jTW := jTW_mem (k := 168) (by decide +kernel) rfl
theorem lk_X7_13 : Cond.fieldLink RX7 13 (TX7 0).1 (TX7 0).2.1 (TX7 0).2.2.1 ∈ jTW := jTW_mem (k := 171) (by decide +kernel) rfl
theorem lk_X7_16 : Cond.fieldLink RX7 16 (TX7 1).1 (TX7 1).2.1 (TX7 1).2.2.1 ∈ jTW := jTW_mem (k := 173) (by decide +kernel) rfl
theorem lk_X7_20 : Cond.fieldLink RX7 20 (TX7 2).1 (TX7 2).2.1 (TX7 2).2.2.1 ∈ jTW := jTW_mem (k := 175) (by decide +kernel) rfl
def D_X7_init : JD := (RX7, cX7_init, 2, none, "<init>", { frames := 1, cells := 7, slots := 252, locals := 20 })
theorem okc_X7 : jOkC D_X7_init yX7_init 0 := ⟨⟨jTW_mem (k := 167) (by decide +kernel) rfl, rfl⟩, jTW_mem (k := 136) (by decide +kernel) rfl, ⟨by decide +kernel, by decide +kernel⟩, by decide +kernel, rfl, jTW_mem (k := 166) (by decide +kernel) rfl⟩
theorem d_X7_init_0 : decode (D_X7_init).2.1 0 = .ok (.aload_n 0, 1) := by decide +kernel
theorem d_X7_init_1 : decode (D_X7_init).2.1 1 = .ok (.invokespecial 3, 3) := by decide +kernel
theorem d_X7_init_4 : decode (D_X7_init).2.1 4 = .ok (.aload_n 0, 1) := by decide +kernel
theorem d_X7_init_5 : decode (D_X7_init).2.1 5 = .ok (.iconst 4, 1) := by decide +kernel
theorem d_X7_init_6 : decode (D_X7_init).2.1 6 = .ok (.bipush 60, 2) := by decide +kernel
theorem d_X7_init_8 : decode (D_X7_init).2.1 8 = .ok (.multianewarray 11 2, 4) := by decide +kernel
theorem d_X7_init_12 : decode (D_X7_init).2.1 12 = .ok (.putfield 13, 3) := by decide +kernel
theorem d_X7_init_15 : decode (D_X7_init).2.1 15 = .ok (.aload_n 0, 1) := by decide +kernel
theorem d_X7_init_16 : decode (D_X7_init).2.1 16 = .ok (.iconst 4, 1) := by decide +kernel
theorem d_X7_init_17 : decode (D_X7_init).2.1 17 = .ok (.newarray .int, 2) := by decide +kernel
theorem d_X7_init_19 : decode (D_X7_init).2.1 19 = .ok (.putfield 16, 3) := by decide +kernel
theorem d_X7_init_22 : decode (D_X7_init).2.1 22 = .ok (.aload_n 0, 1) := by decide +kernel
theorem d_X7_init_23 : decode (D_X7_init).2.1 23 = .ok (.iconst 4, 1) := by decide +kernel
theorem d_X7_init_24 : decode (D_X7_init).2.1 24 = .ok (.newarray .int, 2) := by decide +kernel
theorem d_X7_init_26 : decode (D_X7_init).2.1 26 = .ok (.putfield 20, 3) := by decide +kernel
theorem d_X7_init_29 : decode (D_X7_init).2.1 29 = .ok (.iconst 0, 1) := by decide +kernel
theorem d_X7_init_30 : decode (D_X7_init).2.1 30 = .ok (.istore_n 1, 1) := by decide +kernel
theorem d_X7_init_31 : decode (D_X7_init).2.1 31 = .ok (.iload_n 1, 1) := by decide +kernel
theorem d_X7_init_32 : decode (D_X7_init).2.1 32 = .ok (.iconst 4, 1) := by decide +kernel
theorem d_X7_init_33 : decode (D_X7_init).2.1 33 = .ok (.if_icmp .ge 16, 3) := by decide +kernel
theorem d_X7_init_36 : decode (D_X7_init).2.1 36 = .ok (.aload_n 0, 1) := by decide +kernel
theorem d_X7_init_37 : decode (D_X7_init).2.1 37 = .ok (.getfield 16, 3) := by decide +kernel
theorem d_X7_init_40 : decode (D_X7_init).2.1 40 = .ok (.iload_n 1, 1) := by decide +kernel
theorem d_X7_init_41 : decode (D_X7_init).2.1 41 = .ok (.iconst (-1), 1) := by decide +kernel
theorem d_X7_init_42 : decode (D_X7_init).2.1 42 = .ok (.iastore, 1) := by decide +kernel
theorem d_X7_init_43 : decode (D_X7_init).2.1 43 = .ok (.iinc 1 1, 3) := by decide +kernel
theorem d_X7_init_46 : decode (D_X7_init).2.1 46 = .ok (.goto (-15), 3) := by decide +kernel
theorem d_X7_init_49 : decode (D_X7_init).2.1 49 = .ok (.return_, 1) := by decide +kernel
def cM_X7 (M : JMem) : JMem := (jup (jup (jup (jup (jz (jz (jmulM M) 7) 8) 7 (jw 0).toNat (-1)) 7 (jw 1).toNat (-1)) 7 (jw 2).toNat (-1)) 7 (jw 3).toNat (-1))
def cR_X7 (ρ : JRho) : JRho := (jsr (jzr (jsr (jzr (jsr (jmulR ρ) 1 0 2) 7) 1 1 7) 8) 1 2 8)
set_option maxRecDepth 8000 in
theorem c_X7 {g : JG} (ρ : JRho) (M : JMem) (w0 : jwf 2 ρ) : jMetC g D_X7_init yX7_init [.ref 1] 2 9 ρ (cR_X7 ρ) M (cM_X7 M) := by
  have hj : jNN = 186 := rfl
  refine jMetC.of (lo0 := [some (.ref 1), none]) (by decide) rfl rfl (fun ad => (Nat.le_of_ble_eq_true rfl)) (And.intro rfl True.intro) (fun ad0 s0 => ?_)
  have g0 : jag 2 ad0 ad0 := jag.rf
  unfold cM_X7 cR_X7
  refine jo_aload 0 d_X7_init_0 rfl rfl ?_
  refine jo_obj lm_X7_3 (Nat.le_of_ble_eq_true rfl) (Nat.le_of_ble_eq_true rfl) d_X7_init_1 ?_
  refine jo_aload 0 d_X7_init_4 rfl rfl ?_
  refine jo_iconst 4 d_X7_init_5 ?_
  refine jo_bipush 60 d_X7_init_6 (by decide) ?_
  refine jo_multi (a0 := 1) (by omega) w0 (And.intro (jvo_lt (by omega)) True.intro) (And.intro (jvo_lt (by omega)) True.intro) d_X7_init_8 rfl (And.intro (Nat.le_of_ble_eq_true rfl) (Nat.le_of_ble_eq_true rfl)) (fun ad1 h1 => ?_)
  have g1 := g0.tr h1 (by omega)
  have s1 := s0.ag h1
  have w1 := jwf_mul w0
  refine jo_putR (k := 0) cl_7 (Nat.le_of_ble_eq_true rfl) lk_X7_13 rfl rfl rfl rfl (And.intro (by omega) (by decide +kernel : jG 1 = (0, 7))) d_X7_init_12 ?_
  have w2 := jwf_set (a := 1) (k := 0) (b := 2) w1 (by omega) (by decide)
  refine jo_aload 0 d_X7_init_15 rfl rfl ?_
  refine jo_iconst 4 d_X7_init_16 ?_
  refine jo_newI (N := 4) (a0 := 1) (by decide +kernel : jG 7 = (1, 4)) (by omega) (by omega) w2 ar_int (by decide +kernel) (by decide +kernel) (Nat.le_of_ble_eq_true rfl) (And.intro (jvo_lt (by omega)) True.intro) (And.intro (jvo_lt (by omega)) True.intro) (And.intro (Nat.le_of_ble_eq_true rfl) (Nat.le_of_ble_eq_true rfl)) d_X7_init_17 (fun ad2 h2 => ?_)
  have g2 := g1.tr h2 (by omega)
  have s2 := s1.ag h2
  have w3 := jwf_new w2
  refine jo_putR (k := 1) cl_7 (Nat.le_of_ble_eq_true rfl) lk_X7_16 rfl rfl rfl rfl (And.intro (by omega) (by decide +kernel : jG 1 = (0, 7))) d_X7_init_19 ?_
  have w4 := jwf_set (a := 1) (k := 1) (b := 7) w3 (by omega) (by decide)
  refine jo_aload 0 d_X7_init_22 rfl rfl ?_
  refine jo_iconst 4 d_X7_init_23 ?_
  refine jo_newI (N := 4) (a0 := 1) (by decide +kernel : jG 8 = (1, 4)) (by omega) (by omega) w4 ar_int (by decide +kernel) (by decide +kernel) (Nat.le_of_ble_eq_true rfl) (And.intro (jvo_lt (by omega)) True.intro) (And.intro (jvo_lt (by omega)) True.intro) (And.intro (Nat.le_of_ble_eq_true rfl) (Nat.le_of_ble_eq_true rfl)) d_X7_init_24 (fun ad3 h3 => ?_)
  have g3 := g2.tr h3 (by omega)
  have s3 := s2.ag h3
  have w5 := jwf_new w4
  refine jo_putR (k := 2) cl_7 (Nat.le_of_ble_eq_true rfl) lk_X7_20 rfl rfl rfl rfl (And.intro (by omega) (by decide +kernel : jG 1 = (0, 7))) d_X7_init_26 ?_
  have w6 := jwf_set (a := 1) (k := 2) (b := 8) w5 (by omega) (by decide)
  refine jo_iconst 0 d_X7_init_29 ?_
  refine jo_istoreC 1 d_X7_init_30 rfl (Nat.le_of_ble_eq_true rfl) ?_
  refine jo_iload 1 d_X7_init_31 rfl rfl ?_
  refine jo_iconst 4 d_X7_init_32 ?_
  refine jo_skip (P := jw (4) ≤ jw (0)) (by decide) ?_
  refine jo_icmp_ge 49 d_X7_init_33 (by decide) jO.none ?_
  refine jo_aload 0 d_X7_init_36 rfl rfl ?_
  refine jo_getR (k := 1) cl_7 (Nat.le_of_ble_eq_true rfl) lk_X7_16 rfl (And.intro (by omega) (by decide +kernel : jG 1 = (0, 7))) (b := 7) (by simp [jsr, jzr, jmulR]) d_X7_init_37 ?_
  refine jo_iload 1 d_X7_init_40 rfl rfl ?_
  refine jo_iconst (-1) d_X7_init_41 ?_
  refine jo_iastC (N := 4) (And.intro (by omega) (by decide +kernel : jG 7 = (1, 4))) (by decide) d_X7_init_42 ?_
  refine jo_iincC 1 d_X7_init_43 rfl (Nat.le_of_ble_eq_true rfl) ?_
  refine jo_goto 31 d_X7_init_46 (by decide) ?_
  refine jo_iload 1 d_X7_init_31 rfl rfl ?_
  refine jo_iconst 4 d_X7_init_32 ?_
  refine jo_skip (P := jw (4) ≤ jw (1)) (by decide) ?_
  refine jo_icmp_ge 49 d_X7_init_33 (by decide) jO.none ?_
  refine jo_aload 0 d_X7_init_36 rfl rfl ?_
  refine jo_getR (k := 1) cl_7 (Nat.le_of_ble_eq_true rfl) lk_X7_16 rfl (And.intro (by omega) (by decide +kernel : jG 1 = (0, 7))) (b := 7) (by simp [jsr, jzr, jmulR]) d_X7_init_37 ?_
  refine jo_iload 1 d_X7_init_40 rfl rfl ?_
  refine jo_iconst (-1) d_X7_init_41 ?_
  refine jo_iastC (N := 4) (And.intro (by omega) (by decide +kernel : jG 7 = (1, 4))) (by decide) d_X7_init_42 ?_
  refine jo_iincC 1 d_X7_init_43 rfl (Nat.le_of_ble_eq_true rfl) ?_
  refine jo_goto 31 d_X7_init_46 (by decide) ?_
  refine jo_iload 1 d_X7_init_31 rfl rfl ?_
  refine jo_iconst 4 d_X7_init_32 ?_
  refine jo_skip (P := jw (4) ≤ jw (2)) (by decide) ?_
  refine jo_icmp_ge 49 d_X7_init_33 (by decide) jO.none ?_
  refine jo_aload 0 d_X7_init_36 rfl rfl ?_
  refine jo_getR (k := 1) cl_7 (Nat.le_of_ble_eq_true rfl) lk_X7_16 rfl (And.intro (by omega) (by decide +kernel : jG 1 = (0, 7))) (b := 7) (by simp [jsr, jzr, jmulR]) d_X7_init_37 ?_
  refine jo_iload 1 d_X7_init_40 rfl rfl ?_
  refine jo_iconst (-1) d_X7_init_41 ?_
  refine jo_iastC (N := 4) (And.intro (by omega) (by decide +kernel : jG 7 = (1, 4))) (by decide) d_X7_init_42 ?_
  refine jo_iincC 1 d_X7_init_43 rfl (Nat.le_of_ble_eq_true rfl) ?_
  refine jo_goto 31 d_X7_init_46 (by decide) ?_
  refine jo_iload 1 d_X7_init_31 rfl rfl ?_
  refine jo_iconst 4 d_X7_init_32 ?_
  refine jo_skip (P := jw (4) ≤ jw (3)) (by decide) ?_
  refine jo_icmp_ge 49 d_X7_init_33 (by decide) jO.none ?_
  refine jo_aload 0 d_X7_init_36 rfl rfl ?_
  refine jo_getR (k := 1) cl_7 (Nat.le_of_ble_eq_true rfl) lk_X7_16 rfl (And.intro (by omega) (by decide +kernel : jG 1 = (0, 7))) (b := 7) (by simp [jsr, jzr, jmulR]) d_X7_init_37 ?_
  refine jo_iload 1 d_X7_init_40 rfl rfl ?_
  refine jo_iconst (-1) d_X7_init_41 ?_
  refine jo_iastC (N := 4) (And.intro (by omega) (by decide +kernel : jG 7 = (1, 4))) (by decide) d_X7_init_42 ?_
  refine jo_iincC 1 d_X7_init_43 rfl (Nat.le_of_ble_eq_true rfl) ?_
  refine jo_goto 31 d_X7_init_46 (by decide) ?_
  refine jo_iload 1 d_X7_init_31 rfl rfl ?_
  refine jo_iconst 4 d_X7_init_32 ?_
  refine jo_take (P := jw (4) ≤ jw (4)) (by decide) ?_
  refine jo_icmp_ge 49 d_X7_init_33 (by decide) ?_ jO.none
  exact jo_cret g3 rfl d_X7_init_49 (And.intro (Nat.le_refl _) (Nat.le_refl _))
theorem cw_X7 (ρ : JRho) (w0 : jwf 2 ρ) : jwf 9 (cR_X7 ρ) := by
  unfold cR_X7
  have w1 := jwf_mul w0
  have w2 := jwf_set (a := 1) (k := 0) (b := 2) w1 (by omega) (by decide)
  have w3 := jwf_new w2
  have w4 := jwf_set (a := 1) (k := 1) (b := 7) w3 (by omega) (by decide)
  have w5 := jwf_new w4
  have w6 := jwf_set (a := 1) (k := 2) (b := 8) w5 (by omega) (by decide)
  exact w6
end JMULTI

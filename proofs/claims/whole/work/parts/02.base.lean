section JBASE
/-! numbers: an int is any whole number, meant by its rest; wrapped where it is compared -/
def jw (x : Int) : Int := x.bmod (2 ^ 32)
def jwl (x : Int) : Int := x.bmod (2 ^ 64)
def jw8 (x : Int) : Int := x.bmod (2 ^ 8)
def jw16 (x : Int) : Int := x.bmod (2 ^ 16)
abbrev ji (x : Int) : Value := .int (Int32.ofInt x)
abbrev jl (x : Int) : Value := .long (Int64.ofInt x)
def jand (x y : Int) : Int := (Int32.ofInt x &&& Int32.ofInt y).toInt
def jor (x y : Int) : Int := (Int32.ofInt x ||| Int32.ofInt y).toInt
def jxor (x y : Int) : Int := (Int32.ofInt x ^^^ Int32.ofInt y).toInt
def jshl (x y : Int) : Int := (Int32.ofInt x <<< (Int32.ofInt y &&& 31)).toInt
def jshr (x y : Int) : Int := (Int32.ofInt x >>> (Int32.ofInt y &&& 31)).toInt
def jushr (x y : Int) : Int := (((Int32.ofInt x).toUInt32 >>> ((Int32.ofInt y).toUInt32 &&& Int32.toUInt32 31)).toInt32).toInt
def jdiv (x y : Int) : Int := (Int32.ofInt x / Int32.ofInt y).toInt
def jrem (x y : Int) : Int := (Int32.ofInt x - Int32.ofInt x / Int32.ofInt y * Int32.ofInt y).toInt
def jland (x y : Int) : Int := (Int64.ofInt x &&& Int64.ofInt y).toInt
def jlor (x y : Int) : Int := (Int64.ofInt x ||| Int64.ofInt y).toInt
def jlshl (x y : Int) : Int := (Int64.ofInt x <<< ((Int32.ofInt y).toInt64 &&& 63)).toInt
def jldiv (x y : Int) : Int := (Int64.ofInt x / Int64.ofInt y).toInt
def jlrem (x y : Int) : Int := (Int64.ofInt x - Int64.ofInt x / Int64.ofInt y * Int64.ofInt y).toInt
def jcmp (x y : Int) : Int := (lg_cmp (Int64.ofInt x) (Int64.ofInt y)).toInt
theorem jw_i (x : Int) : (Int32.ofInt x).toInt = jw x := Int32.toInt_ofInt
theorem jw_l (x : Int) : (Int64.ofInt x).toInt = jwl x := Int64.toInt_ofInt
theorem ji_lt {x y : Int} : Int32.ofInt x < Int32.ofInt y ↔ jw x < jw y := by rw [Int32.lt_iff_toInt_lt, jw_i, jw_i]
theorem ji_le {x y : Int} : Int32.ofInt x ≤ Int32.ofInt y ↔ jw x ≤ jw y := by rw [Int32.le_iff_toInt_le, jw_i, jw_i]
theorem ji_eq {x y : Int} : Int32.ofInt x = Int32.ofInt y ↔ jw x = jw y := by rw [← Int32.toInt_inj, jw_i, jw_i]
theorem ji_nat {x : Int} : (Int32.ofInt x).toNatClampNeg = (jw x).toNat := by
  show (Int32.ofInt x).toInt.toNat = _
  rw [jw_i]
theorem jw_0 : jw 0 = 0 := by decide
theorem jw_of {x : Int} (h1 : -2147483648 ≤ x) (h2 : x < 2147483648) : jw x = x := by
  unfold jw
  rw [Int.bmod_eq_of_le] <;> omega
theorem jwl_of {x : Int} (h1 : -9223372036854775808 ≤ x) (h2 : x < 9223372036854775808) : jwl x = x := by
  unfold jwl
  rw [Int.bmod_eq_of_le] <;> omega
/-! memory -/
abbrev JMem : Type := Nat → Nat → Int
abbrev JRho : Type := Nat → Nat → Option Nat
def jup (M : JMem) (a k : Nat) (v : Int) : JMem := fun a' k' => if a' = a ∧ k' = k then v else M a' k'
/-- one cell's row anew -/
def jrow (M : JMem) (a : Nat) (f : Nat → Int) : JMem := fun a' k' => if a' = a then f k' else M a' k'
/-! the words of control -/
def letv {β : Type} (x : Int) (f : Int → β) : β := f x
def letm {β : Type} (x : JMem) (f : JMem → β) : β := f x
def chk {α : Type} (P : Prop) [Decidable P] (o : Option α) : Option α := if P then o else none
def bnd {α : Type} (o : Option (Int × JMem)) (f : Int → JMem → Option α) : Option α := o.bind (fun q => f q.1 q.2)
abbrev jin (i : Int) (n : Nat) : Prop := 0 ≤ jw i ∧ jw i < n
def jsel (x : Int) : List (Int × Nat) → Nat → Nat
  | [], d => d
  | (k, t) :: l, d => if jw x = k then t else jsel x l d
theorem letv_eq {β : Type} (x : Int) (f : Int → β) : letv x f = f x := rfl
theorem letm_eq {β : Type} (x : JMem) (f : JMem → β) : letm x f = f x := rfl
theorem chk_pos {α : Type} {P : Prop} [Decidable P] (h : P) (o : Option α) : chk P o = o := if_pos h
theorem bnd_some {α : Type} (r : Int) (M : JMem) (f : Int → JMem → Option α) : bnd (some (r, M)) f = f r M := rfl
/-! values as the machine has them -/
def jmv (ad : Nat → Nat) : Value → Value
  | .ref o => .ref (ad o)
  | v => v
theorem jmv_cat (ad : Nat → Nat) (v : Value) : (jmv ad v).category = v.category := by cases v <;> rfl
/-! layout: which cell is what -/
def jN (ci : Nat) : Nat := match vwCl[ci]? with
  | some q => q.2.2
  | none => 0
def jty (ci : Nat) : Nat → FieldType := match ci with
  | 0 => tyX0
  | 1 => tyX1
  | 2 => tyX2
  | 3 => tyX3
  | 4 => tyX4
  | 5 => tyX5
  | 6 => tyX6
  | 7 => tyX7
  | 8 => tyX8
  | 9 => tyX9
  | 10 => tyX10
  | 11 => tyX11
  | _ => tyX12
def jfv (ad : Nat → Nat) (ty : FieldType) (x : Int) (r : Option Nat) : Value := match ty with
  | .long => .long (Int64.ofInt x)
  | .object _ => va_rf (r.map ad)
  | .array _ => va_rf (r.map ad)
  | _ => .int (Int32.ofInt x)
def jE (cy : Nat → ClassId) (ad : Nat → Nat) (kd : Nat × Nat) (m : Nat → Int) (r : Nat → Option Nat) : va_E := match kd.1 with
  | 0 => .inr (kd.2, (List.range (jN kd.2)).map (fun k => jfv ad (jty kd.2 k) (m k) (r k)))
  | 1 => .inl (cy 0, kd.2, .inl (fun j => Int32.ofInt (m j)))
  | 2 => .inl (cy 1, kd.2, .inr (.inl (fun j => Int64.ofInt (m j))))
  | 3 => .inl (cy 2, kd.2, .inl (fun j => Int32.ofInt (m j)))
  | t => .inl (cy t, kd.2, .inr (.inr (.inr (.inr (fun j => (r j).map ad)))))
/-- what each cell is: an object of a class; an int, long, byte array; an array of references -/
def jGl : List (Nat × Nat) := [(0, 11), (0, 7), (4, 4), (2, 60), (2, 60), (2, 60), (2, 60), (1, 4), (1, 4), (0, 6), (3, 900), (2, 27), (0, 2), (0, 4), (2, 22), (1, 22), (1, 22), (1, 8), (1, 8), (1, 8), (1, 8), (1, 8), (1, 8), (1, 8), (1, 8), (0, 1), (1, 8), (1, 8), (1, 6), (1, 8), (1, 8), (1, 8), (1, 8), (0, 10), (0, 9), (1, 60), (1, 60), (1, 60), (1, 60), (1, 3), (0, 4), (2, 22), (1, 22), (1, 22), (1, 8), (1, 8), (1, 8), (1, 8), (1, 8), (1, 8), (1, 8), (1, 8), (0, 1), (1, 8), (1, 8), (1, 6), (1, 8), (1, 8), (1, 8), (1, 8), (0, 9), (1, 60), (1, 60), (1, 60), (1, 60), (5, 3), (6, 3), (7, 3), (0, 1), (1, 8), (1, 8), (1, 6), (1, 8), (1, 8), (1, 8), (1, 8), (0, 8), (1, 6), (1, 8), (0, 5), (1, 256), (1, 256), (0, 3), (1, 20), (1, 20), (1, 20), (0, 0), (1, 5), (1, 60), (0, 0), (1, 5), (1, 60), (0, 4), (2, 22), (1, 22), (1, 22), (1, 8), (1, 8), (1, 8), (1, 8), (1, 8), (1, 8), (1, 8), (1, 8), (0, 1), (1, 8), (1, 8), (1, 6), (1, 8), (1, 8), (1, 8), (1, 8), (0, 9), (1, 60), (1, 60), (1, 60), (1, 60), (0, 4), (2, 22), (1, 22), (1, 22), (1, 8), (1, 8), (1, 8), (1, 8), (1, 8), (1, 8), (1, 8), (1, 8), (0, 1), (1, 8), (1, 8), (1, 6), (1, 8), (1, 8), (1, 8), (1, 8), (0, 9), (1, 60), (1, 60), (1, 60), (1, 60), (0, 4), (2, 22), (1, 22), (1, 22), (1, 8), (1, 8), (1, 8), (1, 8), (1, 8), (1, 8), (1, 8), (1, 8), (0, 1), (1, 8), (1, 8), (1, 6), (1, 8), (1, 8), (1, 8), (1, 8), (0, 9), (1, 60), (1, 60), (1, 60), (1, 60), (0, 12), (1, 3160), (2, 132), (1, 4), (1, 4), (2, 240), (3, 900), (3, 900), (1, 3), (1, 520), (1, 8), (1, 8), (1, 6), (2, 9), (1, 256), (1, 256), (1, 80), (1, 5), (1, 5)]
def jG (a : Nat) : Nat × Nat := jGl.getD a (9, 0)
/-- what its references are -/
def jRl : List (List (Option Nat)) := [[none, none, none, some 1, some 9, some 12, some 33, some 40, some 52, some 60, some 65, some 66, some 67, none, some 68, some 76, some 79, some 82, some 86, some 89], [some 2, some 7, some 8], [some 3, some 4, some 5, some 6], [], [], [], [], [], [], [some 10, none, none, none, none, none, none, none, none, none, some 11], [], [], [some 9, some 13, some 25], [none, none, none, none, none, some 14, some 15, some 16, some 17, some 18, some 19, some 20, some 21, some 22, some 23, some 24], [], [], [], [], [], [], [], [], [], [], [], [none, none, none, none, none, some 26, some 27, some 28, some 29, some 30, some 31, some 32], [], [], [], [], [], [], [], [some 9, some 34, some 39], [none, none, none, some 35, some 36, some 37, some 38], [], [], [], [], [], [none, none, none, none, none, some 41, some 42, some 43, some 44, some 45, some 46, some 47, some 48, some 49, some 50, some 51], [], [], [], [], [], [], [], [], [], [], [], [none, none, none, none, none, some 53, some 54, some 55, some 56, some 57, some 58, some 59], [], [], [], [], [], [], [], [none, none, none, some 61, some 62, some 63, some 64], [], [], [], [], [some 92, some 117, some 142], [some 104, some 129, some 154], [some 112, some 137, some 162], [none, none, none, none, none, some 69, some 70, some 71, some 72, some 73, some 74, some 75], [], [], [], [], [], [], [], [some 77, some 78], [], [], [some 80, some 81], [], [], [none, some 83, some 84, some 85], [], [], [], [none, some 87, none, none, some 88], [], [], [none, some 90, none, none, some 91], [], [], [none, none, none, none, none, some 93, some 94, some 95, some 96, some 97, some 98, some 99, some 100, some 101, some 102, some 103], [], [], [], [], [], [], [], [], [], [], [], [none, none, none, none, none, some 105, some 106, some 107, some 108, some 109, some 110, some 111], [], [], [], [], [], [], [], [none, none, none, some 113, some 114, some 115, some 116], [], [], [], [], [none, none, none, none, none, some 118, some 119, some 120, some 121, some 122, some 123, some 124, some 125, some 126, some 127, some 128], [], [], [], [], [], [], [], [], [], [], [], [none, none, none, none, none, some 130, some 131, some 132, some 133, some 134, some 135, some 136], [], [], [], [], [], [], [], [none, none, none, some 138, some 139, some 140, some 141], [], [], [], [], [none, none, none, none, none, some 143, some 144, some 145, some 146, some 147, some 148, some 149, some 150, some 151, some 152, some 153], [], [], [], [], [], [], [], [], [], [], [], [none, none, none, none, none, some 155, some 156, some 157, some 158, some 159, some 160, some 161], [], [], [], [], [], [], [], [none, none, none, some 163, some 164, some 165, some 166], [], [], [], [], [some 168, some 169, none, none, none, some 170, some 171, some 172, some 173, some 174, none, none, none, none, none, none, none, none, none, none, none, some 175, none, none, some 176, some 177, some 178, none, some 179, some 180, some 181, some 182, none, none, some 183, some 184, some 185], [], [], [], [], [], [], [], [], [], [], [], [], [], [], [], [], [], []]
def jR (a k : Nat) : Option Nat := (jRl.getD a []).getD k none
def jNN : Nat := 186
/-- what the machine is, for one run of the law: classes, arrays' classes, the first new address, the launch, where the two texts lie -/
abbrev JG : Type := va_G × (Nat → ClassId) × Nat × Launch × (Nat → Nat) × (Nat → Nat) × (Nat × Nat × (Nat → Int32))
def jA (g : JG) : Nat → Prop := fun q => g.2.2.1 ≤ q
def jtys (g : JG) : List (ClassId × FieldType) := [(g.2.1 0, .int), (g.2.1 1, .long), (g.2.1 2, .byte), (g.2.1 4, .array .long), (g.2.1 5, .object RX4), (g.2.1 6, .object RX1), (g.2.1 7, .object RX9)]
def jWl (cy : Nat → ClassId) (n : Nat) (ad : Nat → Nat) (ρ : JRho) (M : JMem) : va_W := (List.range n).map (fun k => (ad k, jE cy ad (jG k) (M k) (ρ k)))
theorem jWl_get {cy : Nat → ClassId} {n : Nat} {ad : Nat → Nat} {ρ : JRho} {M : JMem} {a : Nat} (h : a < n) : (jWl cy n ad ρ M)[a]? = some (ad a, jE cy ad (jG a) (M a) (ρ a)) := by
  unfold jWl
  rw [List.getElem?_map, List.getElem?_range h]
  rfl
theorem jWl_set {cy : Nat → ClassId} {n : Nat} {ad : Nat → Nat} {ρ ρ' : JRho} {M M' : JMem} {a : Nat} (hM : ∀ b, b ≠ a → M' b = M b) (hρ : ∀ b, b ≠ a → ρ' b = ρ b) : (jWl cy n ad ρ M).set a (ad a, jE cy ad (jG a) (M' a) (ρ' a)) = jWl cy n ad ρ' M' := by
  apply List.ext_getElem?
  intro k
  by_cases hk : k < n
  · by_cases e : k = a
    · subst e
      rw [List.getElem?_set_self (by unfold jWl; simpa using hk), jWl_get hk]
    · rw [List.getElem?_set_ne (Ne.symm e), jWl_get hk, jWl_get hk, hM k e, hρ k e]
  · rw [List.getElem?_eq_none (by unfold jWl; simpa using hk), List.getElem?_eq_none (by unfold jWl; simpa using hk)]
/-- the heap holds the world -/
def jH (g : JG) (n : Nat) (ad : Nat → Nat) (ρ : JRho) (M : JMem) (H : Heap) : Prop := va_P g.1 vwCl (jWl g.2.1 n ad ρ M) H ∧ va_D (jA g) (jWl g.2.1 n ad ρ M)
def jNW : List Cond := [.methodLinkNest "CageLeave$ParkReader" 11 ⟨"CageLeave$Plan", "<init>", "()V"⟩ "CageLeave", .methodLinkNest "CageLeave$ParkReader" 20 ⟨"CageLeave$Now", "<init>", "()V"⟩ "CageLeave", .methodLinkNest "CageLeave$WeeksReader" 11 ⟨"CageLeave$Weeks", "<init>", "()V"⟩ "CageLeave", .methodLinkNest "CageLeave" 52 ⟨"CageLeave$Plan", "<init>", "()V"⟩ "CageLeave", .methodLinkNest "CageLeave" 59 ⟨"CageLeave$Now", "<init>", "()V"⟩ "CageLeave", .methodLinkNest "CageLeave" 66 ⟨"CageLeave$Weeks", "<init>", "()V"⟩ "CageLeave", .methodLinkNest "CageLeave" 91 ⟨"CageLeave$Ways", "<init>", "()V"⟩ "CageLeave", .methodLinkNest "CageLeave" 98 ⟨"CageLeave$Rooms", "<init>", "()V"⟩ "CageLeave", .methodLinkNest "CageLeave" 105 ⟨"CageLeave$Parrot", "<init>", "()V"⟩ "CageLeave", .methodLinkNest "CageLeave" 112 ⟨"CageLeave$Life", "<init>", "()V"⟩ "CageLeave", .methodLinkNest "CageLeave$ParkReader" 150 ⟨"CageLeave", "isIn", "(II)Z"⟩ "CageLeave", .methodLinkNest "CageLeave$Now" 68 ⟨"CageLeave", "isIn", "(II)Z"⟩ "CageLeave", .methodLinkNest "CageLeave$Ways" 30 ⟨"CageLeave", "isIn", "(II)Z"⟩ "CageLeave", .methodLinkNest "CageLeave$Rooms" 27 ⟨"CageLeave", "isIn", "(II)Z"⟩ "CageLeave", .methodLinkNest "CageLeave$Parrot" 52 ⟨"CageLeave", "isIn", "(II)Z"⟩ "CageLeave", .methodLinkNest "CageLeave$Life" 123 ⟨"CageLeave", "isIn", "(II)Z"⟩ "CageLeave"]
theorem jNW_in : ∀ w ∈ jNW, w ∈ lw_tbl := by
  have h : jNW = ([297, 396, 477, 529, 531, 533, 539, 553, 566, 585, 861, 981, 1172, 1250, 1294, 1349] : List Nat).filterMap (fun i => lw_tbl[i]?) := by decide +kernel
  intro w hw
  rw [h] at hw
  obtain ⟨i, -, hi⟩ := List.mem_filterMap.mp hw
  exact List.mem_of_getElem? hi
theorem jNW_form (w : Cond) (hw : w ∈ jNW) : ∃ (a : String) (i : Nat) (x : MethodName) (b : String), w = .methodLinkNest a i x b := by
  simp only [jNW, List.mem_cons, List.not_mem_nil, or_false] at hw
  rcases hw with rfl | rfl | rfl | rfl | rfl | rfl | rfl | rfl | rfl | rfl | rfl | rfl | rfl | rfl | rfl | rfl <;> exact ⟨_, _, _, _, rfl⟩
def jTx0 : String := "odds place train from to at takes seats beast size trust out hunts ticket hour monday buy let halt any when in eaten clock loop end stop "
def jTx1 : String := " odds place train beast hunts ticket from to at takes seats size trust out hour monday buy let halt any when loop end stop in eaten clock "
def jLen : List Nat := [137, 138]
def jByt : List (List Int32) := [[111, 100, 100, 115, 32, 112, 108, 97, 99, 101, 32, 116, 114, 97, 105, 110, 32, 102, 114, 111, 109, 32, 116, 111, 32, 97, 116, 32, 116, 97, 107, 101, 115, 32, 115, 101, 97, 116, 115, 32, 98, 101, 97, 115, 116, 32, 115, 105, 122, 101, 32, 116, 114, 117, 115, 116, 32, 111, 117, 116, 32, 104, 117, 110, 116, 115, 32, 116, 105, 99, 107, 101, 116, 32, 104, 111, 117, 114, 32, 109, 111, 110, 100, 97, 121, 32, 98, 117, 121, 32, 108, 101, 116, 32, 104, 97, 108, 116, 32, 97, 110, 121, 32, 119, 104, 101, 110, 32, 105, 110, 32, 101, 97, 116, 101, 110, 32, 99, 108, 111, 99, 107, 32, 108, 111, 111, 112, 32, 101, 110, 100, 32, 115, 116, 111, 112, 32], [32, 111, 100, 100, 115, 32, 112, 108, 97, 99, 101, 32, 116, 114, 97, 105, 110, 32, 98, 101, 97, 115, 116, 32, 104, 117, 110, 116, 115, 32, 116, 105, 99, 107, 101, 116, 32, 102, 114, 111, 109, 32, 116, 111, 32, 97, 116, 32, 116, 97, 107, 101, 115, 32, 115, 101, 97, 116, 115, 32, 115, 105, 122, 101, 32, 116, 114, 117, 115, 116, 32, 111, 117, 116, 32, 104, 111, 117, 114, 32, 109, 111, 110, 100, 97, 121, 32, 98, 117, 121, 32, 108, 101, 116, 32, 104, 97, 108, 116, 32, 97, 110, 121, 32, 119, 104, 101, 110, 32, 108, 111, 111, 112, 32, 101, 110, 100, 32, 115, 116, 111, 112, 32, 105, 110, 32, 101, 97, 116, 101, 110, 32, 99, 108, 111, 99, 107, 32]]
/-! what a method's body stands on -/
/-- own class, code, locals, return type, name, room -/
abbrev JD : Type := String × ByteArray × Nat × Option FieldType × String × Room
def jTW : List Cond := lw_tbl.filter goodWord
theorem jTW_mem {k : Nat} {w : Cond} (h : lw_tbl[k]? = some w) (hg : goodWord w = true) : w ∈ jTW := List.mem_filter.mpr ⟨List.mem_of_getElem? h, hg⟩
theorem jTW_in {w : Cond} (h : w ∈ jTW) : w ∈ lw_tbl := (List.mem_filter.mp h).1
theorem jTW_good {y : MethodName} {b : ByteArray} {n : Nat} {r : Option FieldType} {w0 : Cond} (hc : Cond.code y b n r ∈ jTW) : GoodIn (w0 :: jTW) (Cond.code y b n r :: jTW) := by
  intro w hw
  have h2 : w ∈ jTW := by
    rcases List.mem_cons.mp hw with rfl | h
    · exact hc
    · exact h
  exact ⟨List.mem_cons_of_mem _ h2, good_of_word (List.mem_filter.mp h2).2⟩
def jTx (g : JG) (A : Nat → Prop) (U : State) (H : Heap) : Prop := vk_S 2 jLen jByt g.2.2.2.2.1 g.2.2.2.2.2.1 A U H ∧ vk_R RX6 48 jTx0 (g.2.2.2.2.1 0) U ∧ vk_R RX12 180 jTx1 (g.2.2.2.2.1 1) U ∧
  va_Z "java/lang/String" "COMPACT_STRINGS" "Z" (.int 1) A U H ∧ (va_Z "jdk/internal/util/Preconditions" "SIOOBE_FORMATTER" "Ljava/util/function/BiFunction;" .null A U H ∨ va_Z "jdk/internal/util/Preconditions" "SIOOBE_FORMATTER" "Ljava/util/function/BiFunction;" (.ref (g.2.2.2.2.2.1 2)) A U H) ∧ va_X g.2.2.2.2.2.2.1 g.2.2.2.2.2.2.2.1 g.2.2.2.2.2.2.2.2 U H ∧ ¬ A g.2.2.2.2.2.2.1
theorem jTx.by {g : JG} {A : Nat → Prop} {u U : State} {H H1 : Heap} (hvm : u.vm.Alike U.vm) (hR : ∀ own k tx a, vk_R own k tx a u → vk_R own k tx a U) (hq : ∀ a : Nat, a < H.size → ¬ A a → H1[a]? = H[a]?) (h : jTx g A u H) : jTx g A U H1 :=
  ⟨(h.1.moved hvm).kept hq, hR _ _ _ _ h.2.1, hR _ _ _ _ h.2.2.1, (h.2.2.2.1.moved hvm).kept hq, h.2.2.2.2.1.elim (fun q => Or.inl ((q.moved hvm).kept hq)) (fun q => Or.inr ((q.moved hvm).kept hq)), by
    obtain ⟨scr, q1, q2⟩ := h.2.2.2.2.2.1
    exact va_X.kept (va_X.moved hvm (⟨scr, q1, q2⟩ : va_X g.2.2.2.2.2.2.1 g.2.2.2.2.2.2.2.1 g.2.2.2.2.2.2.2.2 u H)) (hq _ (Array.getElem?_eq_some_iff.mp q1).1 h.2.2.2.2.2.2), h.2.2.2.2.2.2⟩
/-- arrays over the classes of the world can be made -/
def jAOA (U : State) : Prop := (Cond.arrayOver (.array .long)).before #[] U = true
theorem jAOA.moved {u U : State} (hvm : u.vm.Alike U.vm) (h : jAOA u) : jAOA U := by
  obtain ⟨comp, c, k, h1, h2, h3, h4, h5⟩ := arrayOverA_spec h
  obtain ⟨k', hk', he⟩ := hvm.2.2 _ _ h3
  have hi : (U.vm.classes.findIdx? fun (x : Class) => match x.kind with | .array component _ => component == comp | _ => false) = some c := by
    refine Eq.trans (va_idx_bare U.vm comp).symm ?_
    first | rw [hvm.bare_eq] | rw [← hvm.bare_eq]
    exact (va_idx_bare u.vm comp).trans h2
  have hkind : k'.kind = .array comp (.array .long) := by rw [he]; exact h4
  have f1 : U.vm.findClass (FieldType.array .long).toString = some comp := by rw [hvm.findClass]; exact h1
  have f2 : U.vm.findClass ("[" ++ (FieldType.array .long).toString) = some c := by rw [hvm.findClass]; exact h5
  unfold jAOA Cond.before Cond.holds
  simp only [Cond.value]
  rw [f1, Option.bind_some]
  refine (congrArg (fun o : Option Nat => (o.bind (fun c => (U.vm.classes[c]?).map fun (k : Class) => match k.kind with | .array _ ty => decide (ty = FieldType.array .long) && decide (U.vm.findClass ("[" ++ (FieldType.array .long).toString) = some c) | _ => false) == some true)) hi).trans ?_
  simp [hk', hkind, f2]
def jAO (U : State) : Prop := va_AO RX4 U ∧ va_AO RX1 U ∧ va_AO RX9 U ∧ jAOA U
theorem jAO.moved {u U : State} (hvm : u.vm.Alike U.vm) (h : jAO u) : jAO U := ⟨va_AO.moved hvm h.1, va_AO.moved hvm h.2.1, va_AO.moved hvm h.2.2.1, jAOA.moved hvm h.2.2.2⟩
/-- what the tables say, at any state of the run -/
def jTb (g : JG) (U : State) : Prop := ((∀ w ∈ jNW, va_Nw w U) ∧ jAO U) ∧ va_K g.1 vwCl (jtys g) U
theorem jTb.warm {g : JG} {s U : State} (hW : s.WarmedH U.vm) (h : jTb g s) : jTb g U := by
  refine ⟨⟨fun w hw => ?_, h.1.2.moved hW.alike⟩, va_K.moved hW.alike h.2⟩
  have h1 := h.1.1 w hw
  have h3 : ∃ (a : String) (i : Nat) (x : MethodName) (b : String), w = .methodLinkNest a i x b := jNW_form w hw
  obtain ⟨a, i, x, b, rfl⟩ := h3
  exact va_Nw.warmM hW h1
/-- the world that a method's start and end speak of -/
def jU (g : JG) (n : Nat) (ad : Nat → Nat) (ρ : JRho) (M : JMem) (U : State) : Prop := jTb g U ∧ jTx g (jA g) U U.heap ∧ jH g n ad ρ M U.heap
/-- a method's frame -/
def jCx (g : JG) (d : JD) (p : Program) (s : State) (m : MethodId) (args : Array Value) (meth : Method) (c : Code) : Prop :=
  p.tables.exec = Jvm.exec ∧ c.code = d.2.1 ∧ c.maxLocals = d.2.2.1 ∧ meth.sig.returnType = d.2.2.2.1 ∧ meth.locks = false ∧ meth.name = d.2.2.2.2.1 ∧ s.vm.findClass d.1 = some m.cls ∧ (∀ w ∈ jTW, w.before args s = true) ∧ jTb g s ∧ jTx g (jA g) s s.heap
/-- the locals: by place, what is known of them -/
def jhas (ad : Nat → Nat) (ls : Array Slot) (nL : Nat) (lo : List (Option Value)) : Prop := ls.size = nL ∧ lv_wf ls ∧ ∀ (i : Nat) (v : Value), lo[i]? = some (some v) → ls[i]? = some (.val (jmv ad v))
abbrev JQ (α : Type) : Type := α → List Frame → Array Value → State → State → Prop
/-- THE JUDGEMENT: if o is some answer, the machine, from here, comes to a state as Qf says of that answer -/
def jO {α : Type} (g : JG) (d : JD) (Qf : JQ α) (cs : Nat × Nat) (n : Nat) (ad : Nat → Nat) (ρ : JRho) (pc : Nat) (lo : List (Option Value)) (st : List Value) (M : JMem) (o : Option α) : Prop :=
  ∀ x : α, o = some x → ∀ (p : Program) (e : Env) (s : State) (m : MethodId) (args : Array Value) (below : List Frame) (meth : Method) (c : Code) (H : Heap) (locs : List Loc) (ls : Array Slot),
    jCx g d p s m args meth c → jH g n ad ρ M H → va_S (jA g) s.heap H locs → jhas ad ls d.2.2.1 lo → W p g.2.2.2.1 e d.2.2.2.2.2 s m args below meth c H locs cs.1 cs.2 (Qf x below args s) (F0 m pc ls (st.map (jmv ad)))
/-- a row that looks at neither heap nor branches -/
theorem jO.row {α : Type} {g : JG} {d : JD} {Qf : JQ α} {cs : Nat × Nat} {n : Nat} {ad : Nat → Nat} {ρ : JRho} {pc pc' : Nat} {lo : List (Option Value)} {st st' : List Value} {M : JMem} {o : Option α}
    (k : jO g d Qf cs n ad ρ pc' lo st' M o)
    (h : ∀ (p : Program) (e : Env) (s : State) (m : MethodId) (args : Array Value) (below : List Frame) (meth : Method) (c : Code) (H : Heap) (locs : List Loc) (ls : Array Slot) (Q : State → Prop), jCx g d p s m args meth c → jhas ad ls d.2.2.1 lo →
      W p g.2.2.2.1 e d.2.2.2.2.2 s m args below meth c H locs cs.1 cs.2 Q (F0 m pc' ls (st'.map (jmv ad))) → W p g.2.2.2.1 e d.2.2.2.2.2 s m args below meth c H locs cs.1 cs.2 Q (F0 m pc ls (st.map (jmv ad)))) : jO g d Qf cs n ad ρ pc lo st M o := by
  intro x hx p e s m args below meth c H locs ls C hH hS hl
  exact h p e s m args below meth c H locs ls _ C hl (k x hx p e s m args below meth c H locs ls C hH hS hl)
theorem jO.none {α : Type} {g : JG} {d : JD} {Qf : JQ α} {cs : Nat × Nat} {n : Nat} {ad : Nat → Nat} {ρ : JRho} {pc : Nat} {lo : List (Option Value)} {st : List Value} {M : JMem} : jO g d Qf cs n ad ρ pc lo st M none := fun x hx => by cases hx
/-- fewer locals known -/
def jle : List (Option Value) → List (Option Value) → Prop
  | [], _ => True
  | none :: a, b => jle a b.tail
  | some v :: a, b => b.head? = some (some v) ∧ jle a b.tail
theorem jle_at : ∀ (a b : List (Option Value)), jle a b → ∀ (i : Nat) (v : Value), a[i]? = some (some v) → b[i]? = some (some v)
  | [], _, _, i, v, h => by simp at h
  | none :: a, b, hl, i, v, h => by
    cases i with
    | zero => simp at h
    | succ i =>
      rw [List.getElem?_cons_succ] at h
      have h2 := jle_at a b.tail hl i v h
      cases b with
      | nil => simp at h2
      | cons w b => simpa using h2
  | some u :: a, b, hl, i, v, h => by
    obtain ⟨hh, hl⟩ := hl
    cases b with
    | nil => simp at hh
    | cons w b =>
      cases i with
      | zero => simp at h hh ⊢; rw [hh, h]
      | succ i =>
        rw [List.getElem?_cons_succ] at h ⊢
        exact jle_at a b hl i v h
theorem jO.sub {α : Type} {g : JG} {d : JD} {Qf : JQ α} {cs : Nat × Nat} {n : Nat} {ad : Nat → Nat} {ρ : JRho} {pc : Nat} {lo lo' : List (Option Value)} {st : List Value} {M : JMem} {o : Option α}
    (k : jO g d Qf cs n ad ρ pc lo' st M o) (h : jle lo' lo) : jO g d Qf cs n ad ρ pc lo st M o := by
  intro x hx p e s m args below meth c H locs ls C hH hS hl
  exact k x hx p e s m args below meth c H locs ls C hH hS ⟨hl.1, hl.2.1, fun i v hv => hl.2.2 i v (jle_at lo' lo h i v hv)⟩
end JBASE

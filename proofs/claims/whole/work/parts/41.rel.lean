section PREL
/-! THE INVARIANT: what the one object's cells and the other's have to do with each other.
 P a plan's block, N a now's block, W a weeks' block (by cell behind the object, place); A the reference's numbers of one state -/
abbrev JV : Type := Nat → Nat → Int
def blk (M : JMem) (a z : Nat) : JV := fun j k => M (a + j % z) k
def slot (M : JMem) (s : Nat) : Nat → Int := fun k => M 168 (s + k)
/-- places, trains, beasts, odds; what trains and beasts are -/
def RP (P : JV) (A : Nat → Int) : Prop :=
  (P 0 0 = A 0 ∧ 0 ≤ A 0 ∧ A 0 ≤ 6) ∧ (P 0 1 = A 1 ∧ 0 ≤ A 1 ∧ A 1 ≤ 8) ∧ (P 0 2 = A 2 ∧ 0 ≤ A 2 ∧ A 2 ≤ 8) ∧ (P 0 3 = A 3 ∧ 0 ≤ A 3 ∧ A 3 ≤ 16) ∧ (0 < A 2 → 0 < A 0) ∧
  (∀ t : Nat, t < 8 → (t : Int) < A 1 → (P 4 t = A (8 + 6 * t) ∧ 0 ≤ A (8 + 6 * t) ∧ A (8 + 6 * t) < A 0) ∧ (P 5 t = A (9 + 6 * t) ∧ 0 ≤ A (9 + 6 * t) ∧ A (9 + 6 * t) < A 0) ∧ (P 6 t = A (10 + 6 * t) ∧ 0 ≤ A (10 + 6 * t) ∧ A (10 + 6 * t) ≤ 63) ∧ (P 7 t = A (11 + 6 * t) ∧ 1 ≤ A (11 + 6 * t) ∧ A (11 + 6 * t) ≤ 24) ∧ (P 8 t = A (12 + 6 * t) ∧ 1 ≤ A (12 + 6 * t) ∧ A (12 + 6 * t) ≤ 9)) ∧
  (∀ b : Nat, b < 8 → (b : Int) < A 2 → (P 9 b = A (56 + 10 * b) ∧ 1 ≤ A (56 + 10 * b) ∧ A (56 + 10 * b) ≤ 9) ∧ (P 10 b = A (57 + 10 * b) ∧ 0 ≤ A (57 + 10 * b) ∧ A (57 + 10 * b) ≤ 16) ∧ (P 11 b = A (62 + 10 * b) ∧ S8 (A (62 + 10 * b)) ∧ bit (A (62 + 10 * b)) b = false ∧ ∀ o : Nat, o < 8 → A 2 ≤ (o : Int) → bit (A (62 + 10 * b)) o = false))
def eaten (A : Nat → Int) (b : Nat) : Prop := A (59 + 10 * b) = 1
/-- how all stands -/
def RN (N : JV) (A : Nat → Int) : Prop :=
  (N 0 0 = A 4 ∧ 0 ≤ A 4 ∧ A 4 ≤ 999) ∧ (N 0 1 = A 5 ∧ 0 ≤ A 5 ∧ A 5 ≤ 64) ∧
  (S8 (N 0 2) ∧ ∀ b : Nat, b < 8 → (bit (N 0 2) b = true ↔ (b : Int) < A 2 ∧ A (58 + 10 * b) = 1)) ∧ (∀ b : Nat, b < 8 → (b : Int) < A 2 → A (58 + 10 * b) = 0 ∨ A (58 + 10 * b) = 1) ∧
  (S8 (N 0 3) ∧ ∀ b : Nat, b < 8 → (bit (N 0 3) b = true ↔ (b : Int) < A 2 ∧ A (59 + 10 * b) = 1)) ∧ (∀ b : Nat, b < 8 → (b : Int) < A 2 → A (59 + 10 * b) = 0 ∨ A (59 + 10 * b) = 1) ∧
  (S8 (N 0 4) ∧ ∀ t : Nat, t < 8 → (bit (N 0 4) t = true ↔ (t : Int) < A 1 ∧ A (13 + 6 * t) = 1)) ∧ (∀ t : Nat, t < 8 → (t : Int) < A 1 → A (13 + 6 * t) = 0 ∨ A (13 + 6 * t) = 1) ∧
  (∀ b : Nat, b < 8 → (b : Int) < A 2 → N 1 b = A (61 + 10 * b) ∧ S8 (A (61 + 10 * b)) ∧ ∀ t : Nat, t < 8 → A 1 ≤ (t : Int) → bit (A (61 + 10 * b)) t = false) ∧
  (∀ b : Nat, b < 8 → (b : Int) < A 2 → N 2 b = A (60 + 10 * b)) ∧ (∀ b : Nat, b < 8 → A 2 ≤ (b : Int) → N 2 b = 0) ∧ (∀ b : Nat, b < 8 → 0 ≤ N 2 b ∧ N 2 b ≤ A 4) ∧ A 6 = N 2 0 + N 2 1 + N 2 2 + N 2 3 + N 2 4 + N 2 5 + N 2 6 + N 2 7 ∧
  (∀ p : Nat, p < 6 → S8 (N 3 p) ∧ ∀ b : Nat, b < 8 → (bit (N 3 p) b = true ↔ (b : Int) < A 2 ∧ ¬ A (59 + 10 * b) = 1 ∧ A (63 + 10 * b) = p)) ∧
  (∀ t : Nat, t < 8 → S8 (N 4 t) ∧ ∀ b : Nat, b < 8 → (bit (N 4 t) b = true ↔ (b : Int) < A 2 ∧ ¬ A (59 + 10 * b) = 1 ∧ A (63 + 10 * b) = 10 + t)) ∧
  (∀ b : Nat, b < 8 → (b : Int) < A 2 → ¬ A (59 + 10 * b) = 1 → (0 ≤ A (63 + 10 * b) ∧ A (63 + 10 * b) < A 0) ∨ (10 ≤ A (63 + 10 * b) ∧ A (63 + 10 * b) < 10 + A 1)) ∧
  (∀ t : Nat, t < 8 → ∀ b : Nat, b < 8 → bit (N 4 t) b = true → N 5 t = A (64 + 10 * b) + A (11 + 6 * t) ∧ 0 ≤ A (64 + 10 * b) ∧ A (64 + 10 * b) ≤ 63 ∧ A (64 + 10 * b) = A (10 + 6 * t))
/-! words: small letters as 1 to 26; the one object tells them by five bits a letter, the other by eight -/
def isWd (w : List Nat) : Prop := 1 ≤ w.length ∧ w.length ≤ 8 ∧ ∀ c ∈ w, 1 ≤ c ∧ c ≤ 26
def wd5 (w : List Nat) : Nat := w.foldl (fun v c => 32 * v + c) 0
def wd8 (w : List Nat) : Nat := w.foldl (fun v c => 256 * v + (c + 96)) 0
/-- names: K the reference's names of one state; each told name is of one thing -/
def RK (P : JV) (K : Nat → Int) : Prop :=
  P 0 4 = P 0 0 + P 0 1 + P 0 2 ∧
  (∃ (nw : Nat → List Nat), (∀ i : Nat, (i : Int) < P 0 4 → isWd (nw i) ∧ P 1 i = (wd5 (nw i) : Nat)) ∧ (∀ i j : Nat, (i : Int) < P 0 4 → (j : Int) < P 0 4 → nw i = nw j → i = j) ∧
    (∀ i : Nat, (i : Int) < P 0 4 → ((P 2 i = 1 ∧ 0 ≤ P 3 i ∧ P 3 i < P 0 0 ∧ K (P 3 i).toNat = (wd8 (nw i) : Nat)) ∨ (P 2 i = 2 ∧ 0 ≤ P 3 i ∧ P 3 i < P 0 1 ∧ K (6 + (P 3 i).toNat) = (wd8 (nw i) : Nat)) ∨ (P 2 i = 8 ∧ 0 ≤ P 3 i ∧ P 3 i < P 0 2 ∧ K (14 + (P 3 i).toNat) = (wd8 (nw i) : Nat)))) ∧
    (∀ k : Nat, (k : Int) < P 0 0 → ∃ i : Nat, (i : Int) < P 0 4 ∧ P 2 i = 1 ∧ P 3 i = k) ∧ (∀ k : Nat, (k : Int) < P 0 1 → ∃ i : Nat, (i : Int) < P 0 4 ∧ P 2 i = 2 ∧ P 3 i = k) ∧ (∀ k : Nat, (k : Int) < P 0 2 → ∃ i : Nat, (i : Int) < P 0 4 ∧ P 2 i = 8 ∧ P 3 i = k))
end PREL

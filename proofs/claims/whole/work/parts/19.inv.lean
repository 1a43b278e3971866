/-! ===== the class's cells, well formed; the reference's against a picture K of the class's ===== -/
abbrev MI : Type := Nat → Nat → Int
abbrev MJ : Type := Nat → Nat → Int64
def Rf (I : MI) : Prop := ∀ k, k < 8 → 0 ≤ I 51 k ∧ I 51 k ≤ 1000
def WTh (I : MI) : Prop := 0 ≤ I 1 1 ∧ I 1 1 ≤ 40 ∧ ∀ i, i < 40 → 0 ≤ I 2 i ∧ I 2 i < 6
def WRu (I : MI) : Prop := (∀ p : Nat, p < 64 → -1 ≤ I 4 p ∧ I 4 p ≤ 7 ∧ (4 ≤ I 4 p → I 4 p ≤ 6 → 0 ≤ I 5 p ∧ I 5 p < p ∧ 0 ≤ I 6 p ∧ I 6 p < p) ∧ (I 4 p = 2 → 0 ≤ I 5 p ∧ I 5 p < 8 ∧ I 6 p = -1) ∧ (I 4 p = 3 → 0 ≤ I 5 p ∧ I 5 p < 8 ∧ 0 ≤ I 6 p ∧ I 6 p < 8) ∧ (0 ≤ I 4 p → I 4 p ≤ 1 → I 5 p = -1 ∧ I 6 p = -1)) ∧ ∀ k, k < 48 → -1 ≤ I 7 k ∧ I 7 k < 64
abbrev isUsr (n u : Int) : Prop := (0 ≤ u ∧ u < 40) ∨ (100 ≤ u ∧ u < 1000 ∧ u - 100 < n) ∨ (1000 ≤ u ∧ (u - 1000) / 10 < n ∧ (u - 1000) % 10 < 8)
def clubOf (u : Int) : Int := if 1000 ≤ u then (u - 1000) / 10 * 8 + (u - 1000) % 10 else -1
def toldOf (u : Int) : Int := if 100 ≤ u ∧ u < 1000 then u - 100 else -1
/-- pair p, but for its turns -/
def WPr (I : MI) (p : Nat) : Prop := 0 ≤ I 11 p ∧ I 11 p < I 1 1 ∧ 0 ≤ I 12 p ∧ I 12 p < 8 ∧ isUsr (I 1 1) (I 13 p) ∧ 0 ≤ I 14 p ∧ I 14 p ≤ 1000000 ∧ I 17 p = I 11 p * 8 + I 12 p ∧ I 18 p = clubOf (I 13 p) ∧ I 19 p = toldOf (I 13 p)
/-- how many of the first n pairs are struck -/
def cS (I : MI) : Nat → Int
  | 0 => 0
  | n + 1 => cS I n + (if I 16 n = -1 then 0 else 1)
/-- pairs and changes, no turn being open -/
def WLe (I : MI) : Prop := 0 ≤ I 10 9 ∧ I 10 9 ≤ 400 ∧ 0 ≤ I 10 13 ∧ I 10 13 ≤ 200 ∧ I 10 11 = I 10 9 + cS I (I 10 9).toNat ∧
  (∀ p : Nat, (p : Int) < I 10 9 → WPr I p ∧ 1 ≤ I 15 p ∧ I 15 p ≤ I 10 13 ∧ (I 16 p = -1 ∨ (I 15 p ≤ I 16 p ∧ I 16 p ≤ I 10 13))) ∧
  (∀ c : Nat, (c : Int) < I 10 11 → 0 ≤ I 20 c ∧ I 20 c / 2 < I 10 9) ∧
  I 21 0 = 0 ∧ I 21 (I 10 13).toNat = I 10 11 ∧ (∀ t : Nat, (t : Int) < I 10 13 → I 21 t ≤ I 21 (t + 1) ∧ I 21 (t + 1) ≤ I 21 t + 20)
def WAct (I : MI) (a : Nat) : Prop := 0 ≤ I 23 a ∧ I 23 a < I 1 1 ∧ 0 ≤ I 24 a ∧ I 24 a < 8 ∧ isUsr (I 1 1) (I 25 a) ∧ -1 ≤ I 26 a ∧ I 26 a ≤ 1000000
def WCnd (I : MI) (a : Nat) : Prop := 0 ≤ I 27 a ∧ I 27 a < I 1 1 ∧ 0 ≤ I 28 a ∧ I 28 a < 8 ∧ isUsr (I 1 1) (I 29 a) ∧ 0 ≤ I 30 a ∧ I 30 a ≤ 1
def WDr (I : MI) : Prop := 0 ≤ I 22 4 ∧ I 22 4 ≤ 20 ∧ 0 ≤ I 22 9 ∧ I 22 9 ≤ 10 ∧ (∀ a : Nat, (a : Int) < I 22 4 → WAct I a) ∧ ∀ a : Nat, (a : Int) < I 22 9 → WCnd I a
def WTk (I : MI) : Prop := 0 ≤ I 0 11 ∧ I 0 11 ≤ 1000000
def WRe (I : MI) : Prop := 0 ≤ I 44 5 ∧ I 44 5 ≤ 60 ∧ (I 44 6 = -1 ∨ (0 ≤ I 44 6 ∧ I 44 6 < I 1 1 * 8 ∧ 0 ≤ I 44 7 ∧ I 44 7 < 40 ∧ 0 ≤ I 44 8 ∧ I 44 8 ≤ I 10 13))
def WRo (I : MI) : Prop := -1 ≤ I 48 1 ∧ I 48 1 ≤ 40
/-- the reference against K -/
def RTh (K I : MI) : Prop := I 52 1 = K 1 1 ∧ ∀ i : Nat, (i : Int) < K 1 1 → I 53 i = K 2 i
def RRu (K I : MI) : Prop := (∀ p, p < 64 → I 54 p = K 4 p ∧ (2 ≤ K 4 p → K 4 p ≤ 6 → I 55 p = K 5 p) ∧ (3 ≤ K 4 p → K 4 p ≤ 6 → I 56 p = K 6 p) ∧ (K 4 p = 7 → I 57 p = K 5 p)) ∧ ∀ k, k < 48 → I 58 k = K 7 k
def RPr (K I : MI) : Prop := I 52 13 = K 10 9 ∧ ∀ p : Nat, (p : Int) < K 10 9 → I 59 p = K 11 p ∧ I 60 p = K 12 p ∧ I 61 p = K 13 p ∧ I 62 p = K 14 p ∧ I 63 p = K 15 p ∧ I 64 p = K 16 p
def RLg (K I : MI) : Prop := I 52 17 = K 10 11 ∧ I 52 18 = K 10 13 ∧ (∀ c : Nat, (c : Int) < K 10 11 → 0 ≤ I 67 c ∧ I 67 c ≤ 1 ∧ K 20 c = 2 * I 66 c + I 67 c) ∧ ∀ (c t : Nat), (c : Int) < K 10 11 → (t : Int) ≤ K 10 13 → ((c : Int) < K 21 t ↔ I 65 c ≤ t)
def RDr (K I : MI) : Prop := I 52 29 = K 22 4 ∧ I 52 30 = K 22 9 ∧ (∀ a : Nat, (a : Int) < K 22 4 → I 68 a = (if K 26 a = -1 then 0 else 1) ∧ I 70 a = K 23 a ∧ I 71 a = K 24 a ∧ I 72 a = K 25 a ∧ (K 26 a ≠ -1 → I 73 a = K 26 a)) ∧
  ∀ a : Nat, (a : Int) < K 22 9 → I 74 a = K 27 a ∧ I 75 a = K 28 a ∧ I 76 a = K 29 a ∧ I 69 a = K 30 a
def RSc (K I : MI) : Prop := I 52 19 = K 0 11 ∧ I 52 31 = K 0 13 ∧ ∀ k : Nat, k < 8 → I 77 (k + 2) = K 51 k
def RRe (K I : MI) : Prop := I 52 56 = K 44 5 ∧ (∀ i : Nat, (i : Int) < K 44 5 → I 93 i = K 45 i) ∧ I 52 61 = (if K 44 6 = -1 then 0 else 1) ∧ (K 44 6 ≠ -1 → I 52 57 * 8 + I 52 58 = K 44 6 ∧ 0 ≤ I 52 58 ∧ I 52 58 < 8 ∧ I 52 59 = K 44 7 ∧ I 52 60 = K 44 8)
def RRo (K I : MI) : Prop := I 52 64 = K 48 1 ∧ ∀ i : Nat, (i : Int) < K 48 1 → I 94 i = K 49 i
/-- the reference's versions: what is kept of a look is of no use behind a change -/
def RVn (I : MI) : Prop := 1 ≤ I 52 40 ∧ I 52 40 ≤ 2000 ∧ 0 ≤ I 52 41 ∧ I 52 41 ≤ I 52 40 ∧ I 52 43 = -1 ∧ I 52 37 = 0
def agX (I I' : MI) : Prop := ∀ i, i < 52 → I' i = I i
def agM (I I' : MI) : Prop := ∀ i, 52 ≤ i → I' i = I i
/-- what a refusal writes down -/
def rfU (I : MI) (z : Int) : MI := ma I 51 (ma (I 51) (-2 - z).toNat (I 51 (-2 - z).toNat + 1))
def noU (I : MI) (z : Int) : MI := ma I 77 (ma (I 77) (-z).toNat (I 77 (-z).toNat + 1))
/-- ways of saying of a method that may write ints: answer and memory -/
abbrev QU (N : Nat) (J : MJ) (v : AV) (I1 : MI) : Option AV → M5 → Prop := fun r M' => r = some v ∧ M' = MM N I1 J
theorem ma_ma {α : Type} (f : Nat → α) (i : Nat) (v w : α) : ma (ma f i v) i w = ma f i w := by
  funext j
  unfold ma
  split <;> rfl

/-! orders, one after another -/
def pv (a : Nat → Nat) : Nat → Nat
  | 0 => 0
  | i + 1 => if a i ≤ a (i + 1) then i + 1 else pv a i
def sc (a : Nat → Nat) (x : Nat) : Nat → Nat
  | 0 => 0
  | j + 1 => if x ≤ a j then j else sc a x j
def sw (a : Nat → Nat) (i j : Nat) : Nat → Nat := fun k => if k = j then a i else if k = i then a j else a k
def rv : Nat → (Nat → Nat) → Nat → Nat → Nat → Nat
  | 0, a, _, _ => a
  | f + 1, a, lo, hi => if hi ≤ lo + 1 then a else rv f (sw a (lo + 1) hi) (lo + 1) (hi - 1)
def nx (a : Nat → Nat) (len : Nat) : Option (Nat → Nat) := if pv a (len - 1) = 0 then none else some (rv 7 (sw a (pv a (len - 1) - 1) (sc a (a (pv a (len - 1) - 1)) len)) (pv a (len - 1) - 1) (len - 1))
def toF (l : List Nat) : Nat → Nat := fun i => l.getD i 0
def cat (f : Nat → List (List Nat)) : Nat → List (List Nat)
  | 0 => []
  | k + 1 => cat f k ++ f k
def lx : Nat → Nat → List (List Nat)
  | 0, _ => [[]]
  | k + 1, m => cat (fun w => if m.testBit w then (lx k (m - 2 ^ w)).map (List.cons w) else []) 6
def stp (a : Nat → Nat) (len : Nat) (l' : List Nat) : Bool := match nx a len with
  | none => false
  | some b => (List.range len).map b == l'
def chn (len : Nat) : List (List Nat) → Bool
  | [] => true
  | [l] => (nx (toF l) len).isNone
  | l :: l' :: r => stp (toF l) len l' && chn len (l' :: r)
def fst1 (m : Nat) : List Nat := (List.range 6).filter (fun w => m.testBit w)
def gd1 (m len : Nat) (l : List Nat) : Bool := l.length == len && l.all (fun w => w < 6 && m.testBit w) && (List.range len).all (fun i => (List.range i).all (fun j => ! (toF l j == toF l i)))
theorem lx_chn : ∀ m, m < 64 → chn (aCnt m 6) (lx (aCnt m 6) m) = true := by decide +kernel
theorem lx_fst : ∀ m, m < 64 → (lx (aCnt m 6) m).head? = some (fst1 m) := by decide +kernel
theorem lx_len : ∀ m, m < 64 → (lx (aCnt m 6) m).length ≤ 720 := by decide +kernel
theorem lx_gd : ∀ m, m < 64 → (lx (aCnt m 6) m).all (gd1 m (aCnt m 6)) = true := by decide +kernel

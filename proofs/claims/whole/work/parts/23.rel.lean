/-! the town and how it stands as whole numbers: T 0 0..3 movers things works rules, T 1 paces, T 2 weights, T 3 laws, T 4, T 5 rules, T (10 + w) a work; S 0 movers' places, S 1 things', S 2 states, S 3 ends, S 4 0 the minute -/
theorem it_for {α : Type} {f : Nat → α → α} {a : α} (g : Nat → α) {N : Nat} (h0 : a = g 0) (hs : ∀ k, k < N → f k (g k) = g (k + 1)) : ∀ k, k ≤ N → itN f a k = g k
  | 0, _ => h0
  | k + 1, h => by
    show f k (itN f a k) = g (k + 1)
    rw [it_for g h0 hs k (by omega)]
    exact hs k (by omega)
abbrev Tw : Type := Nat → Nat → Int
/-- the class's town b holds T -/
def CT (A : Mm) (b : Nat) (T : Tw) : Prop :=
  (A.1 b 0 = iI (T 0 0) ∧ A.1 b 1 = iI (T 0 1) ∧ A.1 b 2 = iI (T 0 2)) ∧
  (∀ x : Int, 0 ≤ x → x < T 0 0 → A.1 (b + 1) x.toNat = iI (T 1 x.toNat)) ∧ (∀ x : Int, 0 ≤ x → x < T 0 1 → A.1 (b + 2) x.toNat = iI (T 2 x.toNat)) ∧
  (∀ k, k < 4 → A.1 (b + 4) k = iI (T 3 k)) ∧ (∀ (w f : Nat), (w : Int) < T 0 2 → f < 8 → A.1 (b + 10 + w) f = iI (T (10 + w) f))
/-- the class's Stand s holds S -/
def CSt (A : Mm) (s : Nat) (T S : Tw) : Prop :=
  (∀ x : Int, 0 ≤ x → x < T 0 0 → A.1 (s + 1) x.toNat = iI (S 0 x.toNat)) ∧ (∀ x : Int, 0 ≤ x → x < T 0 1 → A.1 (s + 2) x.toNat = iI (S 1 x.toNat)) ∧
  (∀ x : Int, 0 ≤ x → x < T 0 2 → A.1 (s + 3) x.toNat = iI (S 2 x.toNat)) ∧ (∀ x : Int, 0 ≤ x → x < T 0 2 → A.1 (s + 4) x.toNat = iI (S 3 x.toNat)) ∧ A.1 s 4 = iI (S 4 0)
/-- the reference's town -/
def RT (B : Mm) (T : Tw) : Prop :=
  (B.1 600 0 = iI (T 0 0) ∧ B.1 600 1 = iI (T 0 1) ∧ B.1 600 2 = iI (T 0 2)) ∧
  (∀ x : Int, 0 ≤ x → x < T 0 0 → B.1 601 x.toNat = iI (T 1 x.toNat)) ∧ (∀ x : Int, 0 ≤ x → x < T 0 1 → B.1 602 x.toNat = iI (T 2 x.toNat)) ∧
  (∀ k, k < 4 → B.1 604 k = iI (T 3 k)) ∧ (∀ (w f : Nat), (w : Int) < T 0 2 → f < 8 → B.1 603 (8 * w + f) = iI (T (10 + w) f))
/-- the reference's row from o on; at = o -/
def RS (B : Mm) (o : Nat) (T S : Tw) : Prop :=
  (∀ x : Int, 0 ≤ x → x < T 0 0 → B.1 607 (o + x.toNat) = iI (S 0 x.toNat)) ∧ (∀ x : Int, 0 ≤ x → x < T 0 1 → B.1 607 (o + 3 + x.toNat) = iI (S 1 x.toNat)) ∧
  (∀ x : Int, 0 ≤ x → x < T 0 2 → B.1 607 (o + 9 + x.toNat) = iI (S 2 x.toNat)) ∧ (∀ x : Int, 0 ≤ x → x < T 0 2 → B.1 607 (o + 15 + x.toNat) = iI (S 3 x.toNat)) ∧ B.1 607 (o + 21) = iI (S 4 0)
def RA (B : Mm) (o : Nat) : Prop := B.1 600 10 = iI (o : Int) ∧ o ≤ 22
def WkI (T : Tw) (w : Nat) : Prop :=
  (0 ≤ T (10 + w) 0 ∧ T (10 + w) 0 ≤ 5) ∧ (0 ≤ T (10 + w) 1 ∧ T (10 + w) 1 < T 0 0) ∧ (0 ≤ T (10 + w) 2 ∧ T (10 + w) 2 < T 0 1) ∧ (0 ≤ T (10 + w) 3 ∧ T (10 + w) 3 ≤ 9) ∧
  (0 ≤ T (10 + w) 4 ∧ T (10 + w) 4 ≤ 999) ∧ (0 ≤ T (10 + w) 5 ∧ T (10 + w) 5 ≤ 99) ∧ (-1 ≤ T (10 + w) 6 ∧ T (10 + w) 6 < w) ∧ (0 ≤ T (10 + w) 7 ∧ T (10 + w) 7 ≤ 99)
def InvT (T : Tw) : Prop :=
  ((0 ≤ T 0 0 ∧ T 0 0 ≤ 3) ∧ (0 ≤ T 0 1 ∧ T 0 1 ≤ 6) ∧ (0 ≤ T 0 2 ∧ T 0 2 ≤ 6)) ∧
  (∀ x : Int, 0 ≤ x → x < T 0 0 → 1 ≤ T 1 x.toNat ∧ T 1 x.toNat ≤ 5) ∧ (∀ x : Int, 0 ≤ x → x < T 0 1 → 1 ≤ T 2 x.toNat ∧ T 2 x.toNat ≤ 9) ∧
  ((0 ≤ T 3 0 ∧ T 3 0 ≤ 9) ∧ (0 ≤ T 3 1 ∧ T 3 1 ≤ 8) ∧ (1 ≤ T 3 2 ∧ T 3 2 ≤ 30) ∧ (1 ≤ T 3 3 ∧ T 3 3 ≤ 20)) ∧ (∀ w : Nat, (w : Int) < T 0 2 → WkI T w)
def InvS (T S : Tw) (mb : Int) : Prop :=
  (∀ x : Int, 0 ≤ x → x < T 0 0 → 0 ≤ S 0 x.toNat ∧ S 0 x.toNat ≤ 9) ∧ (∀ x : Int, 0 ≤ x → x < T 0 1 → 0 ≤ S 1 x.toNat ∧ S 1 x.toNat ≤ 9) ∧
  (∀ x : Int, 0 ≤ x → x < T 0 2 → 0 ≤ S 2 x.toNat ∧ S 2 x.toNat ≤ 2) ∧ (∀ x : Int, 0 ≤ x → x < T 0 2 → 0 ≤ S 3 x.toNat ∧ S 3 x.toNat ≤ mb) ∧ (0 ≤ S 4 0 ∧ S 4 0 ≤ mb) ∧ mb ≤ 1000000
/-! the machine's forms of a read -/
theorem natk {x : Int} {n : Nat} (h : x = (n : Int)) (hn : n < 2147483648) : Int32.toNatClampNeg (iI x) = n := by
  rw [iI_nat (by omega) (by omega), h]
  exact Int.toNat_natCast n
section RD
variable {A B : Mm} {T S : Tw} {s o b : Nat} {mb : Int}
theorem CT.wk (h : CT A 100 T) {w : Nat} (hw : (w : Int) < T 0 2) (hI : InvT T) {f : Nat} (hf : f < 8) : A.1 (110 + Int32.toNatClampNeg (iI (w : Int))) f = iI (T (10 + w) f) := by
  have := hI.1
  rw [natk rfl (by omega)]
  exact h.2.2.2.2 w f hw hf
theorem CT.pace (h : CT A 100 T) {x : Int} (h0 : 0 ≤ x) (h1 : x < T 0 0) (hI : InvT T) : A.1 101 (Int32.toNatClampNeg (iI x)) = iI (T 1 x.toNat) := by
  have := hI.1
  rw [iI_nat (by omega) (by omega)]
  exact h.2.1 x h0 h1
theorem CT.weight (h : CT A 100 T) {x : Int} (h0 : 0 ≤ x) (h1 : x < T 0 1) (hI : InvT T) : A.1 102 (Int32.toNatClampNeg (iI x)) = iI (T 2 x.toNat) := by
  have := hI.1
  rw [iI_nat (by omega) (by omega)]
  exact h.2.2.1 x h0 h1
theorem CSt.mover (h : CSt A s T S) {x : Int} (h0 : 0 ≤ x) (h1 : x < T 0 0) (hI : InvT T) : A.1 (s + 1) (Int32.toNatClampNeg (iI x)) = iI (S 0 x.toNat) := by
  have := hI.1
  rw [iI_nat (by omega) (by omega)]
  exact h.1 x h0 h1
theorem CSt.thing (h : CSt A s T S) {x : Int} (h0 : 0 ≤ x) (h1 : x < T 0 1) (hI : InvT T) : A.1 (s + 2) (Int32.toNatClampNeg (iI x)) = iI (S 1 x.toNat) := by
  have := hI.1
  rw [iI_nat (by omega) (by omega)]
  exact h.2.1 x h0 h1
theorem CSt.state (h : CSt A s T S) {x : Int} (h0 : 0 ≤ x) (h1 : x < T 0 2) (hI : InvT T) : A.1 (s + 3) (Int32.toNatClampNeg (iI x)) = iI (S 2 x.toNat) := by
  have := hI.1
  rw [iI_nat (by omega) (by omega)]
  exact h.2.2.1 x h0 h1
theorem CSt.fin (h : CSt A s T S) {x : Int} (h0 : 0 ≤ x) (h1 : x < T 0 2) (hI : InvT T) : A.1 (s + 4) (Int32.toNatClampNeg (iI x)) = iI (S 3 x.toNat) := by
  have := hI.1
  rw [iI_nat (by omega) (by omega)]
  exact h.2.2.2.1 x h0 h1
theorem vin_w {w : Nat} {f : Int} (hw : (w : Int) < T 0 2) (hI : InvT T) (hf0 : 0 ≤ f) (hf : f < 8) : vp_in (iI 8 * iI (w : Int) + iI f) 48 := by
  have := hI.1
  rw [iI_mul, iI_add]
  exact vin_iI (by omega) (by omega) (by omega)
theorem RT.wk (h : RT B T) {w : Nat} (hw : (w : Int) < T 0 2) (hI : InvT T) (f : Nat) (hf : f < 8) : B.1 603 (Int32.toNatClampNeg (iI 8 * iI (w : Int) + iI (f : Int))) = iI (T (10 + w) f) := by
  have := hI.1
  rw [iI_mul, iI_add, natk (n := 8 * w + f) (by omega) (by omega)]
  exact h.2.2.2.2 w f hw hf
theorem RT.w0 (h : RT B T) {w : Nat} (hw : (w : Int) < T 0 2) (hI : InvT T) : B.1 603 (Int32.toNatClampNeg (8 * iI (w : Int) + (0 : Int32))) = iI (T (10 + w) 0) := h.wk hw hI 0 (by omega)
theorem RT.w1 (h : RT B T) {w : Nat} (hw : (w : Int) < T 0 2) (hI : InvT T) : B.1 603 (Int32.toNatClampNeg (8 * iI (w : Int) + (1 : Int32))) = iI (T (10 + w) 1) := h.wk hw hI 1 (by omega)
theorem RT.w2 (h : RT B T) {w : Nat} (hw : (w : Int) < T 0 2) (hI : InvT T) : B.1 603 (Int32.toNatClampNeg (8 * iI (w : Int) + (2 : Int32))) = iI (T (10 + w) 2) := h.wk hw hI 2 (by omega)
theorem RT.w3 (h : RT B T) {w : Nat} (hw : (w : Int) < T 0 2) (hI : InvT T) : B.1 603 (Int32.toNatClampNeg (8 * iI (w : Int) + (3 : Int32))) = iI (T (10 + w) 3) := h.wk hw hI 3 (by omega)
theorem RT.w4 (h : RT B T) {w : Nat} (hw : (w : Int) < T 0 2) (hI : InvT T) : B.1 603 (Int32.toNatClampNeg (8 * iI (w : Int) + (4 : Int32))) = iI (T (10 + w) 4) := h.wk hw hI 4 (by omega)
theorem RT.w5 (h : RT B T) {w : Nat} (hw : (w : Int) < T 0 2) (hI : InvT T) : B.1 603 (Int32.toNatClampNeg (8 * iI (w : Int) + (5 : Int32))) = iI (T (10 + w) 5) := h.wk hw hI 5 (by omega)
theorem RT.w6 (h : RT B T) {w : Nat} (hw : (w : Int) < T 0 2) (hI : InvT T) : B.1 603 (Int32.toNatClampNeg (8 * iI (w : Int) + (6 : Int32))) = iI (T (10 + w) 6) := h.wk hw hI 6 (by omega)
theorem RT.w7 (h : RT B T) {w : Nat} (hw : (w : Int) < T 0 2) (hI : InvT T) : B.1 603 (Int32.toNatClampNeg (8 * iI (w : Int) + (7 : Int32))) = iI (T (10 + w) 7) := h.wk hw hI 7 (by omega)
theorem vw0 {w : Nat} (hw : (w : Int) < T 0 2) (hI : InvT T) : vp_in (8 * iI (w : Int) + (0 : Int32)) 48 := vin_w (f := 0) hw hI (by omega) (by omega)
theorem vw1 {w : Nat} (hw : (w : Int) < T 0 2) (hI : InvT T) : vp_in (8 * iI (w : Int) + (1 : Int32)) 48 := vin_w (f := 1) hw hI (by omega) (by omega)
theorem vw2 {w : Nat} (hw : (w : Int) < T 0 2) (hI : InvT T) : vp_in (8 * iI (w : Int) + (2 : Int32)) 48 := vin_w (f := 2) hw hI (by omega) (by omega)
theorem vw3 {w : Nat} (hw : (w : Int) < T 0 2) (hI : InvT T) : vp_in (8 * iI (w : Int) + (3 : Int32)) 48 := vin_w (f := 3) hw hI (by omega) (by omega)
theorem vw4 {w : Nat} (hw : (w : Int) < T 0 2) (hI : InvT T) : vp_in (8 * iI (w : Int) + (4 : Int32)) 48 := vin_w (f := 4) hw hI (by omega) (by omega)
theorem vw5 {w : Nat} (hw : (w : Int) < T 0 2) (hI : InvT T) : vp_in (8 * iI (w : Int) + (5 : Int32)) 48 := vin_w (f := 5) hw hI (by omega) (by omega)
theorem vw6 {w : Nat} (hw : (w : Int) < T 0 2) (hI : InvT T) : vp_in (8 * iI (w : Int) + (6 : Int32)) 48 := vin_w (f := 6) hw hI (by omega) (by omega)
theorem vw7 {w : Nat} (hw : (w : Int) < T 0 2) (hI : InvT T) : vp_in (8 * iI (w : Int) + (7 : Int32)) 48 := vin_w (f := 7) hw hI (by omega) (by omega)
theorem RT.pace (h : RT B T) {x : Int} (h0 : 0 ≤ x) (h1 : x < T 0 0) (hI : InvT T) : B.1 601 (Int32.toNatClampNeg (iI x)) = iI (T 1 x.toNat) := by
  have := hI.1
  rw [iI_nat (by omega) (by omega)]
  exact h.2.1 x h0 h1
theorem RT.weight (h : RT B T) {x : Int} (h0 : 0 ≤ x) (h1 : x < T 0 1) (hI : InvT T) : B.1 602 (Int32.toNatClampNeg (iI x)) = iI (T 2 x.toNat) := by
  have := hI.1
  rw [iI_nat (by omega) (by omega)]
  exact h.2.2.1 x h0 h1
theorem RA.ix (h : RA B o) {x c : Int} (h0 : 0 ≤ x) (h1 : x + c < 22) (hc : 0 ≤ c) : Int32.toNatClampNeg (B.1 600 10 + iI c + iI x) = o + c.toNat + x.toNat ∧ vp_in (B.1 600 10 + iI c + iI x) 44 := by
  have := h.2
  rw [h.1, iI_add, iI_add]
  exact ⟨natk (by omega) (by omega), vin_iI (by omega) (by omega) (by omega)⟩
theorem RS.mover (h : RS B o T S) (ha : RA B o) {x : Int} (h0 : 0 ≤ x) (h1 : x < T 0 0) (hI : InvT T) : B.1 607 (Int32.toNatClampNeg (B.1 600 10 + 0 + iI x)) = iI (S 0 x.toNat) := by
  have := hI.1
  rw [cl0, (ha.ix h0 (c := 0) (by omega) (by omega)).1]
  exact h.1 x h0 h1
theorem RS.thing (h : RS B o T S) (ha : RA B o) {x : Int} (h0 : 0 ≤ x) (h1 : x < T 0 1) (hI : InvT T) : B.1 607 (Int32.toNatClampNeg (B.1 600 10 + 3 + iI x)) = iI (S 1 x.toNat) := by
  have := hI.1
  rw [cl3, (ha.ix h0 (c := 3) (by omega) (by omega)).1]
  exact h.2.1 x h0 h1
theorem RS.state (h : RS B o T S) (ha : RA B o) {x : Int} (h0 : 0 ≤ x) (h1 : x < T 0 2) (hI : InvT T) : B.1 607 (Int32.toNatClampNeg (B.1 600 10 + 9 + iI x)) = iI (S 2 x.toNat) := by
  have := hI.1
  rw [cl9, (ha.ix h0 (c := 9) (by omega) (by omega)).1]
  exact h.2.2.1 x h0 h1
theorem RS.fin (h : RS B o T S) (ha : RA B o) {x : Int} (h0 : 0 ≤ x) (h1 : x < T 0 2) (hI : InvT T) : B.1 607 (Int32.toNatClampNeg (B.1 600 10 + 15 + iI x)) = iI (S 3 x.toNat) := by
  have := hI.1
  rw [cl15, (ha.ix h0 (c := 15) (by omega) (by omega)).1]
  exact h.2.2.2.1 x h0 h1
theorem RA.vm (ha : RA B o) {x : Int} (h0 : 0 ≤ x) (h1 : x < T 0 0) (hI : InvT T) : vp_in (B.1 600 10 + 0 + iI x) 44 := by
  have := hI.1
  rw [cl0]
  exact (ha.ix h0 (c := 0) (by omega) (by omega)).2
theorem RA.vt (ha : RA B o) {x : Int} (h0 : 0 ≤ x) (h1 : x < T 0 1) (hI : InvT T) : vp_in (B.1 600 10 + 3 + iI x) 44 := by
  have := hI.1
  rw [cl3]
  exact (ha.ix h0 (c := 3) (by omega) (by omega)).2
theorem RA.vs (ha : RA B o) {x : Int} (h0 : 0 ≤ x) (h1 : x < T 0 2) (hI : InvT T) : vp_in (B.1 600 10 + 9 + iI x) 44 := by
  have := hI.1
  rw [cl9]
  exact (ha.ix h0 (c := 9) (by omega) (by omega)).2
theorem RA.ve (ha : RA B o) {x : Int} (h0 : 0 ≤ x) (h1 : x < T 0 2) (hI : InvT T) : vp_in (B.1 600 10 + 15 + iI x) 44 := by
  have := hI.1
  rw [cl15]
  exact (ha.ix h0 (c := 15) (by omega) (by omega)).2
theorem RA.x21 (ha : RA B o) : Int32.toNatClampNeg (B.1 600 10 + 21) = o + 21 ∧ vp_in (B.1 600 10 + 21) 44 := by
  have := ha.2
  rw [ha.1, cl21, iI_add]
  exact ⟨natk (by omega) (by omega), vin_iI (by omega) (by omega) (by omega)⟩
theorem RS.min (h : RS B o T S) (ha : RA B o) : B.1 607 (Int32.toNatClampNeg (B.1 600 10 + 21)) = iI (S 4 0) := by
  rw [ha.x21.1]
  exact h.2.2.2.2
end RD
/-! minutes -/
def aAbs (x : Int) : Int := if 0 ≤ x then x else 0 - x
def aUp (a b : Int) : Int := (a + b - 1) / b
def aLoad (T S : Tw) (w : Nat) : Int := aAbs (S 1 (T (10 + w) 2).toNat - T (10 + w) 3) * T 2 (T (10 + w) 2).toNat
def aPlain (T S : Tw) (w : Nat) : Int := aAbs (S 0 (T (10 + w) 1).toNat - S 1 (T (10 + w) 2).toNat) + aUp (aLoad T S w) (T 1 (T (10 + w) 1).toNat)
def aNext (T : Tw) (w : Nat) : Int := if T 0 0 ≤ T (10 + w) 1 + 1 then 0 else T (10 + w) 1 + 1
def aWalkN (T S : Tw) (w : Nat) : Int := aAbs (S 0 (aNext T w).toNat - S 1 (T (10 + w) 2).toNat)
def aOth (S : Tw) (t : Nat) : Nat → Int
  | 0 => 0
  | n + 1 => aOth S t n + (if n ≠ t ∧ S 1 n = S 1 t then 1 else 0)
def aMin (T S : Tw) (w : Nat) : Int :=
  if T (10 + w) 0 = 1 then aPlain T S w + aWalkN T S w else if T (10 + w) 0 = 2 then aPlain T S w + aOth S (T (10 + w) 2).toNat (T 0 1).toNat
  else if T (10 + w) 0 = 3 then 2 * (aPlain T S w + aWalkN T S w) else if T (10 + w) 0 = 4 then aUp (aPlain T S w + aOth S (T (10 + w) 2).toNat (T 0 1).toNat) 2
  else if T (10 + w) 0 = 5 then aLoad T S w else aPlain T S w
theorem aUp_le {x p : Int} (hx : 0 ≤ x) (h1 : 1 ≤ p) (h2 : p ≤ 5) : 0 ≤ aUp x p ∧ aUp x p ≤ x := by
  unfold aUp
  have h : p = 1 ∨ p = 2 ∨ p = 3 ∨ p = 4 ∨ p = 5 := by omega
  rcases h with rfl | rfl | rfl | rfl | rfl <;> omega
theorem aAbs_le {a b : Int} (h1 : 0 ≤ a) (h2 : a ≤ 9) (h3 : 0 ≤ b) (h4 : b ≤ 9) : 0 ≤ aAbs (a - b) ∧ aAbs (a - b) ≤ 9 := by
  unfold aAbs
  split <;> omega
theorem aOth_le (S : Tw) (t : Nat) : ∀ n, 0 ≤ aOth S t n ∧ aOth S t n ≤ n
  | 0 => by simp [aOth]
  | n + 1 => by
    have := aOth_le S t n
    unfold aOth
    split <;> omega
theorem aNext_in {T : Tw} {w : Nat} (hI : InvT T) (hw : (w : Int) < T 0 2) : 0 ≤ aNext T w ∧ aNext T w < T 0 0 := by
  have h1 := hI.1
  have h2 := (hI.2.2.2.2 w hw).2.1
  unfold aNext
  split <;> omega
theorem aMin_parts {T S : Tw} {w : Nat} {mb : Int} (hI : InvT T) (hS : InvS T S mb) (hw : (w : Int) < T 0 2) : (0 ≤ aLoad T S w ∧ aLoad T S w ≤ 81) ∧ (0 ≤ aPlain T S w ∧ aPlain T S w ≤ 90) ∧ (0 ≤ aWalkN T S w ∧ aWalkN T S w ≤ 9) ∧ (0 ≤ aOth S (T (10 + w) 2).toNat (T 0 1).toNat ∧ aOth S (T (10 + w) 2).toNat (T 0 1).toNat ≤ 6) := by
  obtain ⟨k0, k1, k2, k3, k4, k5, k6, k7⟩ := hI.2.2.2.2 w hw
  have hn := aNext_in hI hw
  have hp := hI.2.1 _ k1.1 k1.2
  have hwt := hI.2.2.1 _ k2.1 k2.2
  have s0 := hS.1 _ k1.1 k1.2
  have s1 := hS.2.1 _ k2.1 k2.2
  have sn := hS.1 _ hn.1 hn.2
  have e1 := aAbs_le s1.1 s1.2 k3.1 k3.2
  have e2 := aAbs_le s0.1 s0.2 s1.1 s1.2
  have e3 := aAbs_le sn.1 sn.2 s1.1 s1.2
  have l0 : 0 ≤ aLoad T S w := Int.mul_nonneg e1.1 (by omega)
  have l1 : aLoad T S w ≤ 9 * 9 := Int.mul_le_mul e1.2 hwt.2 (by omega) (by omega)
  have u := aUp_le l0 hp.1 hp.2
  have o := aOth_le S (T (10 + w) 2).toNat (T 0 1).toNat
  have c := hI.1
  refine ⟨⟨l0, by omega⟩, ⟨?_, ?_⟩, e3, ⟨o.1, by omega⟩⟩
  · unfold aPlain; omega
  · unfold aPlain; omega
theorem aMin_le {T S : Tw} {w : Nat} {mb : Int} (hI : InvT T) (hS : InvS T S mb) (hw : (w : Int) < T 0 2) : 0 ≤ aMin T S w ∧ aMin T S w ≤ 198 := by
  obtain ⟨⟨a1, a2⟩, ⟨b1, b2⟩, ⟨c1, c2⟩, ⟨d1, d2⟩⟩ := aMin_parts hI hS hw
  have u := aUp_le (x := aPlain T S w + aOth S (T (10 + w) 2).toNat (T 0 1).toNat) (p := 2) (by omega) (by omega) (by omega)
  unfold aMin
  split
  · omega
  split
  · omega
  split
  · omega
  split
  · omega
  split <;> omega

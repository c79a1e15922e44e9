/-! numbers: Int32 as the image of whole numbers -/
def iI (x : Int) : Int32 := Int32.ofInt x
theorem iI_toInt {x : Int} (h1 : -2147483648 ≤ x) (h2 : x < 2147483648) : (iI x).toInt = x := by
  unfold iI
  exact Int32.toInt_ofInt_of_le h1 h2
theorem iI_of (x : Int32) : x = iI x.toInt := (Int32.ofInt_toInt x).symm
theorem iI_add (a b : Int) : iI a + iI b = iI (a + b) := (Int32.ofInt_add a b).symm
theorem iI_sub (a b : Int) : iI a - iI b = iI (a - b) := (Int32.ofInt_sub a b).symm
theorem iI_mul (a b : Int) : iI a * iI b = iI (a * b) := (Int32.ofInt_mul a b).symm
theorem iI_neg (a : Int) : - iI a = iI (- a) := (Int32.ofInt_neg a).symm
theorem iI_ite {p : Prop} [Decidable p] (a b : Int) : (if p then iI a else iI b) = iI (if p then a else b) := by split <;> rfl
theorem iI_eq {a b : Int} (h1 : -2147483648 ≤ a) (h2 : a < 2147483648) (h3 : -2147483648 ≤ b) (h4 : b < 2147483648) : (iI a = iI b) = (a = b) := by
  rw [← Int32.toInt_inj, iI_toInt h1 h2, iI_toInt h3 h4]
theorem iI_lt {a b : Int} (h1 : -2147483648 ≤ a) (h2 : a < 2147483648) (h3 : -2147483648 ≤ b) (h4 : b < 2147483648) : (iI a < iI b) = (a < b) := by
  rw [Int32.lt_iff_toInt_lt, iI_toInt h1 h2, iI_toInt h3 h4]
theorem iI_le {a b : Int} (h1 : -2147483648 ≤ a) (h2 : a < 2147483648) (h3 : -2147483648 ≤ b) (h4 : b < 2147483648) : (iI a ≤ iI b) = (a ≤ b) := by
  rw [Int32.le_iff_toInt_le, iI_toInt h1 h2, iI_toInt h3 h4]
theorem iI_nat {x : Int} (h1 : -2147483648 ≤ x) (h2 : x < 2147483648) : Int32.toNatClampNeg (iI x) = x.toNat := by
  show (iI x).toInt.toNat = x.toNat
  rw [iI_toInt h1 h2]
theorem iI_div {a b : Int} (h1 : 0 ≤ a) (h2 : a < 2147483648) (h3 : 0 < b) (h4 : b < 2147483648) : iI a / iI b = iI (a / b) := by
  rw [← Int32.toInt_inj, Int32.toInt_div, iI_toInt (by omega) h2, iI_toInt (by omega) h4, Int.tdiv_eq_ediv_of_nonneg h1]
  have h5 : 0 ≤ a / b := Int.ediv_nonneg h1 (by omega)
  have h6 : a / b ≤ a := Int.ediv_le_self b h1
  rw [iI_toInt (by omega) (by omega)]
  exact Int.bmod_eq_of_le (by omega) (by omega)
theorem vin_iI {x : Int} {n : Nat} (h0 : 0 ≤ x) (h1 : x < n) (hn : (n : Int) ≤ 2147483648) : vp_in (iI x) n := by
  rw [vin_iff, Int32.le_iff_toInt_le, iI_nat (by omega) (by omega), iI_toInt (by omega) (by omega)]
  refine ⟨?_, by omega⟩
  show (0 : Int32).toInt ≤ x
  rw [show (0 : Int32).toInt = 0 by decide]
  exact h0
theorem cl0 : (0 : Int32) = iI 0 := by decide
theorem cl1 : (1 : Int32) = iI 1 := by decide
theorem cl2 : (2 : Int32) = iI 2 := by decide
theorem cl3 : (3 : Int32) = iI 3 := by decide
theorem cl4 : (4 : Int32) = iI 4 := by decide
theorem cl5 : (5 : Int32) = iI 5 := by decide
theorem cl6 : (6 : Int32) = iI 6 := by decide
theorem cl7 : (7 : Int32) = iI 7 := by decide
theorem cl8 : (8 : Int32) = iI 8 := by decide
theorem cl9 : (9 : Int32) = iI 9 := by decide
theorem cl10 : (10 : Int32) = iI 10 := by decide
theorem cl15 : (15 : Int32) = iI 15 := by decide
theorem cl21 : (21 : Int32) = iI 21 := by decide
theorem cl22 : (22 : Int32) = iI 22 := by decide
theorem cl99 : (99 : Int32) = iI 99 := by decide
theorem cl999 : (999 : Int32) = iI 999 := by decide
theorem cm1 : (-1 : Int32) = iI (-1) := by decide
theorem cm3 : (-3 : Int32) = iI (-3) := by decide
theorem cm9 : (-9 : Int32) = iI (-9) := by decide
theorem iI_ofNat (k : Nat) : Int32.ofNat k = iI (k : Int) := rfl
theorem nI_iI (k : Nat) : nI k = iI (k : Int) := rfl
theorem b2i_iI {p : Prop} [Decidable p] : b2i p = iI (if p then 1 else 0) := by unfold b2i; split <;> decide
/-- sets of works as masks -/
theorem msk_in : ∀ m : Nat, m < 64 → ∀ w : Nat, w < 8 → (((iI (m : Int) >>> (iI (w : Int) &&& 31)) &&& 1 = 0) ↔ m.testBit w = false) := by decide +kernel
theorem msk_or : ∀ m : Nat, m < 64 → ∀ w : Nat, w < 6 → iI (m : Int) ||| ((1 : Int32) <<< (iI (w : Int) &&& 31)) = iI ((m ||| 2 ^ w : Nat) : Int) := by decide +kernel
theorem msk_lt : ∀ m, m < 64 → ∀ w, w < 6 → (m ||| 2 ^ w) < 64 := by decide +kernel
theorem msk_or0 : ∀ m : Nat, m < 64 → iI (m : Int) ||| 0 = iI (m : Int) := by decide +kernel
/-! frames: memory changed only at the addresses P -/
def Fr (P : Nat → Prop) (M M' : Mm) : Prop := ∀ a, ¬ P a → M'.1 a = M.1 a ∧ M'.2 a = M.2 a
theorem Fr.rf {P : Nat → Prop} {M : Mm} : Fr P M M := fun _ _ => ⟨rfl, rfl⟩
theorem Fr.tr {P : Nat → Prop} {M M' M'' : Mm} (h1 : Fr P M M') (h2 : Fr P M' M'') : Fr P M M'' := fun a ha => ⟨(h2 a ha).1.trans (h1 a ha).1, (h2 a ha).2.trans (h1 a ha).2⟩
theorem Fr.mono {P Q : Nat → Prop} {M M' : Mm} (h : Fr P M M') (hPQ : ∀ a, P a → Q a) : Fr Q M M' := fun a ha => h a (fun q => ha (hPQ a q))
theorem Fr.wi {P : Nat → Prop} {M M' : Mm} {a k : Nat} {v : Int32} (h : Fr P M M') (ha : P a) : Fr P M (wi M' a k v) := fun b hb => by
  have hne : b ≠ a := fun e => hb (e ▸ ha)
  exact ⟨(wi_ne M' a k v b hne).1.trans (h b hb).1, (wi_ne M' a k v b hne).2.trans (h b hb).2⟩
theorem Fr.wl {P : Nat → Prop} {M M' : Mm} {a k : Nat} {v : Int64} (h : Fr P M M') (ha : P a) : Fr P M (wl M' a k v) := fun b hb => by
  have hne : b ≠ a := fun e => hb (e ▸ ha)
  exact ⟨(wl_ne M' a k v b hne).1.trans (h b hb).1, (wl_ne M' a k v b hne).2.trans (h b hb).2⟩
theorem Fr.cpi {P : Nat → Prop} {M M' : Mm} {a b sp dp n : Nat} (h : Fr P M M') (ha : P b) : Fr P M (cpi M' a b sp dp n) := fun c hc => by
  have hne : c ≠ b := fun e => hc (e ▸ ha)
  exact ⟨(cpi_ne M' a b sp dp n c hne).1.trans (h c hc).1, (cpi_ne M' a b sp dp n c hne).2.trans (h c hc).2⟩
theorem Fr.ite {P : Nat → Prop} {M A B : Mm} {c : Prop} [Decidable c] (h1 : c → Fr P M A) (h2 : ¬ c → Fr P M B) : Fr P M (if c then A else B) := by
  split
  next h => exact h1 h
  next h => exact h2 h
theorem Fr.at {P : Nat → Prop} {M M' : Mm} (h : Fr P M M') {a : Nat} (ha : ¬ P a) (k : Nat) : M'.1 a k = M.1 a k := congrFun (h a ha).1 k
theorem Fr.at2 {P : Nat → Prop} {M M' : Mm} (h : Fr P M M') {a : Nat} (ha : ¬ P a) (k : Nat) : M'.2 a k = M.2 a k := congrFun (h a ha).2 k
theorem rd_same (M : Mm) (a k : Nat) (v : Int32) : (wi M a k v).1 a k = v := by simp [wi]
theorem rd_ne {M : Mm} {a k b j : Nat} {v : Int32} (h : b ≠ a ∨ j ≠ k) : (wi M a k v).1 b j = M.1 b j := by
  unfold wi
  show (if b = a ∧ j = k then v else M.1 b j) = M.1 b j
  rw [if_neg]
  rintro ⟨h1, h2⟩
  rcases h with h | h
  · exact h h1
  · exact h h2
theorem iteLE.{u} {α : Sort u} {a b : Int} {x y : α} [Decidable (iI a ≤ iI b)] (h1 : -2147483648 ≤ a) (h2 : a < 2147483648) (h3 : -2147483648 ≤ b) (h4 : b < 2147483648) : (if iI a ≤ iI b then x else y) = if a ≤ b then x else y := by
  simp only [iI_le h1 h2 h3 h4]
theorem iteLT.{u} {α : Sort u} {a b : Int} {x y : α} [Decidable (iI a < iI b)] (h1 : -2147483648 ≤ a) (h2 : a < 2147483648) (h3 : -2147483648 ≤ b) (h4 : b < 2147483648) : (if iI a < iI b then x else y) = if a < b then x else y := by
  simp only [iI_lt h1 h2 h3 h4]
theorem iteEQ.{u} {α : Sort u} {a b : Int} {x y : α} [Decidable (iI a = iI b)] (h1 : -2147483648 ≤ a) (h2 : a < 2147483648) (h3 : -2147483648 ≤ b) (h4 : b < 2147483648) : (if iI a = iI b then x else y) = if a = b then x else y := by
  simp only [iI_eq h1 h2 h3 h4]

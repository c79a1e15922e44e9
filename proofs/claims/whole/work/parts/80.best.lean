/-! the reference's search -/
def asL (S : Tw) : Nat → List Nat
  | 0 => []
  | k + 1 => if S 2 k = 0 then asL S k ++ [k] else asL S k
def asM (m : Nat) : Nat → List Nat
  | 0 => []
  | k + 1 => if m.testBit k then asM m k ++ [k] else asM m k
theorem asM_1 : ∀ m, m < 64 → asM m 6 = fst1 m := by decide +kernel
theorem asL_M {S : Tw} {n : Nat} : ∀ k, k ≤ n → asL S k = asM (oMask S n) k
  | 0, _ => rfl
  | k + 1, h => by
    show (if S 2 k = 0 then asL S k ++ [k] else asL S k) = (if (oMask S n).testBit k then asM (oMask S n) k ++ [k] else asM (oMask S n) k)
    rw [asL_M (n := n) k (by omega)]
    by_cases c : S 2 k = 0
    · rw [if_pos c, if_pos ((oMask_bit S n k).mpr ⟨by omega, c⟩)]
    · rw [if_neg c, if_neg (fun u => c ((oMask_bit S n k).mp u).2)]
theorem asM_t {m n : Nat} : ∀ k, n ≤ k → (∀ w, n ≤ w → m.testBit w = false) → asM m k = asM m n
  | 0, h, _ => by rw [show n = 0 by omega]
  | k + 1, h, hb => by
    by_cases q : n = k + 1
    · rw [q]
    · show (if m.testBit k then asM m k ++ [k] else asM m k) = _
      rw [hb k (by omega), if_neg (by decide)]
      exact asM_t k (by omega) hb
theorem asL_f {S : Tw} {n : Nat} (hn : n ≤ 6) : asL S n = fst1 (oMask S n) := by
  rw [asL_M n (Nat.le_refl _), ← asM_1 _ (oMask_lt S n hn), asM_t 6 hn (fun w hw => ?_)]
  cases hb : (oMask S n).testBit w with
  | false => rfl
  | true => exact absurd ((oMask_bit S n w).mp hb).1 (by omega)
theorem asL_len (S : Tw) : ∀ k, (asL S k).length = aOpn S k
  | 0 => rfl
  | k + 1 => by
    show (if S 2 k = 0 then asL S k ++ [k] else asL S k).length = (if S 2 k = 0 then aOpn S k + 1 else aOpn S k)
    by_cases c : S 2 k = 0
    · rw [if_pos c, if_pos c, List.length_append, asL_len S k]; rfl
    · rw [if_neg c, if_neg c]; exact asL_len S k
theorem toF_a {l : List Nat} {w i : Nat} : (i < l.length → toF (l ++ [w]) i = toF l i) ∧ (i = l.length → toF (l ++ [w]) i = w) := by
  unfold toF
  rw [List.getD_eq_getElem?_getD, List.getD_eq_getElem?_getD]
  refine ⟨fun h => ?_, fun h => ?_⟩
  · rw [List.getElem?_append_left h]
  · rw [h, List.getElem?_append_right (Nat.le_refl _), Nat.sub_self]
    rfl
section P80
variable {M D : Mm} {T S : Tw} {mb : Int} {len n m : Nat} {b : Bt}
theorem r_firstO (hT : RT M T) (ha : RA M 0) (hS : RS M 0 T S) (hI : InvT T) (hJ : InvS T S mb) (hlen : len = aOpn S (T 0 2).toNat) :
    p_X8_firstOrder M ∧ r_X8_firstOrder M = iI (len : Int) ∧ (∀ i, i < len → (w_X8_firstOrder M).1 614 i = iI ((toF (asL S (T 0 2).toNat) i : Nat) : Int)) ∧ Fq (fun a k => a = 614) M (w_X8_firstOrder M) := by
  have hc := hI.1
  have hN : Int32.toNatClampNeg (M.1 600 2) = (T 0 2).toNat := by rw [hT.1.2.2, iI_nat (by omega) (by omega)]
  have step : ∀ (k : Nat) (D : Mm), k < (T 0 2).toNat → (∀ i, i < aOpn S k → D.1 614 i = iI ((toF (asL S k) i : Nat) : Int)) → Fq (fun a k => a = 614) M D →
      c_X8_firstOrder_4 (D, iI ((aOpn S k : Nat) : Int), iI (k : Int)) ∧ q_X8_firstOrder_4 (D, iI ((aOpn S k : Nat) : Int), iI (k : Int)) ∧ ∃ D', s_X8_firstOrder_4 (D, iI ((aOpn S k : Nat) : Int), iI (k : Int)) = (D', iI ((aOpn S (k + 1) : Nat) : Int), iI ((k + 1 : Nat) : Int)) ∧ (∀ i, i < aOpn S (k + 1) → D'.1 614 i = iI ((toF (asL S (k + 1)) i : Nat) : Int)) ∧ Fq (fun a k => a = 614) M D' := by
    intro k D hk k2 k3
    have kA : RA D 0 := ha.fq k3 (by omega)
    have kS : RS D 0 T S := hS.fq hI k3 (fun k h1 h2 => by omega)
    have kT : RT D T := hT.fq k3 (fun a k h => by omega)
    have ol := aOpn_le S k
    have no : Int32.toNatClampNeg (iI ((aOpn S k : Nat) : Int)) = aOpn S k := natk rfl (by omega)
    have vo : vp_in (iI ((aOpn S k : Nat) : Int)) 6 := vin_iI (by omega) (by omega) (by omega)
    have hlt : ¬ D.1 600 2 ≤ iI (k : Int) := by rw [kT.1.2.2, iI_le (by omega) (by omega) (by omega) (by omega)]; omega
    have op := r_open kA kS hI hJ (x := (k : Int)) (by omega) (by omega)
    rw [Int.toNat_natCast] at op
    have v9 := kA.vs (x := (k : Int)) (by omega) (by omega) hI
    unfold c_X8_firstOrder_4 q_X8_firstOrder_4 s_X8_firstOrder_4
    dsimp only
    rw [if_neg hlt, if_neg hlt, if_neg hlt, no, k1_iI, aOpn_s]
    by_cases c : S 2 k = 0
    · have g := b2i_1.mpr (op.mpr c)
      have e : asL S (k + 1) = asL S k ++ [k] := if_pos c
      rw [if_neg g, if_neg g, if_pos c, e, k1_iI]
      refine ⟨trivial, ⟨v9, vo, trivial⟩, _, rfl, fun i hi => ?_, k3.wi (by omega)⟩
      by_cases q : i = aOpn S k
      · rw [q, rd_same, toF_a.2 (asL_len S k).symm]
      · rw [rd_ne (Or.inr q), toF_a.1 (by rw [asL_len]; omega)]
        exact k2 i (by omega)
    · have g := b2i_0.mpr (fun u => c (op.mp u))
      have e : asL S (k + 1) = asL S k := if_neg c
      rw [if_pos g, if_pos g, if_neg c, e]
      exact ⟨trivial, ⟨v9, trivial⟩, D, rfl, k2, k3⟩
  have key : ∀ k, k ≤ (T 0 2).toNat → ∃ D, l_X8_firstOrder_4 (M, 0, 0) k = (D, iI ((aOpn S k : Nat) : Int), iI (k : Int)) ∧ (∀ i, i < aOpn S k → D.1 614 i = iI ((toF (asL S k) i : Nat) : Int)) ∧ Fq (fun a k => a = 614) M D := by
    intro k
    induction k with
    | zero => intro _; exact ⟨M, rfl, fun i hi => absurd hi (Nat.not_lt_zero i), Fq.rf⟩
    | succ k ih =>
      intro hk
      obtain ⟨D, d1, d2, d3⟩ := ih (by omega)
      obtain ⟨-, -, D', g1, g2⟩ := step k D (by omega) d2 d3
      refine ⟨D', ?_, g2⟩
      show s_X8_firstOrder_4 (l_X8_firstOrder_4 (M, 0, 0) k) = _
      rw [d1]; exact g1
  obtain ⟨D, d1, d2, d3⟩ := key _ (Nat.le_refl _)
  have w2 : D.1 600 2 = iI (T 0 2) := by rw [d3.1 _ _ (by omega)]; exact hT.1.2.2
  have e : (((T 0 2).toNat : Nat) : Int) = T 0 2 := by omega
  rw [e, ← hlen] at d1
  rw [← hlen] at d2
  unfold p_X8_firstOrder r_X8_firstOrder w_X8_firstOrder
  rw [hN, d1]
  dsimp only
  have gE : D.1 600 2 ≤ iI (T 0 2) := by rw [w2]; exact Int32.le_refl _
  rw [if_pos gE, if_pos gE, if_pos gE]
  refine ⟨⟨fun k hk => ?_, fun k hk => ?_, ?_, trivial⟩, rfl, d2, d3⟩
  · obtain ⟨E, g1, g2, g3⟩ := key k (by omega)
    rw [g1]
    exact (step k E hk g2 g3).1
  · obtain ⟨E, g1, g2, g3⟩ := key k (by omega)
    rw [g1]
    exact (step k E hk g2 g3).2.1
  · unfold c_X8_firstOrder_4
    dsimp only
    rw [if_pos gE]
    exact fun h => h
/-- what the reference's places say of the best so far -/
def RB (D : Mm) (b : Bt) (len : Nat) : Prop := (D.1 600 35 = iI b.1 ∧ D.1 600 36 = iI b.2.2.1 ∧ D.1 600 37 = iI b.2.2.2) ∧ (0 ≤ b.1 → ∀ i, i < len → D.1 615 i = iI ((toF b.2.1 i : Nat) : Int)) ∧ (-1 ≤ b.1 ∧ b.1 ≤ 1000) ∧ (0 ≤ b.2.2.1 ∧ b.2.2.1 ≤ 99) ∧ (-1 ≤ b.2.2.2 ∧ b.2.2.2 ≤ 1000000)
theorem r_107 {l mi L Q : Int} {x1 y2 : Int32} (h36 : D.1 600 36 = iI L) (h32 : D.1 600 32 = iI l) (h37 : D.1 600 37 = iI Q) (hL : 0 ≤ L ∧ L ≤ 99) (hl : 0 ≤ l ∧ l ≤ 99) (hQ : -1 ≤ Q ∧ Q ≤ 1000000) (hm : 0 ≤ mi ∧ mi ≤ 1000000) :
    s_X8_findBest_23_107 D x1 y2 (iI mi) = s_X8_findBest_23_160 (wi (wi D 600 36 (iI (if L ≤ l then L else l))) 600 37 (iI (if Q < 0 then mi else if Q ≤ mi then Q else mi))) x1 y2 ∧ (q_X8_findBest_23_160 (wi (wi D 600 36 (iI (if L ≤ l then L else l))) 600 37 (iI (if Q < 0 then mi else if Q ≤ mi then Q else mi))) x1 y2 → q_X8_findBest_23_107 D x1 y2 (iI mi)) := by
  have k1 : (iI L ≤ iI l) ↔ L ≤ l := by rw [iI_le (by omega) (by omega) (by omega) (by omega)]
  have k2 : (iI Q < 0) ↔ Q < 0 := by rw [cl0, iI_lt (by omega) (by omega) (by omega) (by omega)]
  have k3 : (iI Q ≤ iI mi) ↔ Q ≤ mi := by rw [iI_le (by omega) (by omega) (by omega) (by omega)]
  unfold s_X8_findBest_23_107 q_X8_findBest_23_107
  rw [h36, h32, h37]
  by_cases c1 : L ≤ l
  · rw [if_pos (k1.mpr c1), if_pos (k1.mpr c1), if_pos c1]
    by_cases c2 : Q < 0
    · rw [if_pos (k2.mpr c2), if_pos (k2.mpr c2), if_pos c2]
      exact ⟨rfl, fun h => h⟩
    · have g2 : ¬ iI Q < 0 := fun u => c2 (k2.mp u)
      rw [if_neg g2, if_neg g2, if_neg c2]
      by_cases c3 : Q ≤ mi
      · rw [if_pos (k3.mpr c3), if_pos (k3.mpr c3), if_pos c3]
        exact ⟨rfl, fun h => h⟩
      · have g3 : ¬ iI Q ≤ iI mi := fun u => c3 (k3.mp u)
        rw [if_neg g3, if_neg g3, if_neg c3]
        exact ⟨rfl, fun h => h⟩
  · have g1 : ¬ iI L ≤ iI l := fun u => c1 (k1.mp u)
    rw [if_neg g1, if_neg g1, if_neg c1]
    by_cases c2 : Q < 0
    · rw [if_pos (k2.mpr c2), if_pos (k2.mpr c2), if_pos c2]
      exact ⟨rfl, fun h => h⟩
    · have g2 : ¬ iI Q < 0 := fun u => c2 (k2.mp u)
      rw [if_neg g2, if_neg g2, if_neg c2]
      by_cases c3 : Q ≤ mi
      · rw [if_pos (k3.mpr c3), if_pos (k3.mpr c3), if_pos c3]
        exact ⟨rfl, fun h => h⟩
      · have g3 : ¬ iI Q ≤ iI mi := fun u => c3 (k3.mp u)
        rw [if_neg g3, if_neg g3, if_neg c3]
        exact ⟨rfl, fun h => h⟩
/-- the copy of an order -/
theorem r_copy5 (x2 x3 : Int32) (hl : len ≤ 6) : (∀ k, k < len → c_X8_findBest_81 (iI (len : Int)) x2 x3 (l_X8_findBest_81 (iI (len : Int)) x2 x3 (D, 0) k)) ∧ (∀ k, k < len → q_X8_findBest_81 (iI (len : Int)) x2 x3 (l_X8_findBest_81 (iI (len : Int)) x2 x3 (D, 0) k)) ∧ (¬ c_X8_findBest_81 (iI (len : Int)) x2 x3 (l_X8_findBest_81 (iI (len : Int)) x2 x3 (D, 0) len)) ∧ l_X8_findBest_81 (iI (len : Int)) x2 x3 (D, 0) len = (runI D 615 0 len (fun j => D.1 614 j), iI (len : Int)) := by
  have step : ∀ k : Nat, k < len → c_X8_findBest_81 (iI (len : Int)) x2 x3 (runI D 615 0 k (fun j => D.1 614 j), iI (k : Int)) ∧ q_X8_findBest_81 (iI (len : Int)) x2 x3 (runI D 615 0 k (fun j => D.1 614 j), iI (k : Int)) ∧ s_X8_findBest_81 (iI (len : Int)) x2 x3 (runI D 615 0 k (fun j => D.1 614 j), iI (k : Int)) = (runI D 615 0 (k + 1) (fun j => D.1 614 j), iI ((k + 1 : Nat) : Int)) := by
    intro k hk
    have nk : Int32.toNatClampNeg (iI (k : Int)) = k := natk rfl (by omega)
    have vk : vp_in (iI (k : Int)) 6 := vin_iI (by omega) (by omega) (by omega)
    have g : ¬ iI (len : Int) ≤ iI (k : Int) := by rw [iI_le (by omega) (by omega) (by omega) (by omega)]; omega
    have e : (runI D 615 0 k (fun j => D.1 614 j)).1 614 k = D.1 614 k := runI_n (Or.inl (by omega))
    have this := runI_s D 615 0 k (fun j => D.1 614 j)
    rw [Nat.zero_add] at this
    unfold c_X8_findBest_81 q_X8_findBest_81 s_X8_findBest_81
    dsimp only
    rw [if_neg g, if_neg g, if_neg g, nk, k1_iI, e, ← this]
    exact ⟨trivial, ⟨vk, vk, trivial⟩, rfl⟩
  have key : ∀ k : Nat, k ≤ len → l_X8_findBest_81 (iI (len : Int)) x2 x3 (D, 0) k = (runI D 615 0 k (fun j => D.1 614 j), iI (k : Int)) := by
    intro k
    induction k with
    | zero => intro _; rw [runI_0]; rfl
    | succ k ih =>
      intro hk
      show s_X8_findBest_81 (iI (len : Int)) x2 x3 (l_X8_findBest_81 (iI (len : Int)) x2 x3 (D, 0) k) = _
      rw [ih (by omega)]; exact (step k (by omega)).2.2
  refine ⟨fun k hk => ?_, fun k hk => ?_, ?_, key len (Nat.le_refl _)⟩
  · rw [key k (by omega)]; exact (step k hk).1
  · rw [key k (by omega)]; exact (step k hk).2.1
  · rw [key len (Nat.le_refl _)]
    unfold c_X8_findBest_81
    dsimp only
    rw [if_pos (Int32.le_refl _)]
    exact fun h => h
end P80

/-! the minute behind n minutes that aren't water's -/
def aAfter (wt m n : Int) : Int :=
  if 1 ≤ n then m - m % 10 + (max 0 (m % 10 - wt) + n - 1) / (10 - wt) * 10 + wt + (max 0 (m % 10 - wt) + n) - (max 0 (m % 10 - wt) + n - 1) / (10 - wt) * (10 - wt) else m
theorem aAfter_le {wt m n : Int} (h : n ≤ 0) : aAfter wt m n = m := by
  unfold aAfter
  rw [if_neg (by omega)]
theorem aAfter_b {wt m n : Int} (h1 : 0 ≤ wt) (h2 : wt ≤ 9) (h3 : 0 ≤ m) (hn : 1 ≤ n) : m + n ≤ aAfter wt m n ∧ aAfter wt m n ≤ m + 10 * n + 10 := by
  unfold aAfter
  rw [if_pos hn]
  have h : wt = 0 ∨ wt = 1 ∨ wt = 2 ∨ wt = 3 ∨ wt = 4 ∨ wt = 5 ∨ wt = 6 ∨ wt = 7 ∨ wt = 8 ∨ wt = 9 := by omega
  rcases h with rfl | rfl | rfl | rfl | rfl | rfl | rfl | rfl | rfl | rfl <;> simp only [Int.reduceSub] <;> omega
theorem aAfter_w {wt m n : Int} (h1 : 0 ≤ wt) (h2 : wt ≤ 9) (h3 : 0 ≤ m) (hn : 1 ≤ n) (h : m % 10 < wt) : aAfter wt (m + 1) n = aAfter wt m n := by
  unfold aAfter
  rw [if_pos hn, if_pos hn]
  have h : wt = 0 ∨ wt = 1 ∨ wt = 2 ∨ wt = 3 ∨ wt = 4 ∨ wt = 5 ∨ wt = 6 ∨ wt = 7 ∨ wt = 8 ∨ wt = 9 := by omega
  rcases h with rfl | rfl | rfl | rfl | rfl | rfl | rfl | rfl | rfl | rfl <;> simp only [Int.reduceSub] <;> omega
theorem aAfter_d {wt m n : Int} (h1 : 0 ≤ wt) (h2 : wt ≤ 9) (h3 : 0 ≤ m) (hn : 1 ≤ n) (h : wt ≤ m % 10) : aAfter wt (m + 1) (n - 1) = aAfter wt m n := by
  unfold aAfter
  rw [if_pos hn]
  have h : wt = 0 ∨ wt = 1 ∨ wt = 2 ∨ wt = 3 ∨ wt = 4 ∨ wt = 5 ∨ wt = 6 ∨ wt = 7 ∨ wt = 8 ∨ wt = 9 := by omega
  by_cases hn2 : 1 ≤ n - 1
  · rw [if_pos hn2]
    rcases h with rfl | rfl | rfl | rfl | rfl | rfl | rfl | rfl | rfl | rfl <;> simp only [Int.reduceSub] <;> omega
  · rw [if_neg hn2]
    rcases h with rfl | rfl | rfl | rfl | rfl | rfl | rfl | rfl | rfl | rfl <;> simp only [Int.reduceSub] <;> omega
section CA
variable {A B : Mm} {T S : Tw} {s o : Nat} {mb : Int}
theorem rem_iI {m : Int} (h3 : 0 ≤ m) (h4 : m ≤ 2000000) : iI m - iI m / 10 * 10 = iI (m % 10) := by
  rw [cl10, iI_div (by omega) (by omega) (by omega) (by omega), iI_mul, iI_sub]
  congr 1
  omega
theorem c_after (hT : CT A 100 T) (hI : InvT T) {m n : Int} (h3 : 0 ≤ m) (h4 : m ≤ 2000000) (h5 : 0 ≤ n) (h6 : n ≤ 1000) : p_X5_after A (iI m) (iI n) ∧ r_X5_after A (iI m) (iI n) = iI (aAfter (T 3 0) m n) := by
  have hl := hI.2.2.2.1.1
  have e0 : A.1 104 0 = iI (T 3 0) := hT.2.2.2.1 0 (by omega)
  have er := rem_iI h3 h4
  have eg : (if 0 < iI (m % 10) - iI (T 3 0) then iI (m % 10) - iI (T 3 0) else 0) = iI (max 0 (m % 10 - T 3 0)) := by
    rw [cl0, iI_sub, iteLT (by omega) (by omega) (by omega) (by omega), iI_ite]
    congr 1
    split <;> omega
  have ef : (if 1 < 10 - iI (T 3 0) then 10 - iI (T 3 0) else (1 : Int32)) = iI (10 - T 3 0) := by
    rw [cl1, cl10, iI_sub, iteLT (by omega) (by omega) (by omega) (by omega), iI_ite]
    congr 1
    split <;> omega
  have hb : 1 ≤ iI n ↔ 1 ≤ n := by rw [cl1, iI_le (by omega) (by omega) (by omega) (by omega)]
  constructor
  · unfold p_X5_after
    rw [e0, ef]
    split
    · refine ⟨?_, trivial⟩
      rw [cl0, iI_eq (by omega) (by omega) (by omega) (by omega)]
      omega
    · trivial
  · unfold r_X5_after aAfter
    simp only [e0, er, eg, ef]
    by_cases hn : 1 ≤ n
    · rw [if_pos (hb.mpr hn), if_pos hn]
      have eq : iI (max 0 (m % 10 - T 3 0)) + iI n - 1 = iI (max 0 (m % 10 - T 3 0) + n - 1) := by rw [cl1, iI_add, iI_sub]
      have ed : iI (max 0 (m % 10 - T 3 0) + n - 1) / iI (10 - T 3 0) = iI ((max 0 (m % 10 - T 3 0) + n - 1) / (10 - T 3 0)) := iI_div (by omega) (by omega) (by omega) (by omega)
      simp only [eq, ed]
      simp only [cl10, iI_sub, iI_mul, iI_add]
    · rw [if_neg (fun q => hn (hb.mp q)), if_neg hn]
theorem wi_wi (M : Mm) (a k : Nat) (v v' : Int32) : wi (wi M a k v) a k v' = wi M a k v' := by
  unfold wi
  congr 1
  funext b j
  by_cases h : b = a ∧ j = k
  · rw [if_pos h, if_pos h]
  · rw [if_neg h, if_neg h]
    show (if b = a ∧ j = k then v else M.1 b j) = M.1 b j
    rw [if_neg h]
theorem wi_id {M : Mm} {a k : Nat} {v : Int32} (h : M.1 a k = v) : wi M a k v = M := by
  unfold wi
  refine Prod.ext ?_ rfl
  funext b j
  show (if b = a ∧ j = k then v else M.1 b j) = M.1 b j
  by_cases e : b = a ∧ j = k
  · rw [if_pos e, e.1, e.2, h]
  · rw [if_neg e]
def nlef (wt m n : Int) : Nat → Int
  | 0 => n
  | k + 1 => if (m + k) % 10 < wt then nlef wt m n k else nlef wt m n k - 1
theorem nlef_s (wt m n : Int) (k : Nat) : nlef wt m n (k + 1) = if (m + k) % 10 < wt then nlef wt m n k else nlef wt m n k - 1 := rfl
theorem nlef_inv {wt m n : Int} (h1 : 0 ≤ wt) (h2 : wt ≤ 9) (h3 : 0 ≤ m) (hn : 0 ≤ n) : ∀ k : Nat, m + k ≤ aAfter wt m n → (0 ≤ nlef wt m n k ∧ nlef wt m n k ≤ n) ∧ aAfter wt (m + k) (nlef wt m n k) = aAfter wt m n
  | 0, _ => by
    unfold nlef
    refine ⟨⟨hn, Int.le_refl _⟩, ?_⟩
    congr 1
    omega
  | k + 1, h => by
    obtain ⟨⟨i1, i3⟩, i2⟩ := nlef_inv h1 h2 h3 hn k (by omega)
    have hpos : 1 ≤ nlef wt m n k := by
      by_cases hq : 1 ≤ nlef wt m n k
      · exact hq
      · rw [aAfter_le (by omega)] at i2
        omega
    have e : m + ((k + 1 : Nat) : Int) = m + k + 1 := by omega
    rw [nlef_s, e]
    by_cases c : (m + k) % 10 < wt
    · rw [if_pos c, aAfter_w h1 h2 (by omega) hpos c]
      exact ⟨⟨i1, i3⟩, i2⟩
    · rw [if_neg c, aAfter_d h1 h2 (by omega) hpos (by omega)]
      exact ⟨⟨by omega, by omega⟩, i2⟩
theorem r_passes (hT : RT B T) (ha : RA B o) (hI : InvT T) {m n : Int} (hm : B.1 607 (o + 21) = iI m) (h3 : 0 ≤ m) (h4 : m ≤ 1900000) (h5 : 0 ≤ n) (h6 : n ≤ 1000) : p_X8_passes B (iI n) ∧ w_X8_passes B (iI n) = wi B 607 (o + 21) (iI (aAfter (T 3 0) m n)) := by
  have hl := hI.2.2.2.1.1
  have e0 : B.1 604 0 = iI (T 3 0) := hT.2.2.2.1 0 (by omega)
  have hb : m ≤ aAfter (T 3 0) m n ∧ aAfter (T 3 0) m n ≤ m + 10 * n + 10 := by
    by_cases hn : 1 ≤ n
    · have := aAfter_b hl.1 hl.2 h3 hn
      omega
    · rw [aAfter_le (by omega)]
      omega
  obtain ⟨K, hK⟩ : ∃ K : Nat, (K : Int) = aAfter (T 3 0) m n - m := ⟨(aAfter (T 3 0) m n - m).toNat, by omega⟩
  have inv := nlef_inv (n := n) hl.1 hl.2 h3 h5
  have pos : ∀ k, k < K → 1 ≤ nlef (T 3 0) m n k := by
    intro k hk
    obtain ⟨i1, i2⟩ := inv k (by omega)
    by_cases hq : 1 ≤ nlef (T 3 0) m n k
    · exact hq
    · rw [aAfter_le (by omega)] at i2
      omega
  have last : nlef (T 3 0) m n K = 0 := by
    obtain ⟨⟨i1, i3⟩, i2⟩ := inv K (by omega)
    by_cases hq : 1 ≤ nlef (T 3 0) m n K
    · have := aAfter_b (n := nlef (T 3 0) m n K) hl.1 hl.2 (m := m + K) (by omega) hq
      omega
    · omega
  have raw : ∀ v, (wi B 607 (o + 21) v).1 600 10 = B.1 600 10 := fun v => rd_ne (Or.inl (by omega))
  have ix : ∀ v, Int32.toNatClampNeg ((wi B 607 (o + 21) v).1 600 10 + 21) = o + 21 := fun v => by rw [raw v]; exact ha.x21.1
  have key : ∀ k, k ≤ K → l_X8_passes_2 (iI n) (B, iI n) k = (wi B 607 (o + 21) (iI (m + k)), iI (nlef (T 3 0) m n k)) := by
    refine it_for _ ?_ (fun k hk => ?_)
    · rw [wi_id (by rw [hm]; congr 1; omega)]
      rfl
    · have hp := pos k hk
      obtain ⟨⟨i1, i3⟩, i2⟩ := inv k (by omega)
      show s_X8_passes_2 (iI n) (wi B 607 (o + 21) (iI (m + k)), iI (nlef (T 3 0) m n k)) = _
      unfold s_X8_passes_2
      dsimp only
      rw [ix, rd_same, rd_ne (Or.inl (show (604 : Nat) ≠ 607 by omega)), e0, rem_iI (by omega) (by omega), wi_wi]
      simp (disch := omega) only [cl0, cl1, iI_add, iI_sub, iI_le]
      rw [if_neg (by omega)]
      have e : m + ((k + 1 : Nat) : Int) = m + k + 1 := by omega
      rw [e]
      rw [nlef_s]
      by_cases c : (m + k) % 10 < T 3 0
      · rw [if_neg (by omega), if_pos c]
        simp
      · rw [if_pos (by omega), if_neg c]
  have cnt : cntN (fun k => c_X8_passes_2 (iI n) (l_X8_passes_2 (iI n) (B, iI n) k)) (10 * Int32.toNatClampNeg (iI n) + 20) = K := by
    refine cntN_eq ?_ (fun k hk => ?_) ?_
    · rw [iI_nat (by omega) (by omega)]
      omega
    · show c_X8_passes_2 _ _
      rw [key k (by omega)]
      have hp := pos k hk
      obtain ⟨⟨i1, i3⟩, i2⟩ := inv k (by omega)
      unfold c_X8_passes_2
      dsimp only
      rw [cl0, iteLE (by omega) (by omega) (by omega) (by omega), if_neg (by omega)]
      trivial
    · show ¬ c_X8_passes_2 _ _
      rw [key K (by omega), last]
      unfold c_X8_passes_2
      dsimp only
      rw [cl0, iteLE (by omega) (by omega) (by omega) (by omega), if_pos (by omega)]
      exact fun h => h
  have fin : (iI (nlef (T 3 0) m n K) ≤ 0) := by
    rw [last, cl0, iI_le (by omega) (by omega) (by omega) (by omega)]
    omega
  refine ⟨?_, ?_⟩
  · unfold p_X8_passes
    rw [cnt]
    refine ⟨fun k hk => ?_, fun k hk => ?_, ?_, ?_⟩
    · rw [key k (by omega)]
      have hp := pos k hk
      obtain ⟨⟨i1, i3⟩, i2⟩ := inv k (by omega)
      unfold c_X8_passes_2
      dsimp only
      rw [cl0, iteLE (by omega) (by omega) (by omega) (by omega), if_neg (by omega)]
      trivial
    · rw [key k (by omega)]
      unfold q_X8_passes_2
      dsimp only
      have hv : vp_in ((wi B 607 (o + 21) (iI (m + k))).1 600 10 + 21) 44 := by rw [raw]; exact ha.x21.2
      split
      · trivial
      · refine ⟨hv, ?_⟩
        split
        · exact ⟨hv, hv, trivial⟩
        · exact ⟨hv, hv, trivial⟩
    · rw [key K (by omega)]
      unfold c_X8_passes_2
      dsimp only
      rw [if_pos fin]
      exact fun h => h
    · rw [key K (by omega)]
      dsimp only
      rw [if_pos fin]
      trivial
  · unfold w_X8_passes
    rw [cnt, key K (by omega)]
    dsimp only
    rw [if_pos fin]
    congr 2
    omega
end CA

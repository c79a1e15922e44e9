/-! the bell: rounds as whole numbers -/
abbrev Bs : Type := Tw × (Nat → Int)
def bN (T : Tw) (nd : Nat → Int) (k : Nat) : Int := if nd k < T 3 3 then nd k else T 3 3
def bM (T : Tw) (p : Bs) (k : Nat) : Int := aAfter (T 3 0) (p.1 4 0) (bN T p.2 k)
def bStep (r : Bool) (T : Tw) (p : Bs) (k : Nat) : Bs := if aFree T p.1 k then (fun i j => if i = 4 ∧ j = 0 then bM T p k else if i = 2 ∧ j = k then (if p.2 k - bN T p.2 k = 0 then 1 else 0) else if (i = 3 ∧ j = k) ∧ (r = true ∨ p.2 k - bN T p.2 k = 0) then bM T p k else p.1 i j, fun j => if j = k then p.2 k - bN T p.2 k else p.2 j) else p
def bRnd (r : Bool) (T : Tw) (p : Bs) : Nat → Bs
  | 0 => p
  | k + 1 => bStep r T (bRnd r T p k) k
def bRun (r : Bool) (T : Tw) (n : Nat) (p : Bs) : Nat → Bs
  | 0 => p
  | j + 1 => bRnd r T (bRun r T n p j) n
def sumN (f : Nat → Int) : Nat → Int
  | 0 => 0
  | k + 1 => sumN f k + f k
theorem sumN_0 {f : Nat → Int} : ∀ n, (∀ j, j < n → 0 ≤ f j) → 0 ≤ sumN f n
  | 0, _ => Int.le_refl 0
  | k + 1, h => by
    have ih := sumN_0 k (fun j hj => h j (by omega))
    have := h k (by omega)
    show 0 ≤ sumN f k + f k
    omega
theorem sumN_b {f : Nat → Int} {c : Int} : ∀ n, (∀ j, j < n → f j ≤ c) → sumN f n ≤ c * (n : Int)
  | 0, _ => by show (0 : Int) ≤ c * ((0 : Nat) : Int); rw [show ((0 : Nat) : Int) = 0 from rfl, Int.mul_zero]; omega
  | k + 1, h => by
    have ih := sumN_b k (fun j hj => h j (by omega))
    have := h k (by omega)
    show sumN f k + f k ≤ c * ((k + 1 : Nat) : Int)
    rw [show ((k + 1 : Nat) : Int) = (k : Int) + 1 by omega, Int.mul_add, Int.mul_one]
    omega
theorem sumN_c {f g : Nat → Int} : ∀ n, (∀ j, j < n → f j = g j) → sumN f n = sumN g n
  | 0, _ => rfl
  | k + 1, h => by
    show sumN f k + f k = sumN g k + g k
    rw [sumN_c k (fun j hj => h j (by omega)), h k (by omega)]
theorem sumN_u {f g : Nat → Int} {k : Nat} : ∀ n, k < n → (∀ j, j ≠ k → g j = f j) → sumN g n = sumN f n + (g k - f k)
  | 0, h, _ => absurd h (Nat.not_lt_zero k)
  | m + 1, h, e => by
    show sumN g m + g m = sumN f m + f m + (g k - f k)
    by_cases q : k = m
    · rw [sumN_c m (fun j hj => e j (by omega)), q]; omega
    · rw [sumN_u m (by omega) e, e m (by omega)]; omega
section P68
variable {T : Tw} {p q : Bs} {r : Bool} {k n : Nat} {C : Int}
theorem bStep_no (h : ¬ aFree T p.1 k) : bStep r T p k = p := by unfold bStep; rw [if_neg h]
theorem bStep_2 (h : aFree T p.1 k) : (bStep r T p k).2 = (fun j => if j = k then p.2 k - bN T p.2 k else p.2 j) := by unfold bStep; rw [if_pos h]
theorem bStep_1 (h : aFree T p.1 k) : (bStep r T p k).1 = (fun i j => if i = 4 ∧ j = 0 then bM T p k else if i = 2 ∧ j = k then (if p.2 k - bN T p.2 k = 0 then 1 else 0) else if (i = 3 ∧ j = k) ∧ (r = true ∨ p.2 k - bN T p.2 k = 0) then bM T p k else p.1 i j) := by unfold bStep; rw [if_pos h]
theorem bStep_s2 (h : aFree T p.1 k) (j : Nat) : (bStep r T p k).1 2 j = if j = k then (if p.2 k - bN T p.2 k = 0 then 1 else 0) else p.1 2 j := by
  rw [bStep_1 h]
  show (if 2 = 4 ∧ j = 0 then _ else if 2 = 2 ∧ j = k then _ else if (2 = 3 ∧ j = k) ∧ _ then _ else _) = _
  rw [if_neg (by omega)]
  by_cases c : j = k
  · rw [if_pos ⟨rfl, c⟩, if_pos c]
  · rw [if_neg (fun u => c u.2), if_neg (fun u => c u.1.2), if_neg c]
theorem bN_b (hI : InvT T) (h0 : ∀ j, 0 ≤ p.2 j) : 0 ≤ bN T p.2 k ∧ bN T p.2 k ≤ 20 ∧ bN T p.2 k ≤ p.2 k ∧ (p.2 k - bN T p.2 k ≠ 0 → 1 ≤ bN T p.2 k) := by
  have t := hI.2.2.2.1.2.2.2
  have := h0 k
  unfold bN
  split <;> omega
def BI (T : Tw) (C : Int) (p : Bs) : Prop := InvS T p.1 C ∧ (∀ j, 0 ≤ p.2 j) ∧ p.1 4 0 + 20 * sumN p.2 (T 0 2).toNat ≤ C
theorem BI.step (hI : InvT T) (h : BI T C p) (hk : k < (T 0 2).toNat) : BI T C (bStep r T p k) := by
  by_cases c : aFree T p.1 k
  · obtain ⟨⟨j1, j2, j3, j4, j5, j6⟩, h2, h3⟩ := h
    have nb := bN_b (k := k) hI h2
    have t0 := hI.2.2.2.1.1
    have mb : p.1 4 0 ≤ bM T p k ∧ bM T p k ≤ p.1 4 0 + 20 * bN T p.2 k := by
      unfold bM
      by_cases z : bN T p.2 k ≤ 0
      · rw [aAfter_le z]; omega
      · have := aAfter_b (wt := T 3 0) (m := p.1 4 0) (n := bN T p.2 k) t0.1 t0.2 j5.1 (by omega)
        omega
    have nd : ∀ j, 0 ≤ (bStep r T p k).2 j := fun j => by
      rw [bStep_2 c]
      show 0 ≤ if j = k then _ else _
      have := h2 j
      split <;> omega
    have sm : sumN (bStep r T p k).2 (T 0 2).toNat = sumN p.2 (T 0 2).toNat - bN T p.2 k := by
      rw [sumN_u (f := p.2) (k := k) (T 0 2).toNat hk (fun j hj => by rw [bStep_2 c]; show (if j = k then _ else _) = _; rw [if_neg hj])]
      have : (bStep r T p k).2 k = p.2 k - bN T p.2 k := by rw [bStep_2 c]; show (if k = k then _ else _) = _; rw [if_pos rfl]
      omega
    have s0 := sumN_0 (T 0 2).toNat (fun j _ => nd j)
    have e4 : (bStep r T p k).1 4 0 = bM T p k := by rw [bStep_1 c]; show (if 4 = 4 ∧ 0 = 0 then _ else _) = _; rw [if_pos ⟨rfl, rfl⟩]
    refine ⟨⟨fun x a b => ?_, fun x a b => ?_, fun x a b => ?_, fun x a b => ?_, ?_, j6⟩, nd, ?_⟩
    · rw [bStep_1 c]
      show 0 ≤ (if 0 = 4 ∧ _ then _ else if 0 = 2 ∧ _ then _ else if (0 = 3 ∧ _) ∧ _ then _ else _) ∧ _
      simp only [show ¬ (0 : Nat) = 4 by omega, show ¬ (0 : Nat) = 2 by omega, show ¬ (0 : Nat) = 3 by omega, false_and, if_false]
      exact j1 x a b
    · rw [bStep_1 c]
      simp only [show ¬ (1 : Nat) = 4 by omega, show ¬ (1 : Nat) = 2 by omega, show ¬ (1 : Nat) = 3 by omega, false_and, if_false]
      exact j2 x a b
    · rw [bStep_s2 c]
      have := j3 x a b
      split
      · split <;> omega
      · exact this
    · rw [bStep_1 c]
      simp only [show ¬ (3 : Nat) = 4 by omega, show ¬ (3 : Nat) = 2 by omega, false_and, if_false]
      have := j4 x a b
      split
      · omega
      · omega
    · rw [e4]; omega
    · rw [e4, sm]; omega
  · rw [bStep_no c]; exact h
theorem BI.rnd (hI : InvT T) (h : BI T C p) : ∀ k, k ≤ (T 0 2).toNat → BI T C (bRnd r T p k)
  | 0, _ => h
  | k + 1, hk => (BI.rnd hI h k (by omega)).step hI (by omega)
theorem BI.run (hI : InvT T) (h : BI T C p) : ∀ j, BI T C (bRun r T (T 0 2).toNat p j)
  | 0 => h
  | j + 1 => (BI.run hI h j).rnd hI _ (Nat.le_refl _)
/-- what is left -/
def bMu (p : Bs) (n : Nat) : Int := sumN (fun j => if p.1 2 j = 0 then p.2 j + 1 else 0) n
theorem bMu_0 (h : ∀ j, 0 ≤ p.2 j) : 0 ≤ bMu p n := sumN_0 n (fun j _ => by have := h j; split <;> omega)
theorem bMu_step (hI : InvT T) (h : ∀ j, 0 ≤ p.2 j) (hk : k < n) : bMu (bStep r T p k) n ≤ bMu p n ∧ (aFree T p.1 k → bMu (bStep r T p k) n < bMu p n) := by
  by_cases c : aFree T p.1 k
  · have nb := bN_b (k := k) hI h
    have e := sumN_u (f := fun j => if p.1 2 j = 0 then p.2 j + 1 else 0) (g := fun j => if (bStep r T p k).1 2 j = 0 then (bStep r T p k).2 j + 1 else 0) (k := k) n hk (fun j hj => by
      show (if (bStep r T p k).1 2 j = 0 then (bStep r T p k).2 j + 1 else 0) = (if p.1 2 j = 0 then p.2 j + 1 else 0)
      rw [bStep_s2 c, if_neg hj, bStep_2 c]
      show (if p.1 2 j = 0 then (if j = k then _ else p.2 j) + 1 else 0) = _
      rw [if_neg hj])
    have g : (if (bStep r T p k).1 2 k = 0 then (bStep r T p k).2 k + 1 else 0) ≤ p.2 k := by
      rw [bStep_s2 c, if_pos rfl, bStep_2 c]
      show (if (if p.2 k - bN T p.2 k = 0 then (1 : Int) else 0) = 0 then (if k = k then p.2 k - bN T p.2 k else p.2 k) + 1 else 0) ≤ p.2 k
      rw [if_pos (show k = k from rfl)]
      by_cases z : p.2 k - bN T p.2 k = 0
      · rw [if_pos z, if_neg (by decide)]; exact h k
      · rw [if_neg z, if_pos rfl]
        have := nb.2.2.2 z
        omega
    have f : (if p.1 2 k = 0 then p.2 k + 1 else 0) = p.2 k + 1 := if_pos c.1
    have e' : bMu (bStep r T p k) n = bMu p n + ((if (bStep r T p k).1 2 k = 0 then (bStep r T p k).2 k + 1 else 0) - (if p.1 2 k = 0 then p.2 k + 1 else 0)) := e
    omega
  · rw [bStep_no c]
    exact ⟨Int.le_refl _, fun u => absurd u c⟩
theorem bStep_nd (hI : InvT T) (h : ∀ j, 0 ≤ p.2 j) : ∀ j, 0 ≤ (bStep r T p k).2 j := fun j => by
  by_cases c : aFree T p.1 k
  · have nb := bN_b (k := k) hI h
    rw [bStep_2 c]
    show 0 ≤ if j = k then _ else _
    have := h j
    split <;> omega
  · rw [bStep_no c]; exact h j
theorem bRnd_nd (hI : InvT T) (h : ∀ j, 0 ≤ p.2 j) : ∀ k, ∀ j, 0 ≤ (bRnd r T p k).2 j
  | 0 => h
  | k + 1 => bStep_nd hI (bRnd_nd hI h k)
theorem bRnd_st : ∀ k j, (k ≤ j → (bRnd r T p k).1 2 j = p.1 2 j) ∧ (p.1 2 j ≠ 0 → (bRnd r T p k).1 2 j = p.1 2 j)
  | 0, j => ⟨fun _ => rfl, fun _ => rfl⟩
  | k + 1, j => by
    obtain ⟨h1, h2⟩ := bRnd_st k j
    show (k + 1 ≤ j → (bStep r T (bRnd r T p k) k).1 2 j = p.1 2 j) ∧ (p.1 2 j ≠ 0 → (bStep r T (bRnd r T p k) k).1 2 j = p.1 2 j)
    by_cases c : aFree T (bRnd r T p k).1 k
    · rw [bStep_s2 c]
      refine ⟨fun hj => ?_, fun hj => ?_⟩
      · rw [if_neg (by omega)]; exact h1 (by omega)
      · by_cases q : j = k
        · have := h2 hj
          rw [q] at this hj
          rw [c.1] at this
          exact absurd this.symm hj
        · rw [if_neg q]; exact h2 hj
    · rw [bStep_no c]
      exact ⟨fun hj => h1 (by omega), h2⟩
theorem bRnd_mu (hI : InvT T) (h : ∀ j, 0 ≤ p.2 j) (hn : n = (T 0 2).toNat) : ∀ k, k ≤ n → bMu (bRnd r T p k) n ≤ bMu p n ∧ ((∃ j, j < k ∧ p.1 2 j = 0) → bMu (bRnd r T p k) n < bMu p n)
  | 0, _ => ⟨Int.le_refl _, fun ⟨j, hj, _⟩ => absurd hj (Nat.not_lt_zero j)⟩
  | k + 1, hk => by
    obtain ⟨h1, h2⟩ := bRnd_mu hI h hn k (by omega)
    obtain ⟨s1, s2⟩ := bMu_step (r := r) (n := n) (k := k) hI (bRnd_nd (r := r) hI h k) (by omega)
    show bMu (bStep r T (bRnd r T p k) k) n ≤ bMu p n ∧ ((∃ j, j < k + 1 ∧ p.1 2 j = 0) → bMu (bStep r T (bRnd r T p k) k) n < bMu p n)
    refine ⟨by omega, fun ⟨j, hj, hz⟩ => ?_⟩
    by_cases e : ∃ j, j < k ∧ p.1 2 j = 0
    · have := h2 e
      omega
    · have jk : j = k := by
        by_cases q : j = k
        · exact q
        · exact absurd ⟨j, by omega, hz⟩ e
      rw [jk] at hz
      have k6 := (hI.2.2.2.2 k (by omega)).2.2.2.2.2.2.1
      have fr : aFree T (bRnd r T p k).1 k := by
        refine ⟨by rw [(bRnd_st k k).1 (Nat.le_refl _)]; exact hz, fun u => ?_⟩
        have nz : p.1 2 (T (10 + k) 6).toNat ≠ 0 := fun z => e ⟨_, by omega, z⟩
        rw [(bRnd_st k _).2 nz] at u
        exact nz u.2
      have := s2 fr
      omega
theorem bRun_nd (hI : InvT T) (h : ∀ j, 0 ≤ p.2 j) : ∀ i, ∀ j, 0 ≤ (bRun r T n p i).2 j
  | 0 => h
  | i + 1 => bRnd_nd hI (bRun_nd hI h i) n
/-- the work ends -/
theorem bell_ends (hI : InvT T) (h : ∀ j, 0 ≤ p.2 j) (hn : n = (T 0 2).toNat) {w : Nat} (hw : w < n) (h0 : p.1 2 w = 0) {B : Nat} (hB : bMu p n ≤ (B : Int)) : ∃ j0, 1 ≤ j0 ∧ j0 ≤ B ∧ (∀ j, j < j0 → (bRun r T n p j).1 2 w = 0) ∧ (bRun r T n p j0).1 2 w ≠ 0 := by
  obtain ⟨j, j1, j2, j3⟩ := fst_ex (fun j => (bRun r T n p j).1 2 w = 0) (B + 1)
  have mu : ∀ i, i ≤ j → bMu (bRun r T n p i) n ≤ (B : Int) - (i : Int) := by
    intro i
    induction i with
    | zero => intro _; show bMu p n ≤ _; omega
    | succ i ih =>
      intro hi
      have := ih (by omega)
      have l := (bRnd_mu (r := r) hI (bRun_nd (r := r) (n := n) hI h i) hn n (Nat.le_refl _)).2 ⟨w, hw, j2 i (by omega)⟩
      show bMu (bRnd r T (bRun r T n p i) n) n ≤ _
      omega
  have z := bMu_0 (n := n) (bRun_nd (r := r) (n := n) hI h j)
  have m := mu j (Nat.le_refl _)
  have nj : ¬ (bRun r T n p j).1 2 w = 0 := by
    rcases j3 with j3 | j3
    · omega
    · exact j3
  refine ⟨j, ?_, by omega, j2, nj⟩
  rcases Nat.eq_zero_or_pos j with q | q
  · rw [q] at nj; exact absurd h0 nj
  · exact q
/-- class and reference -/
def eqv (p q : Bs) : Prop := (∀ i j, i ≠ 3 → p.1 i j = q.1 i j) ∧ (∀ j, p.1 2 j ≠ 0 → p.1 3 j = q.1 3 j) ∧ (∀ j, p.1 2 j = 0 → p.2 j = q.2 j)
theorem eqv.step (h : eqv p q) (k : Nat) : eqv (bStep false T p k) (bStep true T q k) := by
  obtain ⟨h1, h2, h3⟩ := h
  have fe : aFree T p.1 k ↔ aFree T q.1 k := by
    unfold aFree
    rw [h1 2 k (by omega), h1 2 (T (10 + k) 6).toNat (by omega)]
  by_cases c : aFree T p.1 k
  · have c' := fe.mp c
    have e2 := h3 k c.1
    have en : bN T p.2 k = bN T q.2 k := by unfold bN; rw [e2]
    have em : bM T p k = bM T q k := by unfold bM; rw [h1 4 0 (by omega), en]
    refine ⟨fun i j hi => ?_, fun j hj => ?_, fun j hj => ?_⟩
    · rw [bStep_1 c, bStep_1 c']
      show (if i = 4 ∧ j = 0 then _ else if i = 2 ∧ j = k then _ else if (i = 3 ∧ j = k) ∧ _ then _ else p.1 i j) = (if i = 4 ∧ j = 0 then _ else if i = 2 ∧ j = k then _ else if (i = 3 ∧ j = k) ∧ _ then _ else q.1 i j)
      have g1 : ¬ ((i = 3 ∧ j = k) ∧ (false = true ∨ q.2 k - bN T q.2 k = 0)) := fun u => hi u.1.1
      have g2 : ¬ ((i = 3 ∧ j = k) ∧ (true = true ∨ q.2 k - bN T q.2 k = 0)) := fun u => hi u.1.1
      rw [em, e2, en, if_neg g1, if_neg g2, h1 i j hi]
    · rw [bStep_s2 c] at hj
      rw [bStep_1 c, bStep_1 c']
      show (if 3 = 4 ∧ j = 0 then _ else if 3 = 2 ∧ j = k then _ else if (3 = 3 ∧ j = k) ∧ (false = true ∨ p.2 k - bN T p.2 k = 0) then bM T p k else p.1 3 j) = (if 3 = 4 ∧ j = 0 then _ else if 3 = 2 ∧ j = k then _ else if (3 = 3 ∧ j = k) ∧ (true = true ∨ q.2 k - bN T q.2 k = 0) then bM T q k else q.1 3 j)
      have g1 : ¬ ((3 : Nat) = 4 ∧ j = 0) := by omega
      have g2 : ¬ ((3 : Nat) = 2 ∧ j = k) := by omega
      rw [if_neg g1, if_neg g2, if_neg g1, if_neg g2]
      by_cases d : j = k
      · rw [if_pos d] at hj
        have z : p.2 k - bN T p.2 k = 0 := by
          by_cases z : p.2 k - bN T p.2 k = 0
          · exact z
          · rw [if_neg z] at hj; exact absurd rfl hj
        rw [if_pos ⟨⟨rfl, d⟩, Or.inr z⟩, if_pos ⟨⟨rfl, d⟩, Or.inl rfl⟩, em]
      · rw [if_neg d] at hj
        rw [if_neg (fun u => d u.1.2), if_neg (fun u => d u.1.2)]
        exact h2 j hj
    · rw [bStep_s2 c] at hj
      rw [bStep_2 c, bStep_2 c']
      show (if j = k then p.2 k - bN T p.2 k else p.2 j) = (if j = k then q.2 k - bN T q.2 k else q.2 j)
      by_cases d : j = k
      · rw [if_pos d, if_pos d, e2, en]
      · rw [if_neg d] at hj
        rw [if_neg d, if_neg d]
        exact h3 j hj
  · rw [bStep_no c, bStep_no (fun u => c (fe.mpr u))]
    exact ⟨h1, h2, h3⟩
theorem eqv.rnd (h : eqv p q) : ∀ k, eqv (bRnd false T p k) (bRnd true T q k)
  | 0 => h
  | k + 1 => (eqv.rnd h k).step k
theorem eqv.run (h : eqv p q) : ∀ j, eqv (bRun false T n p j) (bRun true T n q j)
  | 0 => h
  | j + 1 => (eqv.run h j).rnd n
end P68

/-! dues -/
def dvv (x : Int32) : Int := if x.toInt < 0 then 0 else if 999 < x.toInt then 999 else x.toInt
theorem dvv_b (x : Int32) : 0 ≤ dvv x ∧ dvv x ≤ 999 := by unfold dvv; split; omega; split <;> omega
theorem c_due (x : Int32) : (if 0 < (if x < 999 then x else 999) then (if x < 999 then x else 999) else 0) = iI (dvv x) := by
  obtain ⟨v, rfl, b1, b2⟩ := ex_iI x
  unfold dvv
  rw [iI_toInt b1 b2]
  have e1 : (iI v < 999) ↔ v < 999 := by rw [cl999, iI_lt (by omega) (by omega) (by omega) (by omega)]
  have e2 : (0 < iI v) ↔ 0 < v := by rw [cl0, iI_lt (by omega) (by omega) (by omega) (by omega)]
  by_cases c1 : v < 999
  · rw [if_pos (e1.mpr c1)]
    by_cases c2 : 0 < v
    · rw [if_pos (e2.mpr c2), if_neg (by omega), if_neg (by omega)]
    · rw [if_neg (fun u => c2 (e2.mp u))]
      by_cases c3 : v < 0
      · rw [if_pos c3]; rfl
      · rw [if_neg c3, if_neg (by omega), show v = 0 by omega]; rfl
  · rw [if_neg (fun u => c1 (e1.mp u)), if_pos (show (0 : Int32) < 999 by decide), if_neg (by omega)]
    by_cases c3 : 999 < v
    · rw [if_pos c3]; exact cl999
    · rw [if_neg c3, show v = 999 by omega]; exact cl999
theorem r_due {α : Type} (f : Int32 → α) (x : Int32) : (if 0 ≤ lg_cmp x.toInt64 0 then (if lg_cmp x.toInt64 999 ≤ 0 then f (Int64.toInt32 x.toInt64) else f 999) else f 0) = f (iI (dvv x)) := by
  have e1 : (0 ≤ lg_cmp x.toInt64 0) ↔ 0 ≤ x.toInt := by rw [lg_cmp_ge, Int64.le_iff_toInt_le, Int32.toInt_toInt64, show (0 : Int64).toInt = 0 by decide]
  have e2 : (lg_cmp x.toInt64 999 ≤ 0) ↔ x.toInt ≤ 999 := by rw [lg_cmp_le, Int64.le_iff_toInt_le, Int32.toInt_toInt64, show (999 : Int64).toInt = 999 by decide]
  unfold dvv
  by_cases c1 : 0 ≤ x.toInt
  · have g1 : ¬ x.toInt < 0 := by omega
    rw [if_pos (e1.mpr c1), if_neg g1]
    by_cases c2 : x.toInt ≤ 999
    · have g2 : ¬ 999 < x.toInt := by omega
      rw [if_pos (e2.mpr c2), if_neg g2, Int32.toInt32_toInt64, ← iI_of]
    · have g2 : 999 < x.toInt := by omega
      rw [if_neg (fun u => c2 (e2.mp u)), if_pos g2]; rfl
  · have g1 : x.toInt < 0 := by omega
    rw [if_neg (fun u => c1 (e1.mp u)), if_pos g1]; rfl
def dC (M : Mm) (xs : Nat → Int32) (j : Nat) : Mm := (fun a i => if 110 ≤ a ∧ a < 110 + j ∧ i = 4 then iI (dvv (xs (a - 110))) else M.1 a i, M.2)
def dR (M : Mm) (xs : Nat → Int32) (j : Nat) : Mm := (fun a i => if a = 603 ∧ i % 8 = 4 ∧ i / 8 < j then iI (dvv (xs (i / 8))) else M.1 a i, M.2)
section P47
variable {M : Mm} {n : Nat}
theorem c_dueL {k m : Nat} (hk : k < 4) (hm : m ≤ 6) (x2 : Int32) {xs : Nat → Int32} (hx : ∀ i, i < 40 → M.2 (534 + k) i = (xs i).toInt64) :
    (∀ j, j < m → c_X7_dues_39 (iI (k : Int)) x2 (iI (m : Int)) (l_X7_dues_39 (iI (k : Int)) x2 (iI (m : Int)) (M, 0) j)) ∧ (∀ j, j < m → q_X7_dues_39 (iI (k : Int)) x2 (iI (m : Int)) (l_X7_dues_39 (iI (k : Int)) x2 (iI (m : Int)) (M, 0) j)) ∧
    (¬ c_X7_dues_39 (iI (k : Int)) x2 (iI (m : Int)) (l_X7_dues_39 (iI (k : Int)) x2 (iI (m : Int)) (M, 0) m)) ∧ (iI (m : Int) ≤ (l_X7_dues_39 (iI (k : Int)) x2 (iI (m : Int)) (M, 0) m).2) ∧ (l_X7_dues_39 (iI (k : Int)) x2 (iI (m : Int)) (M, 0) m).1 = dC M xs m := by
  have nk : Int32.toNatClampNeg (iI (k : Int)) = k := natk rfl (by omega)
  have vk : vp_in (iI (k : Int)) 4 := vin_iI (by omega) (by omega) (by omega)
  have key : ∀ j, j ≤ m → l_X7_dues_39 (iI (k : Int)) x2 (iI (m : Int)) (M, 0) j = (dC M xs j, iI (j : Int)) := by
    refine it_for _ ?_ (fun j hj => ?_)
    · refine Prod.ext (Prod.ext ?_ rfl) rfl
      funext a i
      show M.1 a i = if 110 ≤ a ∧ a < 110 + 0 ∧ i = 4 then iI (dvv (xs (a - 110))) else M.1 a i
      rw [if_neg (by omega)]
    · show s_X7_dues_39 (iI (k : Int)) x2 (iI (m : Int)) (dC M xs j, iI (j : Int)) = _
      unfold s_X7_dues_39
      dsimp only
      have hlt : ¬ iI (m : Int) ≤ iI (j : Int) := by rw [iI_le (by omega) (by omega) (by omega) (by omega)]; omega
      have e : (dC M xs j).2 (534 + k) j = (xs j).toInt64 := hx j (by omega)
      rw [if_neg hlt, k1_iI, nk, natk (n := j) rfl (by omega), e, Int32.toInt32_toInt64, c_due]
      refine Prod.ext (Prod.ext ?_ rfl) rfl
      funext a i
      show (if a = 110 + j ∧ i = 4 then iI (dvv (xs j)) else if 110 ≤ a ∧ a < 110 + j ∧ i = 4 then iI (dvv (xs (a - 110))) else M.1 a i) = if 110 ≤ a ∧ a < 110 + (j + 1) ∧ i = 4 then iI (dvv (xs (a - 110))) else M.1 a i
      by_cases q : 110 ≤ a ∧ a < 110 + (j + 1) ∧ i = 4
      · rw [if_pos q]
        by_cases q2 : a = 110 + j
        · rw [if_pos ⟨q2, q.2.2⟩, q2, Nat.add_sub_cancel_left]
        · rw [if_neg (by omega), if_pos (by omega)]
      · rw [if_neg q, if_neg (by omega), if_neg (by omega)]
  have kN := key m (Nat.le_refl _)
  have fin : iI (m : Int) ≤ (l_X7_dues_39 (iI (k : Int)) x2 (iI (m : Int)) (M, 0) m).2 := by
    rw [kN]
    show iI (m : Int) ≤ iI (m : Int)
    rw [iI_le (by omega) (by omega) (by omega) (by omega)]
    omega
  refine ⟨fun j hj => ?_, fun j hj => ?_, ?_, fin, by rw [kN]⟩
  · rw [key j (by omega)]
    unfold c_X7_dues_39
    dsimp only
    rw [iteLE (by omega) (by omega) (by omega) (by omega), if_neg (by omega)]
    trivial
  · rw [key j (by omega)]
    unfold q_X7_dues_39
    dsimp only
    split
    · trivial
    · exact ⟨vk, vin_iI (by omega) (by omega) (by omega), vin_iI (by omega) (by omega) (by omega), trivial⟩
  · unfold c_X7_dues_39
    rw [if_pos fin]
    exact fun h => h
theorem r_dueL {k m : Nat} (hk : k < 4) (hm : m ≤ 6) (x2 : Int32) {xs : Nat → Int32} (hx : ∀ i, i < 40 → M.2 622 (40 * k + i) = (xs i).toInt64) :
    (∀ j, j < m → c_X8_dues_52 (iI (k : Int)) x2 (iI (m : Int)) (l_X8_dues_52 (iI (k : Int)) x2 (iI (m : Int)) (M, 0) j)) ∧ (∀ j, j < m → q_X8_dues_52 (iI (k : Int)) x2 (iI (m : Int)) (l_X8_dues_52 (iI (k : Int)) x2 (iI (m : Int)) (M, 0) j)) ∧
    (¬ c_X8_dues_52 (iI (k : Int)) x2 (iI (m : Int)) (l_X8_dues_52 (iI (k : Int)) x2 (iI (m : Int)) (M, 0) m)) ∧ (iI (m : Int) ≤ (l_X8_dues_52 (iI (k : Int)) x2 (iI (m : Int)) (M, 0) m).2) ∧ (l_X8_dues_52 (iI (k : Int)) x2 (iI (m : Int)) (M, 0) m).1 = dR M xs m := by
  have key : ∀ j, j ≤ m → l_X8_dues_52 (iI (k : Int)) x2 (iI (m : Int)) (M, 0) j = (dR M xs j, iI (j : Int)) := by
    refine it_for _ ?_ (fun j hj => ?_)
    · refine Prod.ext (Prod.ext ?_ rfl) rfl
      funext a i
      show M.1 a i = if a = 603 ∧ i % 8 = 4 ∧ i / 8 < 0 then iI (dvv (xs (i / 8))) else M.1 a i
      rw [if_neg (by omega)]
    · show s_X8_dues_52 (iI (k : Int)) x2 (iI (m : Int)) (dR M xs j, iI (j : Int)) = _
      unfold s_X8_dues_52
      dsimp only
      have hlt : ¬ iI (m : Int) ≤ iI (j : Int) := by rw [iI_le (by omega) (by omega) (by omega) (by omega)]; omega
      have nj : Int32.toNatClampNeg ((40 : Int32) * iI (k : Int) + iI (j : Int)) = 40 * k + j := by rw [cl40, iI_mul, iI_add]; exact natk (by omega) (by omega)
      have n8 : Int32.toNatClampNeg ((8 : Int32) * iI (j : Int) + 4) = 8 * j + 4 := by rw [cl8, cl4, iI_mul, iI_add]; exact natk (by omega) (by omega)
      have e : (dR M xs j).2 622 (40 * k + j) = (xs j).toInt64 := hx j (by omega)
      rw [if_neg hlt, k1_iI, nj, n8, e]
      refine (r_due (fun v => (wi (dR M xs j) 603 (8 * j + 4) v, iI ((j + 1 : Nat) : Int))) (xs j)).trans ?_
      refine Prod.ext (Prod.ext ?_ rfl) rfl
      funext a i
      show (if a = 603 ∧ i = 8 * j + 4 then iI (dvv (xs j)) else if a = 603 ∧ i % 8 = 4 ∧ i / 8 < j then iI (dvv (xs (i / 8))) else M.1 a i) = if a = 603 ∧ i % 8 = 4 ∧ i / 8 < j + 1 then iI (dvv (xs (i / 8))) else M.1 a i
      by_cases q : a = 603 ∧ i % 8 = 4 ∧ i / 8 < j + 1
      · rw [if_pos q]
        by_cases q2 : i / 8 = j
        · rw [if_pos (by omega), q2]
        · rw [if_neg (by omega), if_pos (by omega)]
      · rw [if_neg q, if_neg (by omega), if_neg (by omega)]
  have kN := key m (Nat.le_refl _)
  have fin : iI (m : Int) ≤ (l_X8_dues_52 (iI (k : Int)) x2 (iI (m : Int)) (M, 0) m).2 := by
    rw [kN]
    show iI (m : Int) ≤ iI (m : Int)
    rw [iI_le (by omega) (by omega) (by omega) (by omega)]
    omega
  refine ⟨fun j hj => ?_, fun j hj => ?_, ?_, fin, by rw [kN]⟩
  · rw [key j (by omega)]
    unfold c_X8_dues_52
    dsimp only
    rw [iteLE (by omega) (by omega) (by omega) (by omega), if_neg (by omega)]
    trivial
  · rw [key j (by omega)]
    unfold q_X8_dues_52
    dsimp only
    have v1 : vp_in ((40 : Int32) * iI (k : Int) + iI (j : Int)) 160 := by rw [cl40, iI_mul, iI_add]; exact vin_iI (by omega) (by omega) (by omega)
    have v2 : vp_in ((8 : Int32) * iI (j : Int) + 4) 48 := by rw [cl8, cl4, iI_mul, iI_add]; exact vin_iI (by omega) (by omega) (by omega)
    split
    · trivial
    · refine ⟨v1, ?_⟩
      split
      · split <;> exact ⟨v2, trivial⟩
      · exact ⟨v2, trivial⟩
  · unfold c_X8_dues_52
    rw [if_pos fin]
    exact fun h => h
theorem dues_fin (h : Rel M n) (hn : n < 64) {m : Nat} {xs : Nat → Int32} {T S : Tw} {g : Int} (hR : RelTo M n T S g) (hm : (m : Int) ≤ T 0 2) : Rel (dR (dC M xs m) xs m) (n + 1) := by
  obtain ⟨⟨c1, c2, c3, c4⟩, ⟨r1, r2, r3, r4, r5⟩, i1, i2, i3, i4, i5⟩ := hR
  have hc := i1.1
  have rd : ∀ a i, (dR (dC M xs m) xs m).1 a i = if a = 603 ∧ i % 8 = 4 ∧ i / 8 < m then iI (dvv (xs (i / 8))) else if 110 ≤ a ∧ a < 110 + m ∧ i = 4 then iI (dvv (xs (a - 110))) else M.1 a i := fun a i => rfl
  have F : Fp (fun a i => (110 ≤ a ∧ a < 110 + m ∧ i = 4) ∨ (a = 603 ∧ i % 8 = 4 ∧ i / 8 < m)) M (dR (dC M xs m) xs m) := fun a i hq => ⟨by rw [rd, if_neg (by omega), if_neg (by omega)], rfl⟩
  generalize dR (dC M xs m) xs m = M2 at rd F ⊢
  obtain ⟨T', hT'⟩ : ∃ T' : Tw, T' = fun a b => if 10 ≤ a ∧ a < 10 + m ∧ b = 4 then dvv (xs (a - 10)) else T a b := ⟨_, rfl⟩
  have eo : ∀ i k, i < 10 → T' i k = T i k := fun i k hi => by rw [hT']; show (if _ then _ else _) = _; rw [if_neg (by omega)]
  have e0 : ∀ k, T' 0 k = T 0 k := fun k => eo 0 k (by omega)
  have ew : ∀ (w f : Nat), T' (10 + w) f = if w < m ∧ f = 4 then dvv (xs w) else T (10 + w) f := fun w f => by
    rw [hT']
    show (if 10 ≤ 10 + w ∧ 10 + w < 10 + m ∧ f = 4 then dvv (xs (10 + w - 10)) else T (10 + w) f) = _
    rw [Nat.add_sub_cancel_left]
    by_cases q : w < m ∧ f = 4
    · rw [if_pos (by omega), if_pos q]
    · rw [if_neg (by omega), if_neg q]
  have j1 : InvT T' := by
    obtain ⟨g1, g2, g3, g4, g5⟩ := i1
    unfold InvT
    simp only [e0, eo 1 _ (by omega), eo 2 _ (by omega), eo 3 _ (by omega)]
    refine ⟨g1, g2, g3, g4, fun v hv => ?_⟩
    obtain ⟨u0, u1, u2, u3, u4, u5, u6, u7⟩ := g5 v hv
    unfold WkI
    simp only [e0, ew]
    refine ⟨?_, ?_, ?_, ?_, ?_, ?_, ?_, ?_⟩
    · rw [if_neg (by omega)]; exact u0
    · rw [if_neg (by omega)]; exact u1
    · rw [if_neg (by omega)]; exact u2
    · rw [if_neg (by omega)]; exact u3
    · by_cases q : v < m ∧ True
      · rw [if_pos q]; exact dvv_b _
      · rw [if_neg q]; exact u4
    · rw [if_neg (by omega)]; exact u5
    · rw [if_neg (by omega)]; exact u6
    · rw [if_neg (by omega)]; exact u7
  refine h.of (by omega) F (Or.inr ⟨T', S, g, ⟨⟨?_, ?_, ?_, fun k hk => ?_, fun v f hv hf => ?_⟩, (c2.fp (fun a k h1 h2 => (F a k (by omega)).1)).eq0 e0, by rw [(F _ _ (by omega)).1]; exact c3, CRu.eq (T := T) ⟨by rw [(F _ _ (by omega)).1]; exact c4.1, fun u h0 h1 => ⟨by rw [(F _ _ (by omega)).1]; exact (c4.2 u h0 h1).1, by rw [(F _ _ (by omega)).1]; exact (c4.2 u h0 h1).2⟩⟩ (e0 3) (fun k => eo 4 k (by omega)) (fun k => eo 5 k (by omega))⟩, ⟨⟨?_, ?_, ?_, fun k hk => ?_, fun v f hv hf => ?_⟩, (r2.fp i1 (fun k h1 h2 => (F 607 k (by omega)).1)).eq0 e0, ⟨by rw [(F _ _ (by omega)).1]; exact r3.1, r3.2⟩, by rw [(F _ _ (by omega)).1]; exact r4, (r5.fp (fun a k h1 => (F a k (by omega)).1)).eq (e0 3) (fun k => eo 4 k (by omega)) (fun k => eo 5 k (by omega))⟩, j1, i2.eq (e0 3) (fun k => eo 4 k (by omega)) (fun k => eo 5 k (by omega)), (i3.up (Nat.le_succ n) (by omega)).eq0 e0, i4, by omega⟩) (Or.inl fun a k h => by omega) (Or.inl fun a k h => by omega) (Or.inl fun a k h => by omega) (Or.inl fun a k h => by omega) (Or.inl fun a k h => by omega) (Or.inl fun a k h => by omega) (fun a k h => by omega)
  · exact ⟨by rw [(F _ _ (by omega)).1, e0]; exact c1.1.1, by rw [(F _ _ (by omega)).1, e0]; exact c1.1.2.1, by rw [(F _ _ (by omega)).1, e0]; exact c1.1.2.2⟩
  · intro u h0 h1
    rw [e0] at h1
    rw [eo _ _ (by omega), (F _ _ (by omega)).1]; exact c1.2.1 u h0 h1
  · intro u h0 h1
    rw [e0] at h1
    rw [eo _ _ (by omega), (F _ _ (by omega)).1]; exact c1.2.2.1 u h0 h1
  · rw [eo _ _ (by omega), (F _ _ (by omega)).1]; exact c1.2.2.2.1 k hk
  · rw [e0] at hv
    rw [rd, if_neg (by omega), ew]
    by_cases q : v < m ∧ f = 4
    · rw [if_pos (by omega), if_pos q, show 100 + 10 + v - 110 = v by omega]
    · rw [if_neg (by omega), if_neg q]; exact c1.2.2.2.2 v f hv hf
  · exact ⟨by rw [(F _ _ (by omega)).1, e0]; exact r1.1.1, by rw [(F _ _ (by omega)).1, e0]; exact r1.1.2.1, by rw [(F _ _ (by omega)).1, e0]; exact r1.1.2.2⟩
  · intro u h0 h1
    rw [e0] at h1
    rw [eo _ _ (by omega), (F _ _ (by omega)).1]; exact r1.2.1 u h0 h1
  · intro u h0 h1
    rw [e0] at h1
    rw [eo _ _ (by omega), (F _ _ (by omega)).1]; exact r1.2.2.1 u h0 h1
  · rw [eo _ _ (by omega), (F _ _ (by omega)).1]; exact r1.2.2.2.1 k hk
  · rw [e0] at hv
    rw [rd, ew]
    by_cases q : v < m ∧ f = 4
    · rw [if_pos (by omega), if_pos q, show (8 * v + f) / 8 = v by omega]
    · rw [if_neg (by omega), if_neg q, if_neg (by omega)]; exact r1.2.2.2.2 v f hv hf
theorem pair_dues (h : Rel M n) (hn : n < 64) (a1 : Int32) : PairI (p_X7_dues M a1) (p_X8_dues (w_X7_dues M a1) a1) (r_X7_dues M a1) (r_X8_dues (w_X7_dues M a1) a1) (w_X8_dues (w_X7_dues M a1) a1) n := by
  obtain ⟨x, rfl, x1, x2⟩ := ex_iI a1
  have c8 : (0 ≤ iI x ∧ iI x ≤ 3) ↔ (0 ≤ x ∧ x ≤ 3) := by rw [cl0, cl3]; exact wb x1 x2 (by omega) (by omega) (by omega) (by omega)
  have f1 : ¬ (0 : Int32) ≤ -11 := by decide
  have f2 : ¬ (-11 : Int32) = 0 := by decide
  have f3 : ¬ (0 : Int32) ≤ -13 := by decide
  have f4 : ¬ (-13 : Int32) = 0 := by decide
  have f5 : (0 : Int32) ≤ 0 := by decide
  have f6 : ¬ (0 : Int32) ≤ -1 := by decide
  unfold p_X7_dues p_X8_dues r_X7_dues r_X8_dues w_X8_dues w_X7_dues
  by_cases c : 0 ≤ x ∧ x ≤ 3
  · obtain ⟨k, rfl⟩ : ∃ k : Nat, x = (k : Int) := ⟨x.toNat, by omega⟩
    have q8 := b2i_1.mpr (c8.mpr c)
    have nk : Int32.toNatClampNeg (iI (k : Int)) = k := natk rfl (by omega)
    have vk : vp_in (iI (k : Int)) 4 := vin_iI (by omega) (by omega) (by omega)
    obtain ⟨⟨so, sz, h1, h2, h3, h4, h5, h6⟩, h7, -⟩ := h.2.2.2.2.1 k (by omega)
    obtain ⟨p7, r7⟩ := c_refusal (M := M) (k := k) (y := 2) (by omega) h3 h1 (by omega) (by omega)
    rw [← cl2] at p7 r7
    simp only [if_pos q8, r7, nk]
    by_cases d1 : so = -1
    · obtain ⟨p8, r8⟩ := r_lacks (M := M) (k := k) (y := 2) (by omega) h4 h1 (by omega) (by omega)
      rw [← cl2] at p8 r8
      simp only [if_pos d1, if_neg f1, r8, if_neg f2]
      exact ⟨⟨p7, trivial⟩, ⟨p8, trivial⟩, rfl, h.up (by omega)⟩
    · by_cases d2 : so = 2
      · obtain ⟨T, S, g, hR⟩ := h.1
        have hc := hR.2.2.1.1
        have t7 := hR.1.1.1.2.2
        have t8 := hR.2.1.1.1.2.2
        obtain ⟨m, hm⟩ : ∃ m : Nat, (m : Int) = if T 0 2 < sz then T 0 2 else sz := ⟨(if T 0 2 < sz then T 0 2 else sz).toNat, by split <;> omega⟩
        have hm1 : (m : Int) ≤ T 0 2 ∧ (m : Int) ≤ sz := by rw [hm]; split <;> omega
        have em : (if M.1 100 2 < M.1 532 k then M.1 100 2 else M.1 532 k) = iI (m : Int) := by
          rw [t7, h5, hm]
          rw [iteLT (by omega) (by omega) (by omega) (by omega), iI_ite]
        obtain ⟨xs, hxs⟩ : ∃ xs : Nat → Int32, xs = fun i => Int64.toInt32 (M.2 (534 + k) i) := ⟨_, rfl⟩
        have hx : ∀ i, i < 40 → M.2 (534 + k) i = (xs i).toInt64 := fun i hi => by
          obtain ⟨z, hz⟩ := (h7 i hi).2
          rw [hxs]
          show _ = (Int64.toInt32 (M.2 (534 + k) i)).toInt64
          rw [hz, Int32.toInt32_toInt64]
        obtain ⟨s1, s2, s3, s4, s5⟩ := c_dueL (M := M) (k := k) (m := m) (by omega) (by omega) 0 hx
        have nm : Int32.toNatClampNeg (iI (m : Int)) = m := natk rfl (by omega)
        simp only [if_neg d1, if_pos d2, if_pos f5, em, nm, if_pos s4, s5]
        have w7 : ∀ a k, a ≠ 110 → (a < 110 ∨ 116 ≤ a) → (dC M xs m).1 a k = M.1 a k := fun a k h1 h2 => by
          show (if _ then _ else _) = _
          rw [if_neg (by omega)]
        obtain ⟨p8, r8⟩ := r_lacks (M := dC M xs m) (k := k) (y := 2) (by omega) (by rw [w7 _ _ (by omega) (by omega)]; exact h4) h1 (by omega) (by omega)
        rw [← cl2] at p8 r8
        have g2 : (dC M xs m).1 600 2 = iI (T 0 2) := by rw [w7 _ _ (by omega) (by omega)]; exact t8
        have g6 : (dC M xs m).1 621 k = iI sz := by rw [w7 _ _ (by omega) (by omega)]; exact h6
        obtain ⟨v1, v2, v3, v4, v5⟩ := r_dueL (M := dC M xs m) (k := k) (m := m) (by omega) (by omega) 0 (xs := xs) (fun i hi => by show M.2 622 (40 * k + i) = _; rw [← (h7 i hi).1]; exact hx i hi)
        have fin := dues_fin (xs := xs) h hn hR hm1.1
        simp only [r8, if_neg d1, if_pos d2, if_true, g2, g6]
        have o : (iI (T 0 2) ≤ iI sz) ↔ T 0 2 ≤ sz := by rw [iI_le (by omega) (by omega) (by omega) (by omega)]
        by_cases d3 : T 0 2 ≤ sz
        · have mm : T 0 2 = (m : Int) := by rw [hm]; split <;> omega
          rw [mm] at o ⊢
          have o2 := o.mpr (by omega)
          simp only [if_pos o2, nm, if_pos v4, v5]
          exact ⟨⟨p7, vk, s1, s2, s3, trivial⟩, ⟨p8, vk, v1, v2, v3, trivial⟩, rfl, fin⟩
        · have mm : sz = (m : Int) := by rw [hm]; split <;> omega
          have o2 : ¬ iI (T 0 2) ≤ iI sz := fun u => d3 (o.mp u)
          rw [mm] at o2 ⊢
          simp only [if_neg o2, nm, if_pos v4, v5]
          exact ⟨⟨p7, vk, s1, s2, s3, trivial⟩, ⟨p8, vk, vk, v1, v2, v3, trivial⟩, rfl, fin⟩
      · obtain ⟨p8, r8⟩ := r_lacks (M := M) (k := k) (y := 2) (by omega) h4 h1 (by omega) (by omega)
        rw [← cl2] at p8 r8
        simp only [if_neg d1, if_neg d2, if_neg f3, r8, if_neg f4]
        exact ⟨⟨p7, trivial⟩, ⟨p8, trivial⟩, rfl, h.up (by omega)⟩
  · have q8 : ¬ ¬ b2i (0 ≤ iI x ∧ iI x ≤ 3) = 0 := not_not_intro (b2i_0.mpr (fun u => c (c8.mp u)))
    obtain ⟨p7, r7⟩ := c_refusal_no (M := M) x1 x2 c 2
    simp only [r7, if_neg f6, if_neg q8]
    exact ⟨⟨p7, trivial⟩, trivial, rfl, h.up (by omega)⟩
end P47

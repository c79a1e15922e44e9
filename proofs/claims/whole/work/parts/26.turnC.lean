/-! open, free, spoilt, moved, done: the class -/
abbrev aFree (T S : Tw) (w : Nat) : Prop := S 2 w = 0 ∧ ¬ (0 ≤ T (10 + w) 6 ∧ S 2 (T (10 + w) 6).toNat = 0)
abbrev aSpoil (T S : Tw) (w : Nat) : Prop := 0 ≤ T (10 + w) 6 ∧ (S 2 (T (10 + w) 6).toNat = 2 ∨ (S 2 (T (10 + w) 6).toNat = 1 ∧ 0 < T (10 + w) 7 ∧ T (10 + w) 7 < S 4 0 - S 3 (T (10 + w) 6).toNat))
abbrev aNoB (T S : Tw) (w : Nat) : Prop := ¬ (0 ≤ T (10 + w) 6 ∧ S 2 (T (10 + w) 6).toNat = 0)
def aMove (T S : Tw) (w : Nat) : Tw := fun i k =>
  if i = 0 then (if (T (10 + w) 0 ≠ 5 ∧ k = (T (10 + w) 1).toNat) ∨ ((T (10 + w) 0 = 1 ∨ T (10 + w) 0 = 3) ∧ k = (aNext T w).toNat) then T (10 + w) 3 else S 0 k)
  else if i = 1 then (if k = (T (10 + w) 2).toNat ∨ ((T (10 + w) 0 = 2 ∨ T (10 + w) 0 = 4) ∧ S 1 k = S 1 (T (10 + w) 2).toNat) then T (10 + w) 3 else S 1 k) else S i k
def aMin2 (T S : Tw) (w : Nat) : Int := aAfter (T 3 0) (S 4 0) (aMin T S w)
def aTurn (T S : Tw) (w : Nat) : Tw := if aSpoil T S w then (fun i k => if i = 2 ∧ k = w then 2 else S i k) else
  (fun i k => if i = 2 ∧ k = w then 1 else if i = 3 ∧ k = w then aMin2 T S w else if i = 4 ∧ k = 0 then aMin2 T S w else aMove T S w i k)
def aWorth (T S : Tw) (w : Nat) : Int := if aSpoil T S w then 0 else max 0 (T (10 + w) 5 - max 0 (aMin2 T S w - T (10 + w) 4))
def aLate (T S : Tw) (w : Nat) : Int := if aSpoil T S w then 1 else if aMin2 T S w ≤ T (10 + w) 4 then 0 else 1
section CF
variable {A B M : Mm} {T S : Tw} {s o : Nat} {mb : Int}
theorem c_has (hT : CT A 100 T) (hI : InvT T) {x : Int} (h1 : -2147483648 ≤ x) (h2 : x < 2147483648) : cHas A (iI x) ↔ 0 ≤ x ∧ x < T 0 2 := by
  have hc := hI.1
  unfold cHas
  rw [hT.1.2.2, cl0, iI_le (by omega) (by omega) (by omega) (by omega), iI_lt (by omega) (by omega) (by omega) (by omega)]
theorem c_open (hT : CT A 100 T) (hS : CSt A s T S) (hI : InvT T) (hJ : InvS T S mb) {x : Int} (h1 : -2147483648 ≤ x) (h2 : x < 2147483648) : cOpen A s (iI x) ↔ (0 ≤ x ∧ x < T 0 2) ∧ S 2 x.toNat = 0 := by
  unfold cOpen
  rw [c_has hT hI h1 h2]
  constructor
  · rintro ⟨q1, q2⟩
    have b := hJ.2.2.1 x q1.1 q1.2
    refine ⟨q1, ?_⟩
    rw [hS.state q1.1 q1.2 hI, cl0, iI_eq (by omega) (by omega) (by omega) (by omega)] at q2
    exact q2
  · rintro ⟨q1, q2⟩
    refine ⟨q1, ?_⟩
    rw [hS.state q1.1 q1.2 hI, q2]
    exact cl0.symm
theorem c_free (hT : CT A 100 T) (hS : CSt A s T S) (hI : InvT T) (hJ : InvS T S mb) {w : Nat} (hw : (w : Int) < T 0 2) : cFree A s (iI (w : Int)) ↔ aFree T S w := by
  have hc := hI.1
  have k6 := (hI.2.2.2.2 w hw).2.2.2.2.2.2.1
  unfold cFree
  rw [hT.wk hw hI (by omega), c_open hT hS hI hJ (by omega) (by omega), c_open hT hS hI hJ (by omega) (by omega), Int.toNat_natCast]
  constructor
  · rintro ⟨q1, q2⟩
    exact ⟨q1.2, fun h => q2 ⟨⟨h.1, by omega⟩, h.2⟩⟩
  · rintro ⟨q1, q2⟩
    exact ⟨⟨⟨by omega, hw⟩, q1⟩, fun h => q2 ⟨h.1.1, h.2⟩⟩
theorem c_spoils (hT : CT A 100 T) (hS : CSt A s T S) (hI : InvT T) (hJ : InvS T S mb) {w : Nat} (hw : (w : Int) < T 0 2) (hb : aNoB T S w) : p_X5_spoils A s (110 + Int32.toNatClampNeg (iI (w : Int))) ∧ r_X5_spoils A s (110 + Int32.toNatClampNeg (iI (w : Int))) = (if aSpoil T S w then 1 else 0) := by
  have hc := hI.1
  obtain ⟨k0, k1, k2, k3, k4, k5, k6, k7⟩ := hI.2.2.2.2 w hw
  have e6 := hT.wk hw hI (f := 6) (by omega)
  have e7 := hT.wk hw hI (f := 7) (by omega)
  have hh : cHas A (iI (T (10 + w) 6)) ↔ 0 ≤ T (10 + w) 6 := by
    rw [c_has hT hI (by omega) (by omega)]
    constructor
    · exact fun h => h.1
    · exact fun h => ⟨h, by omega⟩
  by_cases c : 0 ≤ T (10 + w) 6
  · have es := hS.state c (by omega) hI
    have ee := hS.fin c (by omega) hI
    have bs := hJ.2.2.1 _ c (by omega)
    have be := hJ.2.2.2.1 _ c (by omega)
    have bm := hJ.2.2.2.2
    have hv : vp_in (iI (T (10 + w) 6)) 6 := vin_iI c (by omega) (by omega)
    have hnb : S 2 (T (10 + w) 6).toNat ≠ 0 := fun h => hb ⟨c, h⟩
    constructor
    · unfold p_X5_spoils
      rw [e6, if_pos (b2i_1.mpr (hh.mpr c))]
      split
      · exact ⟨hv, by split <;> trivial⟩
      · refine ⟨hv, ?_⟩
        split
        · exact ⟨hv, by split <;> trivial⟩
        · exact ⟨hv, by split <;> trivial⟩
    · unfold r_X5_spoils
      rw [e6, if_pos (b2i_1.mpr (hh.mpr c)), e7, es, ee, hS.2.2.2.2]
      simp (disch := omega) only [iI_sub, cl0, cl2, iI_le, iI_eq]
      by_cases c2 : S 2 (T (10 + w) 6).toNat = 2
      · rw [if_pos (show aSpoil T S w from ⟨c, Or.inl c2⟩), if_pos c2]
        split
        · rfl
        · split <;> rfl
      · rw [if_neg c2]
        split
        next h => rw [if_neg (show ¬ aSpoil T S w from fun q => by rcases q.2 with q | q <;> omega)]
        next h =>
          split
          next h' => rw [if_neg (show ¬ aSpoil T S w from fun q => by rcases q.2 with q | q <;> omega)]
          next h' => rw [if_pos (show aSpoil T S w from ⟨c, Or.inr ⟨by omega, by omega, by omega⟩⟩)]
  · constructor
    · unfold p_X5_spoils
      rw [e6, if_neg (fun q => c (hh.mp (b2i_1.mp q)))]
      trivial
    · unfold r_X5_spoils
      rw [e6, if_neg (fun q => c (hh.mp (b2i_1.mp q))), if_neg (fun q => c q.1)]
theorem nm_wi {a k : Nat} {v x : Int32} (h : a ≠ 100) : r_X5_nextMover (wi M a k v) x = r_X5_nextMover M x := by
  unfold r_X5_nextMover
  rw [rd_ne (Or.inl (Ne.symm h))]
theorem c_mv66 (hs : 1000 ≤ s) {wk : Nat} {x3 : Int32} {kd mv th to nx : Int} (hwk : wk < 1000) (hk : M.1 wk 0 = iI kd) (hm : M.1 wk 1 = iI mv) (ht : M.1 wk 2 = iI th) (hto : M.1 wk 3 = iI to) (hn : r_X5_nextMover M (iI mv) = iI nx) (bk : 0 ≤ kd ∧ kd ≤ 5) (bm : 0 ≤ mv ∧ mv < 3) (bt : 0 ≤ th ∧ th < 6) (bn : 0 ≤ nx ∧ nx < 3) :
    p_X5_moveAll_66 M s wk x3 ∧ (∀ j, (w_X5_moveAll_66 M s wk x3).1 (s + 2) j = if j = th.toNat then iI to else M.1 (s + 2) j) ∧ (∀ j, (w_X5_moveAll_66 M s wk x3).1 (s + 1) j = if (kd ≠ 5 ∧ j = mv.toNat) ∨ ((kd = 1 ∨ kd = 3) ∧ j = nx.toNat) then iI to else M.1 (s + 1) j) ∧ Fr (fun a => a = s + 1 ∨ a = s + 2) M (w_X5_moveAll_66 M s wk x3) := by
  have g0 : ∀ (N : Mm) (a k f : Nat) (v : Int32), wk ≠ a → (wi N a k v).1 wk f = N.1 wk f := fun N a k f v h => rd_ne (Or.inl h)
  have vk : ∀ n : Int, 0 ≤ n → n ≤ 5 → ((iI kd = iI n) = (kd = n)) := fun n h1 h2 => iI_eq (by omega) (by omega) (by omega) (by omega)
  have v1 : vp_in (iI mv) 3 := vin_iI (by omega) (by omega) (by omega)
  have v2 : vp_in (iI nx) 3 := vin_iI (by omega) (by omega) (by omega)
  have v3 : vp_in (iI th) 6 := vin_iI (by omega) (by omega) (by omega)
  have n1 : Int32.toNatClampNeg (iI mv) = mv.toNat := iI_nat (by omega) (by omega)
  have n2 : Int32.toNatClampNeg (iI nx) = nx.toNat := iI_nat (by omega) (by omega)
  have n3 : Int32.toNatClampNeg (iI th) = th.toNat := iI_nat (by omega) (by omega)
  have w1 : wk ≠ s + 1 := by omega
  have w2 : wk ≠ s + 2 := by omega
  have m1 : s + 1 ≠ 100 := by omega
  have m2 : s + 2 ≠ 100 := by omega
  have f1 : ∀ (N : Mm) (k j : Nat) (v : Int32), (wi N (s + 1) k v).1 (s + 2) j = N.1 (s + 2) j := fun N k j v => rd_ne (Or.inl (by omega))
  have f2 : ∀ (N : Mm) (k j : Nat) (v : Int32), (wi N (s + 2) k v).1 (s + 1) j = N.1 (s + 1) j := fun N k j v => rd_ne (Or.inl (by omega))
  have f3 : ∀ (N : Mm) (a k j : Nat) (v : Int32), (wi N a k v).1 a j = if j = k then v else N.1 a j := fun N a k j v => by simp [wi]
  have q1 : s + 1 = s + 1 ∨ s + 1 = s + 2 := Or.inl rfl
  have q2 : s + 2 = s + 1 ∨ s + 2 = s + 2 := Or.inr rfl
  unfold p_X5_moveAll_66 w_X5_moveAll_66 p_X5_moveAll_79 w_X5_moveAll_79 p_X5_moveAll_100 w_X5_moveAll_100
  simp only [ht, hto, n3, g0 _ _ _ _ _ w1, g0 _ _ _ _ _ w2, hk, hm, n1, nm_wi m1, nm_wi m2, hn, n2, cl1, cl3, cl5, vk 1 (by omega) (by omega), vk 3 (by omega) (by omega), vk 5 (by omega) (by omega)]
  by_cases c5 : kd = 5
  · have h1 : ¬ kd = 1 := by omega
    have h3 : ¬ kd = 3 := by omega
    simp only [if_pos c5, if_neg h1, if_pos h3]
    refine ⟨⟨v3, trivial⟩, fun j => ?_, fun j => ?_, ?_⟩
    · rw [f3]
    · rw [f2, if_neg (by omega)]
    · exact Fr.rf.wi q2
  · simp only [if_neg c5]
    by_cases c1 : kd = 1
    · simp only [if_pos c1]
      refine ⟨⟨v3, v1, v2, trivial⟩, fun j => ?_, fun j => ?_, ?_⟩
      · rw [f1, f1, f3]
      · rw [f3, f3, f2]
        by_cases j1 : j = nx.toNat
        · rw [if_pos j1, if_pos (Or.inr ⟨Or.inl c1, j1⟩)]
        · rw [if_neg j1]
          by_cases j2 : j = mv.toNat
          · rw [if_pos j2, if_pos (Or.inl ⟨c5, j2⟩)]
          · rw [if_neg j2, if_neg (by omega)]
      · exact ((Fr.rf.wi q2).wi q1).wi q1
    · simp only [if_neg c1]
      by_cases c3 : kd = 3
      · simp only [if_neg (not_not_intro c3)]
        refine ⟨⟨v3, v1, v2, trivial⟩, fun j => ?_, fun j => ?_, ?_⟩
        · rw [f1, f1, f3]
        · rw [f3, f3, f2]
          by_cases j1 : j = nx.toNat
          · rw [if_pos j1, if_pos (Or.inr ⟨Or.inr c3, j1⟩)]
          · rw [if_neg j1]
            by_cases j2 : j = mv.toNat
            · rw [if_pos j2, if_pos (Or.inl ⟨c5, j2⟩)]
            · rw [if_neg j2, if_neg (by omega)]
        · exact ((Fr.rf.wi q2).wi q1).wi q1
      · simp only [if_pos c3]
        refine ⟨⟨v3, v1, trivial⟩, fun j => ?_, fun j => ?_, ?_⟩
        · rw [f1, f3]
        · rw [f3, f2]
          by_cases j2 : j = mv.toNat
          · rw [if_pos j2, if_pos (Or.inl ⟨c5, j2⟩)]
          · rw [if_neg j2, if_neg (by omega)]
        · exact (Fr.rf.wi q2).wi q1
/-- the things of a place are moved, the first k of them -/
def bmv (M : Mm) (s : Nat) (fr to : Int32) (k : Nat) : Mm := (fun a j => if a = s + 2 ∧ j < k ∧ M.1 (s + 2) j = fr then to else M.1 a j, M.2)
theorem bmv_0 (M : Mm) (s : Nat) (fr to : Int32) : bmv M s fr to 0 = M := by
  unfold bmv
  refine Prod.ext ?_ rfl
  funext a j
  show (if a = s + 2 ∧ j < 0 ∧ M.1 (s + 2) j = fr then to else M.1 a j) = M.1 a j
  rw [if_neg (by omega)]
theorem bmv_k (M : Mm) (s : Nat) (fr to : Int32) (k : Nat) : (bmv M s fr to k).1 (s + 2) k = M.1 (s + 2) k := by
  show (if s + 2 = s + 2 ∧ k < k ∧ M.1 (s + 2) k = fr then to else M.1 (s + 2) k) = _
  rw [if_neg (by omega)]
theorem bmv_o (M : Mm) (s : Nat) (fr to : Int32) (k a j : Nat) (h : a ≠ s + 2) : (bmv M s fr to k).1 a j = M.1 a j := by
  show (if a = s + 2 ∧ j < k ∧ M.1 (s + 2) j = fr then to else M.1 a j) = _
  rw [if_neg (fun q => h q.1)]
theorem bmv_y {M : Mm} {s : Nat} {fr to : Int32} {k : Nat} (h : M.1 (s + 2) k = fr) : wi (bmv M s fr to k) (s + 2) k to = bmv M s fr to (k + 1) := by
  unfold bmv wi
  refine Prod.ext ?_ rfl
  funext a j
  show (if a = s + 2 ∧ j = k then to else if a = s + 2 ∧ j < k ∧ M.1 (s + 2) j = fr then to else M.1 a j) = (if a = s + 2 ∧ j < k + 1 ∧ M.1 (s + 2) j = fr then to else M.1 a j)
  by_cases h1 : a = s + 2 ∧ j = k
  · rw [if_pos h1, if_pos ⟨h1.1, by omega, by rw [h1.2]; exact h⟩]
  · rw [if_neg h1]
    by_cases h2 : a = s + 2 ∧ j < k ∧ M.1 (s + 2) j = fr
    · rw [if_pos h2, if_pos ⟨h2.1, by omega, h2.2.2⟩]
    · rw [if_neg h2, if_neg]
      rintro ⟨q1, q2, q3⟩
      by_cases q4 : j = k
      · exact h1 ⟨q1, q4⟩
      · exact h2 ⟨q1, by omega, q3⟩
theorem bmv_n {M : Mm} {s : Nat} {fr to : Int32} {k : Nat} (h : ¬ M.1 (s + 2) k = fr) : bmv M s fr to k = bmv M s fr to (k + 1) := by
  unfold bmv
  refine Prod.ext ?_ rfl
  funext a j
  show (if a = s + 2 ∧ j < k ∧ M.1 (s + 2) j = fr then to else M.1 a j) = (if a = s + 2 ∧ j < k + 1 ∧ M.1 (s + 2) j = fr then to else M.1 a j)
  by_cases h2 : a = s + 2 ∧ j < k ∧ M.1 (s + 2) j = fr
  · rw [if_pos h2, if_pos ⟨h2.1, by omega, h2.2.2⟩]
  · rw [if_neg h2, if_neg]
    rintro ⟨q1, q2, q3⟩
    by_cases q4 : j = k
    · exact h (q4 ▸ q3)
    · exact h2 ⟨q1, by omega, q3⟩
theorem c_moveAll (hs : 1000 ≤ s) (hT : CT A 100 T) (hS : CSt A s T S) (hI : InvT T) (hJ : InvS T S mb) {w : Nat} (hw : (w : Int) < T 0 2) :
    p_X5_moveAll A s (110 + Int32.toNatClampNeg (iI (w : Int))) ∧ CSt (w_X5_moveAll A s (110 + Int32.toNatClampNeg (iI (w : Int)))) s T (aMove T S w) ∧ Fr (fun a => a = s + 1 ∨ a = s + 2) A (w_X5_moveAll A s (110 + Int32.toNatClampNeg (iI (w : Int)))) := by
  have hc := hI.1
  obtain ⟨k0, k1, k2, k3, k4, k5, k6, k7⟩ := hI.2.2.2.2 w hw
  have hn := aNext_in hI hw
  have e0 := hT.wk hw hI (f := 0) (by omega)
  have e1 := hT.wk hw hI (f := 1) (by omega)
  have e2 := hT.wk hw hI (f := 2) (by omega)
  have e3 := hT.wk hw hI (f := 3) (by omega)
  have hwk : 110 + Int32.toNatClampNeg (iI (w : Int)) < 1000 := by rw [natk rfl (by omega)]; omega
  generalize hW : 110 + Int32.toNatClampNeg (iI (w : Int)) = wk at *
  have nx := c_next hT hI hw
  have t0 := hS.thing k2.1 k2.2 hI
  have bx := hJ.2.1 _ k2.1 k2.2
  have hN : Int32.toNatClampNeg (A.1 100 1) = (T 0 1).toNat := by rw [hT.1.2.1, iI_nat (by omega) (by omega)]
  -- the loop
  have key : ∀ k, k ≤ (T 0 1).toNat → l_X5_moveAll_29 s wk (iI (S 1 (T (10 + w) 2).toNat)) (A, 0) k = (bmv A s (iI (S 1 (T (10 + w) 2).toNat)) (iI (T (10 + w) 3)) k, iI (k : Int)) := by
    refine it_for _ ?_ (fun k hk => ?_)
    · rw [bmv_0]
      rfl
    · show s_X5_moveAll_29 s wk (iI (S 1 (T (10 + w) 2).toNat)) (bmv A s (iI (S 1 (T (10 + w) 2).toNat)) (iI (T (10 + w) 3)) k, iI (k : Int)) = _
      unfold s_X5_moveAll_29
      dsimp only
      rw [bmv_o _ _ _ _ _ 100 1 (by omega), hT.1.2.1, iteLE (by omega) (by omega) (by omega) (by omega), if_neg (show ¬ T 0 1 ≤ (k : Int) by omega), natk (x := (k : Int)) rfl (by omega), bmv_k, bmv_o _ _ _ _ _ wk 3 (by omega), e3, cl1, iI_add]
      by_cases c : A.1 (s + 2) k = iI (S 1 (T (10 + w) 2).toNat)
      · rw [if_neg (not_not_intro c), bmv_y c]
        rfl
      · rw [if_pos c, bmv_n c]
        rfl
  have kN := key _ (Nat.le_refl _)
  have bN : ∀ M', M' = bmv A s (iI (S 1 (T (10 + w) 2).toNat)) (iI (T (10 + w) 3)) (T 0 1).toNat → p_X5_moveAll_66 M' s wk (iI (S 1 (T (10 + w) 2).toNat)) ∧ (T (10 + w) 0 = 2 ∨ T (10 + w) 0 = 4 → CSt (w_X5_moveAll_66 M' s wk (iI (S 1 (T (10 + w) 2).toNat))) s T (aMove T S w)) ∧ Fr (fun a => a = s + 1 ∨ a = s + 2) A (w_X5_moveAll_66 M' s wk (iI (S 1 (T (10 + w) 2).toNat))) := by
    intro M' hM'
    have ro : ∀ a j, a ≠ s + 2 → M'.1 a j = A.1 a j := fun a j h => by rw [hM']; exact bmv_o _ _ _ _ _ a j h
    have rn : r_X5_nextMover M' (iI (T (10 + w) 1)) = iI (aNext T w) := by
      rw [← nx]
      unfold r_X5_nextMover
      rw [ro 100 0 (by omega)]
    obtain ⟨p1, p2, p3, p4⟩ := c_mv66 (M := M') (x3 := iI (S 1 (T (10 + w) 2).toNat)) hs hwk ((ro wk 0 (by omega)).trans e0) ((ro wk 1 (by omega)).trans e1) ((ro wk 2 (by omega)).trans e2) ((ro wk 3 (by omega)).trans e3) rn k0 ⟨k1.1, by omega⟩ ⟨k2.1, by omega⟩ ⟨hn.1, by omega⟩
    have fA : Fr (fun a => a = s + 1 ∨ a = s + 2) A M' := fun a ha => ⟨by funext j; exact ro a j (fun h => ha (Or.inr h)), by rw [hM']; rfl⟩
    refine ⟨p1, fun hk => ⟨fun x h0 h1 => ?_, fun x h0 h1 => ?_, fun x h0 h1 => ?_, fun x h0 h1 => ?_, ?_⟩, fA.tr p4⟩
    · rw [p3, ro _ _ (by omega), hS.1 x h0 h1]
      show _ = iI (if (T (10 + w) 0 ≠ 5 ∧ x.toNat = (T (10 + w) 1).toNat) ∨ ((T (10 + w) 0 = 1 ∨ T (10 + w) 0 = 3) ∧ x.toNat = (aNext T w).toNat) then T (10 + w) 3 else S 0 x.toNat)
      rw [iI_ite]
    · rw [p2]
      show _ = iI (if x.toNat = (T (10 + w) 2).toNat ∨ ((T (10 + w) 0 = 2 ∨ T (10 + w) 0 = 4) ∧ S 1 x.toNat = S 1 (T (10 + w) 2).toNat) then T (10 + w) 3 else S 1 x.toNat)
      by_cases j1 : x.toNat = (T (10 + w) 2).toNat
      · rw [if_pos j1, if_pos (Or.inl j1)]
      · rw [if_neg j1, hM']
        show (if s + 2 = s + 2 ∧ x.toNat < (T 0 1).toNat ∧ A.1 (s + 2) x.toNat = iI (S 1 (T (10 + w) 2).toNat) then iI (T (10 + w) 3) else A.1 (s + 2) x.toNat) = _
        have b2 := hJ.2.1 x h0 h1
        rw [hS.2.1 x h0 h1]
        have e := iI_eq (a := S 1 x.toNat) (b := S 1 (T (10 + w) 2).toNat) (by omega) (by omega) (by omega) (by omega)
        by_cases j2 : S 1 x.toNat = S 1 (T (10 + w) 2).toNat
        · rw [if_pos ⟨rfl, by omega, by rw [j2]⟩, if_pos (Or.inr ⟨hk, j2⟩)]
        · rw [if_neg (fun q => j2 (e.mp q.2.2)), if_neg (fun q => by rcases q with q | q; exact j1 q; exact j2 q.2)]
    · rw [(p4.at (show ¬ (s + 3 = s + 1 ∨ s + 3 = s + 2) by omega) _), ro _ _ (by omega)]
      exact hS.2.2.1 x h0 h1
    · rw [(p4.at (show ¬ (s + 4 = s + 1 ∨ s + 4 = s + 2) by omega) _), ro _ _ (by omega)]
      exact hS.2.2.2.1 x h0 h1
    · rw [(p4.at (show ¬ (s = s + 1 ∨ s = s + 2) by omega) _), ro _ _ (by omega)]
      exact hS.2.2.2.2
  -- without the loop
  have bP := c_mv66 (M := A) (x3 := iI (S 1 (T (10 + w) 2).toNat)) hs hwk e0 e1 e2 e3 nx k0 ⟨k1.1, by omega⟩ ⟨k2.1, by omega⟩ ⟨hn.1, by omega⟩
  have bA : ¬ (T (10 + w) 0 = 2 ∨ T (10 + w) 0 = 4) → CSt (w_X5_moveAll_66 A s wk (iI (S 1 (T (10 + w) 2).toNat))) s T (aMove T S w) := by
    obtain ⟨p1, p2, p3, p4⟩ := bP
    refine fun hk => ⟨fun x h0 h1 => ?_, fun x h0 h1 => ?_, fun x h0 h1 => ?_, fun x h0 h1 => ?_, ?_⟩
    · rw [p3, hS.1 x h0 h1]
      show _ = iI (if (T (10 + w) 0 ≠ 5 ∧ x.toNat = (T (10 + w) 1).toNat) ∨ ((T (10 + w) 0 = 1 ∨ T (10 + w) 0 = 3) ∧ x.toNat = (aNext T w).toNat) then T (10 + w) 3 else S 0 x.toNat)
      rw [iI_ite]
    · rw [p2, hS.2.1 x h0 h1]
      show _ = iI (if x.toNat = (T (10 + w) 2).toNat ∨ ((T (10 + w) 0 = 2 ∨ T (10 + w) 0 = 4) ∧ S 1 x.toNat = S 1 (T (10 + w) 2).toNat) then T (10 + w) 3 else S 1 x.toNat)
      by_cases j1 : x.toNat = (T (10 + w) 2).toNat
      · rw [if_pos j1, if_pos (Or.inl j1)]
      · rw [if_neg j1, if_neg (fun q => by rcases q with q | q; exact j1 q; exact hk q.1)]
    · rw [(p4.at (show ¬ (s + 3 = s + 1 ∨ s + 3 = s + 2) by omega) _)]
      exact hS.2.2.1 x h0 h1
    · rw [(p4.at (show ¬ (s + 4 = s + 1 ∨ s + 4 = s + 2) by omega) _)]
      exact hS.2.2.2.1 x h0 h1
    · rw [(p4.at (show ¬ (s = s + 1 ∨ s = s + 2) by omega) _)]
      exact hS.2.2.2.2
  have vk : ∀ n : Int, 0 ≤ n → n ≤ 5 → ((iI (T (10 + w) 0) = iI n) = (T (10 + w) 0 = n)) := fun n h1 h2 => iI_eq (by omega) (by omega) (by omega) (by omega)
  have fin : ((bmv A s (iI (S 1 (T (10 + w) 2).toNat)) (iI (T (10 + w) 3)) (T 0 1).toNat).1 100 1 ≤ iI ((T 0 1).toNat : Int)) := by
    rw [bmv_o _ _ _ _ _ 100 1 (by omega), hT.1.2.1, iI_le (by omega) (by omega) (by omega) (by omega)]
    omega
  have hloop : (∀ k, k < (T 0 1).toNat → c_X5_moveAll_29 s wk (iI (S 1 (T (10 + w) 2).toNat)) (l_X5_moveAll_29 s wk (iI (S 1 (T (10 + w) 2).toNat)) (A, 0) k)) ∧ (∀ k, k < (T 0 1).toNat → q_X5_moveAll_29 s wk (iI (S 1 (T (10 + w) 2).toNat)) (l_X5_moveAll_29 s wk (iI (S 1 (T (10 + w) 2).toNat)) (A, 0) k)) ∧ ¬ c_X5_moveAll_29 s wk (iI (S 1 (T (10 + w) 2).toNat)) (bmv A s (iI (S 1 (T (10 + w) 2).toNat)) (iI (T (10 + w) 3)) (T 0 1).toNat, iI ((T 0 1).toNat : Int)) := by
    refine ⟨fun k hk => ?_, fun k hk => ?_, ?_⟩
    · rw [key k (by omega)]
      unfold c_X5_moveAll_29
      dsimp only
      rw [bmv_o _ _ _ _ _ 100 1 (by omega), hT.1.2.1, iteLE (by omega) (by omega) (by omega) (by omega), if_neg (by omega)]
      trivial
    · rw [key k (by omega)]
      unfold q_X5_moveAll_29
      dsimp only
      have hv : vp_in (iI (k : Int)) 6 := vin_iI (by omega) (by omega) (by omega)
      split
      · trivial
      · refine ⟨hv, ?_⟩
        split
        · trivial
        · exact ⟨hv, trivial⟩
    · unfold c_X5_moveAll_29
      dsimp only
      rw [if_pos fin]
      exact fun h => h
  obtain ⟨n1, n2, n3⟩ := bN _ rfl
  unfold p_X5_moveAll w_X5_moveAll
  simp only [e0, e2, t0, hN, kN, cl2, cl4, vk 2 (by omega) (by omega), vk 4 (by omega) (by omega), if_pos fin]
  have hv2 : vp_in (iI (T (10 + w) 2)) 6 := vin_iI (by omega) (by omega) (by omega)
  by_cases c2 : T (10 + w) 0 = 2
  · simp only [if_pos c2]
    exact ⟨⟨hv2, hloop.1, hloop.2.1, hloop.2.2, n1⟩, n2 (Or.inl c2), n3⟩
  · simp only [if_neg c2]
    by_cases c4 : T (10 + w) 0 = 4
    · simp only [if_neg (not_not_intro c4)]
      exact ⟨⟨hv2, hloop.1, hloop.2.1, hloop.2.2, n1⟩, n2 (Or.inr c4), n3⟩
    · simp only [if_pos c4]
      exact ⟨⟨hv2, bP.1⟩, bA (by omega), bP.2.2.2⟩
end CF

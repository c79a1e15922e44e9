/-! open, free, spoilt, moved, done: the reference -/
def FrR (o : Nat) (B B' : Mm) : Prop := Fr (fun a => a = 607) B B' ∧ ∀ j, j < o ∨ o + 22 ≤ j → B'.1 607 j = B.1 607 j
theorem FrR.rf {o : Nat} {B : Mm} : FrR o B B := ⟨Fr.rf, fun _ _ => rfl⟩
theorem FrR.tr {o : Nat} {B B' B'' : Mm} (h1 : FrR o B B') (h2 : FrR o B' B'') : FrR o B B'' := ⟨h1.1.tr h2.1, fun j hj => (h2.2 j hj).trans (h1.2 j hj)⟩
theorem FrR.wi {o : Nat} {B B' : Mm} {k : Nat} {v : Int32} (h : FrR o B B') (hk : o ≤ k ∧ k < o + 22) : FrR o B (wi B' 607 k v) := ⟨h.1.wi rfl, fun j hj => by rw [rd_ne (Or.inr (by omega))]; exact h.2 j hj⟩
theorem RT.fr {B B' : Mm} {T : Tw} {o : Nat} (h : RT B T) (hF : FrR o B B') : RT B' T := by
  have f := hF.1
  refine ⟨⟨?_, ?_, ?_⟩, fun x h0 h1 => ?_, fun x h0 h1 => ?_, fun k hk => ?_, fun w g hw hg => ?_⟩
  · rw [f.at (by omega)]; exact h.1.1
  · rw [f.at (by omega)]; exact h.1.2.1
  · rw [f.at (by omega)]; exact h.1.2.2
  · rw [f.at (by omega)]; exact h.2.1 x h0 h1
  · rw [f.at (by omega)]; exact h.2.2.1 x h0 h1
  · rw [f.at (by omega)]; exact h.2.2.2.1 k hk
  · rw [f.at (by omega)]; exact h.2.2.2.2 w g hw hg
theorem RA.fr {B B' : Mm} {o o' : Nat} (h : RA B o) (hF : FrR o' B B') : RA B' o := by
  refine ⟨?_, h.2⟩
  rw [hF.1.at (by omega)]
  exact h.1
section CR
variable {A B M : Mm} {T S : Tw} {s o w : Nat} {mb : Int}
theorem r_isWork (hT : RT B T) (hI : InvT T) {x : Int} (h1 : -2147483648 ≤ x) (h2 : x < 2147483648) : (0 ≤ iI x ∧ iI x ≤ B.1 600 2 - 1) ↔ 0 ≤ x ∧ x < T 0 2 := by
  have hc := hI.1
  rw [hT.1.2.2, cl0, cl1, iI_sub, iI_le (by omega) (by omega) (by omega) (by omega), iI_le (by omega) (by omega) (by omega) (by omega)]
  omega
theorem r_open (ha : RA B o) (hS : RS B o T S) (hI : InvT T) (hJ : InvS T S mb) {x : Int} (h0 : 0 ≤ x) (h1 : x < T 0 2) : (B.1 607 (Int32.toNatClampNeg (B.1 600 10 + 9 + iI x)) = 0) ↔ S 2 x.toNat = 0 := by
  have b := hJ.2.2.1 x h0 h1
  rw [hS.state ha h0 h1 hI, cl0, iI_eq (by omega) (by omega) (by omega) (by omega)]
theorem r_free (hT : RT B T) (ha : RA B o) (hS : RS B o T S) (hI : InvT T) (hJ : InvS T S mb) (hw : (w : Int) < T 0 2) : p_X8_isFree B (iI (w : Int)) ∧ r_X8_isFree B (iI (w : Int)) = if aFree T S w then 1 else 0 := by
  have hc := hI.1
  have k6 := (hI.2.2.2.2 w hw).2.2.2.2.2.2.1
  have e6 := hT.w6 hw hI
  have ow := r_open ha hS hI hJ (x := (w : Int)) (by omega) hw
  rw [Int.toNat_natCast] at ow
  have c0 : (iI (T (10 + w) 6) < 0) ↔ T (10 + w) 6 < 0 := by rw [cl0, iI_lt (by omega) (by omega) (by omega) (by omega)]
  have c1 : (0 ≤ iI (T (10 + w) 6)) ↔ 0 ≤ T (10 + w) 6 := by rw [cl0, iI_le (by omega) (by omega) (by omega) (by omega)]
  have vs := ha.vs (x := (w : Int)) (by omega) hw hI
  have vb : 0 ≤ T (10 + w) 6 → vp_in (B.1 600 10 + 9 + iI (T (10 + w) 6)) 44 := fun h => ha.vs h (by omega) hI
  unfold p_X8_isFree r_X8_isFree
  rw [e6]
  by_cases q : S 2 w = 0
  · have q1 := b2i_1.mpr (ow.mpr q)
    rw [if_neg q1, if_neg q1]
    by_cases n : T (10 + w) 6 < 0
    · rw [if_pos (c0.mpr n), if_pos (c0.mpr n), if_pos (show aFree T S w from ⟨q, fun h => by omega⟩)]
      exact ⟨⟨vs, vw6 hw hI, trivial⟩, rfl⟩
    · have n0 : 0 ≤ T (10 + w) 6 := by omega
      have ob := r_open ha hS hI hJ n0 (by omega)
      rw [if_neg (fun h => n (c0.mp h)), if_neg (fun h => n (c0.mp h)), if_pos (c1.mpr n0), if_pos (c1.mpr n0)]
      refine ⟨⟨vs, vw6 hw hI, vw6 hw hI, vw6 hw hI, vb n0, by split <;> trivial⟩, ?_⟩
      by_cases z : S 2 (T (10 + w) 6).toNat = 0
      · rw [if_pos (b2i_1.mpr (ob.mpr z)), if_neg (show ¬ aFree T S w from fun h => h.2 ⟨n0, z⟩)]
      · rw [if_neg (fun h => z (ob.mp (b2i_1.mp h))), if_pos (show aFree T S w from ⟨q, fun h => z h.2⟩)]
  · have q1 := b2i_0.mpr (fun h => q (ow.mp h))
    rw [if_pos q1, if_pos q1, if_neg (show ¬ aFree T S w from fun h => q h.1)]
    exact ⟨⟨vs, trivial⟩, rfl⟩
theorem r_spoilt (hT : RT B T) (ha : RA B o) (hS : RS B o T S) (hI : InvT T) (hJ : InvS T S mb) (hw : (w : Int) < T 0 2) : p_X8_isSpoilt B (iI (w : Int)) ∧ r_X8_isSpoilt B (iI (w : Int)) = if aSpoil T S w then 1 else 0 := by
  have hc := hI.1
  obtain ⟨k0, k1, k2, k3, k4, k5, k6, k7⟩ := hI.2.2.2.2 w hw
  have e6 := hT.w6 hw hI
  have e7 := hT.w7 hw hI
  have c1 : (0 ≤ iI (T (10 + w) 6)) ↔ 0 ≤ T (10 + w) 6 := by rw [cl0, iI_le (by omega) (by omega) (by omega) (by omega)]
  unfold p_X8_isSpoilt r_X8_isSpoilt
  rw [e6, e7]
  by_cases n : 0 ≤ T (10 + w) 6
  · rw [if_pos (c1.mpr n), if_pos (c1.mpr n)]
    have es := hS.state ha n (by omega) hI
    have ee := hS.fin ha n (by omega) hI
    have em := hS.min ha
    have vs := ha.vs n (by omega) hI
    have ve := ha.ve n (by omega) hI
    have vm := ha.x21.2
    have bs := hJ.2.2.1 _ n (by omega)
    have be := hJ.2.2.2.1 _ n (by omega)
    have bm := hJ.2.2.2.2
    rw [es, ee, em]
    have x2 : (iI (S 2 (T (10 + w) 6).toNat) = 2) ↔ S 2 (T (10 + w) 6).toNat = 2 := by rw [cl2, iI_eq (by omega) (by omega) (by omega) (by omega)]
    have x1 : (iI (S 2 (T (10 + w) 6).toNat) = 1) ↔ S 2 (T (10 + w) 6).toNat = 1 := by rw [cl1, iI_eq (by omega) (by omega) (by omega) (by omega)]
    have x7 : (iI (T (10 + w) 7) ≤ 0) ↔ T (10 + w) 7 ≤ 0 := by rw [cl0, iI_le (by omega) (by omega) (by omega) (by omega)]
    have xe : (iI (S 4 0) - iI (S 3 (T (10 + w) 6).toNat) ≤ iI (T (10 + w) 7)) ↔ S 4 0 - S 3 (T (10 + w) 6).toNat ≤ T (10 + w) 7 := by rw [iI_sub, iI_le (by omega) (by omega) (by omega) (by omega)]
    by_cases c2 : S 2 (T (10 + w) 6).toNat = 2
    · rw [if_neg (not_not_intro (x2.mpr c2)), if_neg (not_not_intro (x2.mpr c2)), if_pos (show aSpoil T S w from ⟨n, Or.inl c2⟩)]
      exact ⟨⟨vw6 hw hI, vs, trivial⟩, rfl⟩
    · have c2' := fun h => c2 (x2.mp h)
      rw [if_pos c2', if_pos c2']
      by_cases d1 : S 2 (T (10 + w) 6).toNat = 1
      · rw [if_neg (not_not_intro (x1.mpr d1)), if_neg (not_not_intro (x1.mpr d1))]
        by_cases d7 : T (10 + w) 7 ≤ 0
        · rw [if_pos (x7.mpr d7), if_pos (x7.mpr d7), if_neg (show ¬ aSpoil T S w from fun h => by rcases h.2 with h | h <;> omega)]
          exact ⟨⟨vw6 hw hI, vs, vs, vw7 hw hI, trivial⟩, rfl⟩
        · rw [if_neg (fun h => d7 (x7.mp h)), if_neg (fun h => d7 (x7.mp h))]
          refine ⟨⟨vw6 hw hI, vs, vs, vw7 hw hI, vm, ve, vw7 hw hI, by split <;> trivial⟩, ?_⟩
          by_cases de : S 4 0 - S 3 (T (10 + w) 6).toNat ≤ T (10 + w) 7
          · rw [if_pos (xe.mpr de), if_neg (show ¬ aSpoil T S w from fun h => by rcases h.2 with h | h <;> omega)]
          · rw [if_neg (fun h => de (xe.mp h)), if_pos (show aSpoil T S w from ⟨n, Or.inr ⟨d1, by omega, by omega⟩⟩)]
      · have d1' := fun h => d1 (x1.mp h)
        rw [if_pos d1', if_pos d1', if_neg (show ¬ aSpoil T S w from fun h => by rcases h.2 with h | h <;> omega)]
        exact ⟨⟨vw6 hw hI, vs, vs, trivial⟩, rfl⟩
  · rw [if_neg (fun h => n (c1.mp h)), if_neg (fun h => n (c1.mp h)), if_neg (show ¬ aSpoil T S w from fun h => n h.1)]
    exact ⟨⟨vw6 hw hI, trivial⟩, rfl⟩
/-- the first k things moved in the reference's row -/
def rmv (B : Mm) (o : Nat) (al : Bool) (fr to : Int32) (th k : Nat) : Mm := (fun a j => if a = 607 ∧ o + 3 ≤ j ∧ j < o + 3 + k ∧ ((al = true ∧ B.1 607 j = fr) ∨ j = o + 3 + th) then to else B.1 a j, B.2)
theorem rmv_0 (B : Mm) (o : Nat) (al : Bool) (fr to : Int32) (th : Nat) : rmv B o al fr to th 0 = B := by
  unfold rmv
  refine Prod.ext ?_ rfl
  funext a j
  show (if a = 607 ∧ o + 3 ≤ j ∧ j < o + 3 + 0 ∧ ((al = true ∧ B.1 607 j = fr) ∨ j = o + 3 + th) then to else B.1 a j) = B.1 a j
  rw [if_neg (by omega)]
theorem rmv_k (B : Mm) (o : Nat) (al : Bool) (fr to : Int32) (th k : Nat) : (rmv B o al fr to th k).1 607 (o + 3 + k) = B.1 607 (o + 3 + k) := by
  show (if 607 = 607 ∧ o + 3 ≤ o + 3 + k ∧ o + 3 + k < o + 3 + k ∧ ((al = true ∧ B.1 607 (o + 3 + k) = fr) ∨ o + 3 + k = o + 3 + th) then to else B.1 607 (o + 3 + k)) = _
  rw [if_neg (by omega)]
theorem rmv_o (B : Mm) (o : Nat) (al : Bool) (fr to : Int32) (th k a j : Nat) (h : a ≠ 607) : (rmv B o al fr to th k).1 a j = B.1 a j := by
  show (if a = 607 ∧ o + 3 ≤ j ∧ j < o + 3 + k ∧ ((al = true ∧ B.1 607 j = fr) ∨ j = o + 3 + th) then to else B.1 a j) = _
  rw [if_neg (fun q => h q.1)]
theorem rmv_y {B : Mm} {o : Nat} {al : Bool} {fr to : Int32} {th k : Nat} (h : (al = true ∧ B.1 607 (o + 3 + k) = fr) ∨ k = th) : wi (rmv B o al fr to th k) 607 (o + 3 + k) to = rmv B o al fr to th (k + 1) := by
  unfold rmv wi
  refine Prod.ext ?_ rfl
  funext a j
  show (if a = 607 ∧ j = o + 3 + k then to else if a = 607 ∧ o + 3 ≤ j ∧ j < o + 3 + k ∧ ((al = true ∧ B.1 607 j = fr) ∨ j = o + 3 + th) then to else B.1 a j) = (if a = 607 ∧ o + 3 ≤ j ∧ j < o + 3 + (k + 1) ∧ ((al = true ∧ B.1 607 j = fr) ∨ j = o + 3 + th) then to else B.1 a j)
  by_cases h1 : a = 607 ∧ j = o + 3 + k
  · rw [if_pos h1, if_pos ⟨h1.1, by omega, by omega, by rw [h1.2]; rcases h with h | h; exact Or.inl h; exact Or.inr (by omega)⟩]
  · rw [if_neg h1]
    by_cases h2 : a = 607 ∧ o + 3 ≤ j ∧ j < o + 3 + k ∧ ((al = true ∧ B.1 607 j = fr) ∨ j = o + 3 + th)
    · rw [if_pos h2, if_pos ⟨h2.1, h2.2.1, by omega, h2.2.2.2⟩]
    · rw [if_neg h2, if_neg]
      rintro ⟨q1, q2, q3, q5⟩
      by_cases q4 : j = o + 3 + k
      · exact h1 ⟨q1, q4⟩
      · exact h2 ⟨q1, q2, by omega, q5⟩
theorem rmv_n {B : Mm} {o : Nat} {al : Bool} {fr to : Int32} {th k : Nat} (h : ¬ ((al = true ∧ B.1 607 (o + 3 + k) = fr) ∨ k = th)) : rmv B o al fr to th k = rmv B o al fr to th (k + 1) := by
  unfold rmv
  refine Prod.ext ?_ rfl
  funext a j
  show (if a = 607 ∧ o + 3 ≤ j ∧ j < o + 3 + k ∧ ((al = true ∧ B.1 607 j = fr) ∨ j = o + 3 + th) then to else B.1 a j) = (if a = 607 ∧ o + 3 ≤ j ∧ j < o + 3 + (k + 1) ∧ ((al = true ∧ B.1 607 j = fr) ∨ j = o + 3 + th) then to else B.1 a j)
  by_cases h2 : a = 607 ∧ o + 3 ≤ j ∧ j < o + 3 + k ∧ ((al = true ∧ B.1 607 j = fr) ∨ j = o + 3 + th)
  · rw [if_pos h2, if_pos ⟨h2.1, h2.2.1, by omega, h2.2.2.2⟩]
  · rw [if_neg h2, if_neg]
    rintro ⟨q1, q2, q3, q5⟩
    by_cases q4 : j = o + 3 + k
    · subst q4
      refine h ?_
      rcases q5 with q5 | q5
      · exact Or.inl q5
      · exact Or.inr (by omega)
    · exact h2 ⟨q1, q2, by omega, q5⟩
theorem r_mv86 (hT : RT B T) (ha : RA B o) (hI : InvT T) (hw : (w : Int) < T 0 2) {fr to : Int32} : p_X8_moves_86 B (iI (w : Int)) (iI (T (10 + w) 0)) to fr ∧ w_X8_moves_86 B (iI (w : Int)) (iI (T (10 + w) 0)) to fr = rmv B o (decide (T (10 + w) 0 = 2 ∨ T (10 + w) 0 = 4)) fr to (T (10 + w) 2).toNat (T 0 1).toNat := by
  have hc := hI.1
  obtain ⟨k0, k1, k2, k3, k4, k5, k6, k7⟩ := hI.2.2.2.2 w hw
  have hN : Int32.toNatClampNeg (B.1 600 1) = (T 0 1).toNat := by rw [hT.1.2.1, iI_nat (by omega) (by omega)]
  generalize hal : decide (T (10 + w) 0 = 2 ∨ T (10 + w) 0 = 4) = al
  have ral : al = true ↔ T (10 + w) 0 = 2 ∨ T (10 + w) 0 = 4 := by rw [← hal]; exact decide_eq_true_iff
  have x2 : (iI (T (10 + w) 0) = 2) ↔ T (10 + w) 0 = 2 := by rw [cl2, iI_eq (by omega) (by omega) (by omega) (by omega)]
  have x4 : (iI (T (10 + w) 0) = 4) ↔ T (10 + w) 0 = 4 := by rw [cl4, iI_eq (by omega) (by omega) (by omega) (by omega)]
  have at10 : ∀ k, (rmv B o al fr to (T (10 + w) 2).toNat k).1 600 10 = B.1 600 10 := fun k => rmv_o _ _ _ _ _ _ _ _ _ (by omega)
  have at1 : ∀ k, (rmv B o al fr to (T (10 + w) 2).toNat k).1 600 1 = iI (T 0 1) := fun k => (rmv_o _ _ _ _ _ _ _ _ _ (by omega)).trans hT.1.2.1
  have e2 : ∀ k, (rmv B o al fr to (T (10 + w) 2).toNat k).1 603 (Int32.toNatClampNeg (8 * iI (w : Int) + (2 : Int32))) = iI (T (10 + w) 2) := fun k => (rmv_o _ _ _ _ _ _ _ _ _ (by omega)).trans (hT.w2 hw hI)
  have ix : ∀ (k : Nat) (j : Nat), k < (T 0 1).toNat → Int32.toNatClampNeg ((rmv B o al fr to (T (10 + w) 2).toNat j).1 600 10 + 3 + iI (k : Int)) = o + 3 + k ∧ vp_in ((rmv B o al fr to (T (10 + w) 2).toNat j).1 600 10 + 3 + iI (k : Int)) 44 := by
    intro k j hk
    rw [at10, cl3]
    obtain ⟨i1, i2⟩ := ha.ix (x := (k : Int)) (c := 3) (by omega) (by omega) (by omega)
    exact ⟨by rw [i1]; omega, i2⟩
  have key : ∀ k, k ≤ (T 0 1).toNat → l_X8_moves_89 (iI (w : Int)) (iI (T (10 + w) 0)) to fr (B, 0) k = (rmv B o al fr to (T (10 + w) 2).toNat k, iI (k : Int)) := by
    refine it_for _ ?_ (fun k hk => ?_)
    · rw [rmv_0]
      rfl
    · show s_X8_moves_89 (iI (w : Int)) (iI (T (10 + w) 0)) to fr (rmv B o al fr to (T (10 + w) 2).toNat k, iI (k : Int)) = _
      have hkt : (iI (k : Int) = iI (T (10 + w) 2)) ↔ k = (T (10 + w) 2).toNat := by
        rw [iI_eq (by omega) (by omega) (by omega) (by omega)]
        omega
      unfold s_X8_moves_89
      dsimp only
      rw [at1, iteLE (by omega) (by omega) (by omega) (by omega), if_neg (show ¬ T 0 1 ≤ (k : Int) by omega), (ix k k hk).1, rmv_k, e2]
      have e1 : iI (k : Int) + 1 = iI ((k + 1 : Nat) : Int) := by rw [cl1, iI_add]; rfl
      rw [e1]
      by_cases ht : k = (T (10 + w) 2).toNat
      · have hy := rmv_y (B := B) (o := o) (al := al) (fr := fr) (to := to) (Or.inr ht)
        rw [if_neg (not_not_intro (hkt.mpr ht)), hy]
        simp only [ite_self]
      · rw [if_pos (fun h => ht (hkt.mp h))]
        by_cases hf : B.1 607 (o + 3 + k) = fr
        · rw [if_neg (not_not_intro hf)]
          by_cases ca : T (10 + w) 0 = 2 ∨ T (10 + w) 0 = 4
          · have hy := rmv_y (B := B) (o := o) (al := al) (fr := fr) (to := to) (th := (T (10 + w) 2).toNat) (k := k) (Or.inl ⟨ral.mpr ca, hf⟩)
            rw [hy]
            by_cases c2 : T (10 + w) 0 = 2
            · rw [if_pos (x2.mpr c2)]
            · rw [if_neg (fun h => c2 (x2.mp h)), if_neg (not_not_intro (x4.mpr (by omega)))]
          · have hn := rmv_n (B := B) (o := o) (al := al) (fr := fr) (to := to) (th := (T (10 + w) 2).toNat) (k := k) (fun h => by rcases h with h | h; exact ca (ral.mp h.1); exact ht h)
            rw [if_neg (fun h => ca (Or.inl (x2.mp h))), if_pos (fun h => ca (Or.inr (x4.mp h))), hn]
        · rw [if_pos hf]
          have hn := rmv_n (B := B) (o := o) (al := al) (fr := fr) (to := to) (th := (T (10 + w) 2).toNat) (k := k) (fun h => by rcases h with h | h; exact hf h.2; exact ht h)
          simp only [ite_self]
          rw [hn]
  have kN := key _ (Nat.le_refl _)
  have fin : ((rmv B o al fr to (T (10 + w) 2).toNat (T 0 1).toNat).1 600 1 ≤ iI ((T 0 1).toNat : Int)) := by
    rw [at1, iI_le (by omega) (by omega) (by omega) (by omega)]
    omega
  constructor
  · unfold p_X8_moves_86
    rw [hN]
    refine ⟨fun k hk => ?_, fun k hk => ?_, ?_, ?_⟩
    · rw [key k (by omega)]
      unfold c_X8_moves_89
      dsimp only
      rw [at1, iteLE (by omega) (by omega) (by omega) (by omega), if_neg (by omega)]
      trivial
    · rw [key k (by omega)]
      unfold q_X8_moves_89
      dsimp only
      have hv := (ix k k hk).2
      have hv2 := vw2 hw hI
      split
      · trivial
      · split
        · refine ⟨hv, ?_⟩
          split
          · exact ⟨hv2, by split; trivial; exact ⟨hv, trivial⟩⟩
          · exact ⟨hv, trivial⟩
        · split
          · exact ⟨hv2, by split; trivial; exact ⟨hv, trivial⟩⟩
          · refine ⟨hv, ?_⟩
            split
            · exact ⟨hv2, by split; trivial; exact ⟨hv, trivial⟩⟩
            · exact ⟨hv, trivial⟩
    · rw [kN]
      unfold c_X8_moves_89
      dsimp only
      rw [if_pos fin]
      exact fun h => h
    · rw [kN]
      dsimp only
      rw [if_pos fin]
      trivial
  · unfold w_X8_moves_86
    rw [hN, kN]
    dsimp only
    rw [if_pos fin]
end CR

/-! the reference's search: all orders -/
theorem chn_1 (len : Nat) (l : List Nat) : chn len [l] = (nx (toF l) len).isNone := rfl
theorem chn_2 (len : Nat) (l l' : List Nat) (r : List (List Nat)) : chn len (l :: l' :: r) = (stp (toF l) len l' && chn len (l' :: r)) := rfl
theorem l23_0 (x1 : Int32) (σ : Mm × Int32) : l_X8_findBest_23 x1 σ 0 = σ := rfl
theorem l23_1 (x1 : Int32) (σ : Mm × Int32) : l_X8_findBest_23 x1 σ 1 = s_X8_findBest_23 x1 σ := rfl
section P82
variable {M : Mm} {T S : Tw} {mb : Int} {len n : Nat}
theorem r_all (hI : InvT T) (hJ : InvS T S mb) (hm : mb ≤ 700000) (l6 : len ≤ 6) : ∀ (L : List (List Nat)) (l : List Nat) (D : Mm) (b : Bt), chn len (l :: L) = true → (∀ x, x ∈ l :: L → gd1 (oMask S (T 0 2).toNat) len x = true) → RT D T → RA D 0 → RS D 0 T S → (∀ i, i < len → D.1 614 i = iI ((toF l i : Nat) : Int)) → RB D b len →
    (∀ k, k < L.length + 1 → c_X8_findBest_23 (iI (len : Int)) (l_X8_findBest_23 (iI (len : Int)) (D, 1) k)) ∧ (∀ k, k < L.length + 1 → q_X8_findBest_23 (iI (len : Int)) (l_X8_findBest_23 (iI (len : Int)) (D, 1) k)) ∧ ∃ D', l_X8_findBest_23 (iI (len : Int)) (D, 1) (L.length + 1) = (D', 0) ∧ RB D' ((l :: L).foldl (fun b l => vis T b l (S, 0, 0) []) b) len ∧ Fq Qz D D' := by
  intro L
  induction L with
  | nil =>
    intro l D b h1 h2 hT ha hS h14 hB
    obtain ⟨y1, E, y2, y3, y4, -, y6⟩ := r_try hT ha hS hI hJ hm (h2 l (List.mem_cons_self ..)) l6 h14 hB
    have c0 : c_X8_findBest_23 (iI (len : Int)) (D, 1) := by
      unfold c_X8_findBest_23
      dsimp only
      rw [if_neg (by decide)]
      trivial
    have nn : nx (toF l) len = none := by
      rw [chn_1] at h1
      exact Option.isNone_iff_eq_none.mp h1
    rw [y4 nn] at y3
    rw [List.length_nil, Nat.zero_add, l23_1]
    refine ⟨fun k hk => ?_, fun k hk => ?_, _, y3, y2, y6⟩
    · rw [show k = 0 by omega, l23_0]; exact c0
    · rw [show k = 0 by omega, l23_0]; exact y1
  | cons l' L ih =>
    intro l D b h1 h2 hT ha hS h14 hB
    obtain ⟨y1, E, y2, y3, -, y5, y6⟩ := r_try hT ha hS hI hJ hm (h2 l (List.mem_cons_self ..)) l6 h14 hB
    have c0 : c_X8_findBest_23 (iI (len : Int)) (D, 1) := by
      unfold c_X8_findBest_23
      dsimp only
      rw [if_neg (by decide)]
      trivial
    rw [chn_2, Bool.and_eq_true] at h1
    obtain ⟨s1, s2⟩ := h1
    obtain ⟨c, e1, e2⟩ : ∃ c, nx (toF l) len = some c ∧ (List.range len).map c = l' := by
      unfold stp at s1
      cases hx : nx (toF l) len with
      | none => rw [hx] at s1; exact absurd s1 (by intro u; cases u)
      | some c => rw [hx] at s1; exact ⟨c, rfl, beq_iff_eq.mp s1⟩
    obtain ⟨y7, y8⟩ := y5 c e1
    have ef : ∀ i, i < len → c i = toF l' i := fun i hi => by
      rw [← e2]
      unfold toF
      rw [List.getD_eq_getElem?_getD, List.getElem?_map, List.getElem?_range hi]
      rfl
    rw [y7] at y3
    obtain ⟨i1, i2, D', i3, i4, i5⟩ := ih l' (w_X8_nextOrder E (iI (len : Int))) (vis T b l (S, 0, 0) []) s2 (fun x hx => h2 x (List.mem_cons_of_mem _ hx)) (hT.fq y6 (fun a k h => by omega)) (ha.fq y6 (by omega)) (hS.fq hI y6 (fun k h1 h2 => by omega)) (fun i hi => by rw [y8 i hi, ef i hi]) y2
    rw [← y3] at i1 i2 i3
    rw [List.length_cons]
    refine ⟨fun k hk => ?_, fun k hk => ?_, D', ?_, i4, y6.tr i5⟩
    · cases k with
      | zero => rw [l23_0]; exact c0
      | succ k => rw [← l23_s]; exact i1 k (by omega)
    · cases k with
      | zero => rw [l23_0]; exact y1
      | succ k => rw [← l23_s]; exact i2 k (by omega)
    · rw [← l23_s]; exact i3
abbrev b00 : Bt := (-1, [], 99, -1)
theorem r_find (hT : RT M T) (ha : RA M 0) (hS : RS M 0 T S) (hI : InvT T) (hJ : InvS T S mb) (hm : mb ≤ 700000) (hlen : len = aOpn S (T 0 2).toNat) :
    p_X8_findBest M ∧ r_X8_findBest M = iI (len : Int) ∧ RB (w_X8_findBest M) (dfs T (T 0 2).toNat len b00 (S, 0, 0) []) len ∧ Fq Qz M (w_X8_findBest M) := by
  have hc := hI.1
  have l6 : len ≤ 6 := by have := aOpn_le S (T 0 2).toNat; omega
  have ec : aCnt (oMask S (T 0 2).toNat) 6 = len := by rw [oMask_cnt S _ (by omega)]; exact hlen.symm
  have m6 := oMask_lt S (T 0 2).toNat (by omega)
  have k1 := lx_chn _ m6
  have k2 := lx_fst _ m6
  have k3 := lx_len _ m6
  have k4 := lx_gd _ m6
  rw [ec] at k1 k2 k3 k4
  obtain ⟨p1, p2, p3, p4⟩ := r_firstO hT ha hS hI hJ hlen
  rw [asL_f (by omega)] at p3
  unfold p_X8_findBest r_X8_findBest w_X8_findBest
  rw [p2]
  generalize w_X8_firstOrder M = M1 at p3 p4 ⊢
  have F1 : Fq Qz M (wi (wi (wi M1 600 35 (-1)) 600 36 99) 600 37 (-1)) := Fq.wi (Fq.wi (Fq.wi (p4.mono (fun a k h => by omega)) (by omega)) (by omega)) (by omega)
  have B1 : RB (wi (wi (wi M1 600 35 (-1)) 600 36 99) 600 37 (-1)) b00 len := by
    refine ⟨⟨?_, ?_, ?_⟩, fun h => absurd h (by decide), by decide, by decide, by decide⟩
    · rw [rd_ne (Or.inr (by omega)), rd_ne (Or.inr (by omega)), rd_same]; decide
    · rw [rd_ne (Or.inr (by omega)), rd_same]; decide
    · rw [rd_same]; decide
  have O1 : ∀ i, i < len → (wi (wi (wi M1 600 35 (-1)) 600 36 99) 600 37 (-1)).1 614 i = iI ((toF (fst1 (oMask S (T 0 2).toNat)) i : Nat) : Int) := fun i hi => by rw [rd_ne (Or.inl (by omega)), rd_ne (Or.inl (by omega)), rd_ne (Or.inl (by omega))]; exact p3 i hi
  generalize wi (wi (wi M1 600 35 (-1)) 600 36 99) 600 37 (-1) = M2 at F1 B1 O1 ⊢
  rw [dfs_lx (by omega)]
  show _ ∧ _ ∧ RB _ ((lx len (oMask S (T 0 2).toNat)).foldl (fun b l => vis T b l (S, 0, 0) []) b00) len ∧ _
  generalize lx len (oMask S (T 0 2).toNat) = LL at k1 k2 k3 k4 ⊢
  cases LL with
  | nil => exact absurd k2 (by intro u; cases u)
  | cons l L =>
    have el : l = fst1 (oMask S (T 0 2).toNat) := Option.some.inj k2
    rw [List.all_eq_true] at k4
    obtain ⟨i1, i2, D', i3, i4, i5⟩ := r_all hI hJ hm l6 L l M2 b00 k1 k4 (hT.fq F1 (fun a k h => by omega)) (ha.fq F1 (by omega)) (hS.fq hI F1 (fun k h1 h2 => by omega)) (by rw [el]; exact O1) B1
    have nc : ¬ c_X8_findBest_23 (iI (len : Int)) (l_X8_findBest_23 (iI (len : Int)) (M2, 1) (L.length + 1)) := by
      rw [i3]
      unfold c_X8_findBest_23
      dsimp only
      rw [if_pos rfl]
      exact fun h => h
    have cn : cntN (fun k => c_X8_findBest_23 (iI (len : Int)) (l_X8_findBest_23 (iI (len : Int)) (M2, 1) k)) 721 = L.length + 1 := cntN_eq (by have : L.length + 1 ≤ 720 := k3; omega) i1 nc
    rw [cn]
    rw [i3] at nc ⊢
    dsimp only
    have e0 : (0 : Int32) = 0 := rfl
    rw [if_pos e0, if_pos e0, if_pos e0]
    exact ⟨⟨p1, i1, i2, nc, trivial⟩, rfl, i4, F1.tr i5⟩
end P82

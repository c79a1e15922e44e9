/-! the class's search, depth by depth -/
section P84
variable {M : Mm} {T : Tw} {mb : Int} {x : Xs} {b : Bt} {pre : List Nat} {len k : Nat}
theorem c_sf6 (hT : CT M 100 T) (hS : CSt M 1090 T x.1) (h5 : M.1 1090 5 = iI x.2.1) (h6 : M.1 1090 6 = iI x.2.2) (hI : InvT T) (hJ : InvS T x.1 (mb + 2000 * 6)) (hm : mb ≤ 700000) (hg : 0 ≤ x.2.1 ∧ x.2.1 ≤ 99 * 6) (hl : 0 ≤ x.2.2 ∧ x.2.2 ≤ 6) (hk : aOpn x.1 (T 0 2).toNat = k) (hd : 6 + k = len) (l6 : len ≤ 6) (hp : pre.length = 6) (h12 : ∀ i, i < 6 → M.1 512 i = iI ((toF pre i : Nat) : Int)) (hB : KR M b len) :
    p_X2_searchFrom_6 M ∧ KR (w_X2_searchFrom_6 M) (dfs T (T 0 2).toNat k b x pre) len ∧ (w_X2_searchFrom_6 M).1 510 5 = 1 ∧ Fq (fun a j => (a = 510 ∧ 5 ≤ j ∧ j ≤ 9) ∨ (a = 512 ∧ 6 ≤ j ∧ j < 6) ∨ (1100 ≤ a ∧ a ≤ 1099)) M (w_X2_searchFrom_6 M) := by
  have hc := hI.1
  have h4 : M.1 1090 4 = iI (x.1 4 0) := hS.2.2.2.2
  have b4 := hJ.2.2.2.2.1
  obtain ⟨f1, f2⟩ := c_may hT hS hI hJ
  have k0 : k = 0 := by omega
  have ln : len = 6 := by omega
  subst k0
  have hB' : KR M b 6 := by rw [← ln]; exact hB
  unfold p_X2_searchFrom_6 w_X2_searchFrom_6
  have go : p_X2_compare M 1090 6 ∧ KR (w_X2_compare M 1090 6) (bUp b x pre) 6 ∧ (w_X2_compare M 1090 6).1 510 5 = 1 ∧ Fq (fun a k => a = 510 ∧ 5 ≤ k ∧ k ≤ 9) M (w_X2_compare M 1090 6) := by
    obtain ⟨y1, y2, y3, y4⟩ := c_cmp (s := 1090) (len := 6) (o := pre) (x := x) (b := b) (by omega) h4 h5 h6 (by omega) (by omega) (by omega) (by omega) h12 hB'
    change p_X2_compare M 1090 6 at y1
    change KR (w_X2_compare M 1090 6) _ _ at y2
    change (w_X2_compare M 1090 6).1 510 5 = 1 at y3
    change Fq _ M (w_X2_compare M 1090 6) at y4
    exact ⟨y1, y2, y3, y4⟩
  obtain ⟨y1, y2, y3, y4⟩ := go
  refine ⟨⟨f1, by split <;> exact ⟨y1, trivial⟩⟩, ?_, y3, y4.mono (fun a k h => by omega)⟩
  rw [ln]
  exact y2
theorem c_sf5 (hT : CT M 100 T) (hS : CSt M 1080 T x.1) (h5 : M.1 1080 5 = iI x.2.1) (h6 : M.1 1080 6 = iI x.2.2) (hI : InvT T) (hJ : InvS T x.1 (mb + 2000 * 5)) (hm : mb ≤ 700000) (hg : 0 ≤ x.2.1 ∧ x.2.1 ≤ 99 * 5) (hl : 0 ≤ x.2.2 ∧ x.2.2 ≤ 5) (hk : aOpn x.1 (T 0 2).toNat = k) (hd : 5 + k = len) (l6 : len ≤ 6) (hp : pre.length = 5) (h12 : ∀ i, i < 5 → M.1 512 i = iI ((toF pre i : Nat) : Int)) (hB : KR M b len) :
    p_X2_searchFrom_5 M ∧ KR (w_X2_searchFrom_5 M) (dfs T (T 0 2).toNat k b x pre) len ∧ (w_X2_searchFrom_5 M).1 510 5 = 1 ∧ Fq (fun a j => (a = 510 ∧ 5 ≤ j ∧ j ≤ 9) ∨ (a = 512 ∧ 5 ≤ j ∧ j < 6) ∨ (1090 ≤ a ∧ a ≤ 1099)) M (w_X2_searchFrom_5 M) := by
  have hc := hI.1
  have h4 : M.1 1080 4 = iI (x.1 4 0) := hS.2.2.2.2
  have b4 := hJ.2.2.2.2.1
  obtain ⟨f1, f2⟩ := c_may hT hS hI hJ
  have ml := aMask_lt T x.1 (T 0 2).toNat (by omega)
  have zk : (iI ((aMask T x.1 (T 0 2).toNat : Nat) : Int) = 0) ↔ aMask T x.1 (T 0 2).toNat = 0 := by rw [cl0, iI_eq (by omega) (by omega) (by omega) (by omega)]; omega
  unfold p_X2_searchFrom_5 w_X2_searchFrom_5
  rw [f2]
  cases k with
  | zero =>
    have z := zk.mpr (aMask_z _ (aOpn_z _ hk))
    rw [if_pos z, if_pos z]
    have ln : len = 5 := by omega
    have hB' : KR M b 5 := by rw [← ln]; exact hB
    obtain ⟨y1, y2, y3, y4⟩ := c_cmp (s := 1080) (len := 5) (o := pre) (x := x) (b := b) (by omega) h4 h5 h6 (by omega) (by omega) (by omega) (by omega) h12 hB'
    change p_X2_compare M 1080 5 at y1
    change KR (w_X2_compare M 1080 5) _ _ at y2
    change (w_X2_compare M 1080 5).1 510 5 = 1 at y3
    change Fq _ M (w_X2_compare M 1080 5) at y4
    refine ⟨⟨f1, y1, trivial⟩, ?_, y3, y4.mono (fun a k h => by omega)⟩
    rw [ln]
    exact y2
  | succ k =>
    have ap := aMask_pos (T := T) (S := x.1) hI (by omega)
    have z : ¬ iI ((aMask T x.1 (T 0 2).toNat : Nat) : Int) = 0 := fun u => by have := zk.mp u; omega
    rw [if_neg z, if_neg z]
    have hN : Int32.toNatClampNeg (M.1 100 2) = (T 0 2).toNat := by rw [hT.1.2.2, iI_nat (by omega) (by omega)]
    rw [hN]
    have step : ∀ (w : Nat) (D : Mm), w < (T 0 2).toNat → KR D (lpN (fun w b => if aFree T x.1 w then dfs T (T 0 2).toNat k b (xT T x w) (pre ++ [w]) else b) w b) len → (∀ v, v < w → aFree T x.1 v → D.1 510 5 = 1) → Fq (fun a j => (a = 510 ∧ 5 ≤ j ∧ j ≤ 9) ∨ (a = 512 ∧ 5 ≤ j ∧ j < 6) ∨ (1090 ≤ a ∧ a ≤ 1099)) M D →
        c_X2_searchFrom_5_36 (iI ((aMask T x.1 (T 0 2).toNat : Nat) : Int)) (D, iI (w : Int)) ∧ q_X2_searchFrom_5_36 (iI ((aMask T x.1 (T 0 2).toNat : Nat) : Int)) (D, iI (w : Int)) ∧ ∃ D', s_X2_searchFrom_5_36 (iI ((aMask T x.1 (T 0 2).toNat : Nat) : Int)) (D, iI (w : Int)) = (D', iI ((w + 1 : Nat) : Int)) ∧ KR D' (lpN (fun w b => if aFree T x.1 w then dfs T (T 0 2).toNat k b (xT T x w) (pre ++ [w]) else b) (w + 1) b) len ∧ (∀ v, v < w + 1 → aFree T x.1 v → D'.1 510 5 = 1) ∧ Fq (fun a j => (a = 510 ∧ 5 ≤ j ∧ j ≤ 9) ∨ (a = 512 ∧ 5 ≤ j ∧ j < 6) ∨ (1090 ≤ a ∧ a ≤ 1099)) M D' := by
      intro w D hw k1 k2 k3
      have kT : CT D 100 T := hT.fq hI k3 (fun a k h1 h2 => by omega)
      have kS : CSt D 1080 T x.1 := hS.fq k3 (fun a k h1 h2 => by omega)
      have k5 : D.1 1080 5 = iI x.2.1 := by rw [k3.1 _ _ (by omega)]; exact h5
      have k6 : D.1 1080 6 = iI x.2.2 := by rw [k3.1 _ _ (by omega)]; exact h6
      have hlt : ¬ D.1 100 2 ≤ iI (w : Int) := by rw [kT.1.2.2, iI_le (by omega) (by omega) (by omega) (by omega)]; omega
      have mi := msk_in (aMask T x.1 (T 0 2).toNat) ml w (by omega)
      have mb' := aMask_bit T x.1 (T 0 2).toNat (by omega) w (by omega)
      unfold c_X2_searchFrom_5_36 q_X2_searchFrom_5_36 s_X2_searchFrom_5_36
      dsimp only
      rw [if_neg hlt, if_neg hlt, if_neg hlt, k1_iI]
      by_cases c : aFree T x.1 w
      · have g : ¬ b2i (¬ (iI ((aMask T x.1 (T 0 2).toNat : Nat) : Int) >>> (iI (w : Int) &&& 31)) &&& 1 = 0) = 0 := b2i_1.mpr (fun u => by
          have := mi.mp u
          rw [mb'.mpr ⟨hw, c⟩] at this
          exact absurd this (by decide))
        rw [if_neg g, if_neg g]
        have F1 : Fq (fun a j => (a = 510 ∧ 5 ≤ j ∧ j ≤ 9) ∨ (a = 512 ∧ 5 ≤ j ∧ j < 6) ∨ (1090 ≤ a ∧ a ≤ 1099)) D (wi D 512 5 (iI (w : Int))) := Fq.wi Fq.rf (by omega)
        obtain ⟨t1, t2, t3, t4⟩ := c_take (A := wi D 512 5 (iI (w : Int))) (s := 1090) (s1 := 1080) (Or.inr (by omega)) hI (kS.fq F1 (fun a k h1 h2 => by omega))
        rw [F1.1 _ _ (by omega), k5] at t2
        rw [F1.1 _ _ (by omega), k6] at t3
        have e12 : ∀ i, i < 6 → (w_X3_take (wi D 512 5 (iI (w : Int))) 1090 1080).1 512 i = iI ((toF (pre ++ [w]) i : Nat) : Int) := fun i hi => by
          rw [t4.at (by omega)]
          by_cases q : i = 5
          · rw [q, rd_same, toF_a.2 hp.symm]
          · rw [rd_ne (Or.inr q), k3.1 _ _ (by omega), toF_a.1 (by omega)]
            exact h12 i (by omega)
        have F2 : Fq (fun a j => (a = 510 ∧ 5 ≤ j ∧ j ≤ 9) ∨ (a = 512 ∧ 5 ≤ j ∧ j < 6) ∨ (1090 ≤ a ∧ a ≤ 1099)) D (w_X3_take (wi D 512 5 (iI (w : Int))) 1090 1080) := F1.tr (t4.q (fun a k h => by omega) (fun a h => by omega))
        have F2' : Fq (fun a j => (a = 512) ∨ (1090 ≤ a ∧ a ≤ 1099)) D (w_X3_take (wi D 512 5 (iI (w : Int))) 1090 1080) := (Fq.wi Fq.rf (by omega)).tr (t4.q (fun a k h => by omega) (fun a h => by omega))
        generalize w_X3_take (wi D 512 5 (iI (w : Int))) 1090 1080 = D2 at t1 t2 t3 e12 F2 F2' ⊢
        obtain ⟨r1, r2, r3, r4, r5, r6⟩ := c_carry (s := 1090) (by omega) (kT.fq hI F2 (fun a k h1 h2 => by omega)) t1 t2 t3 hI hJ (by omega) (w := w) (by omega) c.2
        have F3 : Fq (fun a j => (a = 510 ∧ 5 ≤ j ∧ j ≤ 9) ∨ (a = 512 ∧ 5 ≤ j ∧ j < 6) ∨ (1090 ≤ a ∧ a ≤ 1099)) D (w_X5_carryOut D2 1090 (iI (w : Int))) := F2.tr (r6.q (fun a k h => by omega) (fun a h => by omega))
        have F3' : Fq (fun a j => (a = 512) ∨ (1090 ≤ a ∧ a ≤ 1099)) D (w_X5_carryOut D2 1090 (iI (w : Int))) := F2'.tr (r6.q (fun a k h => by omega) (fun a h => by omega))
        have e12' : ∀ i, i < 6 → (w_X5_carryOut D2 1090 (iI (w : Int))).1 512 i = iI ((toF (pre ++ [w]) i : Nat) : Int) := fun i hi => by rw [r6.at (by omega)]; exact e12 i hi
        have wb := aWorth_b (S := x.1) hI (w := w) (by omega)
        have lb := aLate_b (T := T) (S := x.1) (w := w)
        have ot := (aOpn_turn (T := T) c.1 (T 0 2).toNat).2 hw
        obtain ⟨i1, i2, i3, i4⟩ := c_sf6 (M := w_X5_carryOut D2 1090 (iI (w : Int))) (x := xT T x w) (pre := pre ++ [w]) (b := lpN (fun w b => if aFree T x.1 w then dfs T (T 0 2).toNat k b (xT T x w) (pre ++ [w]) else b) w b) (k := k) (len := len) (mb := mb) (kT.fq hI F3 (fun a k h1 h2 => by omega)) r3 r4 r5 hI ((InvS.turn hI hJ (w := w) (by omega) (by omega)).mono (by omega) (by omega)) hm ⟨by show 0 ≤ x.2.1 + aWorth T x.1 w; omega, by show x.2.1 + aWorth T x.1 w ≤ 99 * 6; omega⟩ ⟨by show 0 ≤ x.2.2 + aLate T x.1 w; omega, by show x.2.2 + aLate T x.1 w ≤ 6; omega⟩ (by show aOpn (aTurn T x.1 w) (T 0 2).toNat = k; omega) (by omega) l6 (by rw [List.length_append, hp]; rfl) e12' (k1.fq F3' (fun k h1 h2 => by omega))
        refine ⟨trivial, ⟨r1, i1, trivial⟩, _, rfl, ?_, fun v _ _ => i3, (k3.tr F3).tr (i4.mono (fun a k h => by omega))⟩
        show KR _ (if aFree T x.1 w then dfs T (T 0 2).toNat k (lpN (fun w b => if aFree T x.1 w then dfs T (T 0 2).toNat k b (xT T x w) (pre ++ [w]) else b) w b) (xT T x w) (pre ++ [w]) else lpN (fun w b => if aFree T x.1 w then dfs T (T 0 2).toNat k b (xT T x w) (pre ++ [w]) else b) w b) len
        rw [if_pos c]
        exact i2
      · have g := b2i_0.mpr (fun u => u (mi.mpr (by
          cases hb : (aMask T x.1 (T 0 2).toNat).testBit w with
          | false => rfl
          | true => exact absurd (mb'.mp hb).2 c)) : ¬ ¬ (iI ((aMask T x.1 (T 0 2).toNat : Nat) : Int) >>> (iI (w : Int) &&& 31)) &&& 1 = 0)
        rw [if_pos g, if_pos g]
        refine ⟨trivial, trivial, D, rfl, ?_, fun v hv hf => ?_, k3⟩
        · show KR D (if aFree T x.1 w then dfs T (T 0 2).toNat k (lpN (fun w b => if aFree T x.1 w then dfs T (T 0 2).toNat k b (xT T x w) (pre ++ [w]) else b) w b) (xT T x w) (pre ++ [w]) else lpN (fun w b => if aFree T x.1 w then dfs T (T 0 2).toNat k b (xT T x w) (pre ++ [w]) else b) w b) len
          rw [if_neg c]
          exact k1
        · have : v ≠ w := fun e => c (by rw [← e]; exact hf)
          exact k2 v (by omega) hf
    have key : ∀ w, w ≤ (T 0 2).toNat → ∃ D, l_X2_searchFrom_5_36 (iI ((aMask T x.1 (T 0 2).toNat : Nat) : Int)) (M, 0) w = (D, iI (w : Int)) ∧ KR D (lpN (fun w b => if aFree T x.1 w then dfs T (T 0 2).toNat k b (xT T x w) (pre ++ [w]) else b) w b) len ∧ (∀ v, v < w → aFree T x.1 v → D.1 510 5 = 1) ∧ Fq (fun a j => (a = 510 ∧ 5 ≤ j ∧ j ≤ 9) ∨ (a = 512 ∧ 5 ≤ j ∧ j < 6) ∨ (1090 ≤ a ∧ a ≤ 1099)) M D := by
      intro w
      induction w with
      | zero => intro _; exact ⟨M, rfl, hB, fun v hv => absurd hv (Nat.not_lt_zero v), Fq.rf⟩
      | succ w ih =>
        intro hw
        obtain ⟨D, d1, d2, d3, d4⟩ := ih (by omega)
        obtain ⟨-, -, D', g1, g2⟩ := step w D (by omega) d2 d3 d4
        refine ⟨D', ?_, g2⟩
        show s_X2_searchFrom_5_36 (iI ((aMask T x.1 (T 0 2).toNat : Nat) : Int)) (l_X2_searchFrom_5_36 (iI ((aMask T x.1 (T 0 2).toNat : Nat) : Int)) (M, 0) w) = _
        rw [d1]; exact g1
    obtain ⟨D, d1, d2, d3, d4⟩ := key _ (Nat.le_refl _)
    have w2 : D.1 100 2 = iI (T 0 2) := by rw [d4.1 _ _ (by omega)]; exact hT.1.2.2
    have e : (((T 0 2).toNat : Nat) : Int) = T 0 2 := by omega
    rw [e] at d1
    rw [d1]
    dsimp only
    have gE : D.1 100 2 ≤ iI (T 0 2) := by rw [w2]; exact Int32.le_refl _
    rw [if_pos gE, if_pos gE]
    obtain ⟨v, v1, v2⟩ := free_ex (T := T) (S := x.1) hI (by omega)
    refine ⟨⟨f1, fun k hk => ?_, fun k hk => ?_, ?_, trivial⟩, d2, d3 v v1 v2, d4⟩
    · obtain ⟨E, g1, g2, g3, g4⟩ := key k (by omega)
      rw [g1]
      exact (step k E hk g2 g3 g4).1
    · obtain ⟨E, g1, g2, g3, g4⟩ := key k (by omega)
      rw [g1]
      exact (step k E hk g2 g3 g4).2.1
    · unfold c_X2_searchFrom_5_36
      dsimp only
      rw [if_pos gE]
      exact fun h => h
theorem c_sf4 (hT : CT M 100 T) (hS : CSt M 1070 T x.1) (h5 : M.1 1070 5 = iI x.2.1) (h6 : M.1 1070 6 = iI x.2.2) (hI : InvT T) (hJ : InvS T x.1 (mb + 2000 * 4)) (hm : mb ≤ 700000) (hg : 0 ≤ x.2.1 ∧ x.2.1 ≤ 99 * 4) (hl : 0 ≤ x.2.2 ∧ x.2.2 ≤ 4) (hk : aOpn x.1 (T 0 2).toNat = k) (hd : 4 + k = len) (l6 : len ≤ 6) (hp : pre.length = 4) (h12 : ∀ i, i < 4 → M.1 512 i = iI ((toF pre i : Nat) : Int)) (hB : KR M b len) :
    p_X2_searchFrom_4 M ∧ KR (w_X2_searchFrom_4 M) (dfs T (T 0 2).toNat k b x pre) len ∧ (w_X2_searchFrom_4 M).1 510 5 = 1 ∧ Fq (fun a j => (a = 510 ∧ 5 ≤ j ∧ j ≤ 9) ∨ (a = 512 ∧ 4 ≤ j ∧ j < 6) ∨ (1080 ≤ a ∧ a ≤ 1099)) M (w_X2_searchFrom_4 M) := by
  have hc := hI.1
  have h4 : M.1 1070 4 = iI (x.1 4 0) := hS.2.2.2.2
  have b4 := hJ.2.2.2.2.1
  obtain ⟨f1, f2⟩ := c_may hT hS hI hJ
  have ml := aMask_lt T x.1 (T 0 2).toNat (by omega)
  have zk : (iI ((aMask T x.1 (T 0 2).toNat : Nat) : Int) = 0) ↔ aMask T x.1 (T 0 2).toNat = 0 := by rw [cl0, iI_eq (by omega) (by omega) (by omega) (by omega)]; omega
  unfold p_X2_searchFrom_4 w_X2_searchFrom_4
  rw [f2]
  cases k with
  | zero =>
    have z := zk.mpr (aMask_z _ (aOpn_z _ hk))
    rw [if_pos z, if_pos z]
    have ln : len = 4 := by omega
    have hB' : KR M b 4 := by rw [← ln]; exact hB
    obtain ⟨y1, y2, y3, y4⟩ := c_cmp (s := 1070) (len := 4) (o := pre) (x := x) (b := b) (by omega) h4 h5 h6 (by omega) (by omega) (by omega) (by omega) h12 hB'
    change p_X2_compare M 1070 4 at y1
    change KR (w_X2_compare M 1070 4) _ _ at y2
    change (w_X2_compare M 1070 4).1 510 5 = 1 at y3
    change Fq _ M (w_X2_compare M 1070 4) at y4
    refine ⟨⟨f1, y1, trivial⟩, ?_, y3, y4.mono (fun a k h => by omega)⟩
    rw [ln]
    exact y2
  | succ k =>
    have ap := aMask_pos (T := T) (S := x.1) hI (by omega)
    have z : ¬ iI ((aMask T x.1 (T 0 2).toNat : Nat) : Int) = 0 := fun u => by have := zk.mp u; omega
    rw [if_neg z, if_neg z]
    have hN : Int32.toNatClampNeg (M.1 100 2) = (T 0 2).toNat := by rw [hT.1.2.2, iI_nat (by omega) (by omega)]
    rw [hN]
    have step : ∀ (w : Nat) (D : Mm), w < (T 0 2).toNat → KR D (lpN (fun w b => if aFree T x.1 w then dfs T (T 0 2).toNat k b (xT T x w) (pre ++ [w]) else b) w b) len → (∀ v, v < w → aFree T x.1 v → D.1 510 5 = 1) → Fq (fun a j => (a = 510 ∧ 5 ≤ j ∧ j ≤ 9) ∨ (a = 512 ∧ 4 ≤ j ∧ j < 6) ∨ (1080 ≤ a ∧ a ≤ 1099)) M D →
        c_X2_searchFrom_4_36 (iI ((aMask T x.1 (T 0 2).toNat : Nat) : Int)) (D, iI (w : Int)) ∧ q_X2_searchFrom_4_36 (iI ((aMask T x.1 (T 0 2).toNat : Nat) : Int)) (D, iI (w : Int)) ∧ ∃ D', s_X2_searchFrom_4_36 (iI ((aMask T x.1 (T 0 2).toNat : Nat) : Int)) (D, iI (w : Int)) = (D', iI ((w + 1 : Nat) : Int)) ∧ KR D' (lpN (fun w b => if aFree T x.1 w then dfs T (T 0 2).toNat k b (xT T x w) (pre ++ [w]) else b) (w + 1) b) len ∧ (∀ v, v < w + 1 → aFree T x.1 v → D'.1 510 5 = 1) ∧ Fq (fun a j => (a = 510 ∧ 5 ≤ j ∧ j ≤ 9) ∨ (a = 512 ∧ 4 ≤ j ∧ j < 6) ∨ (1080 ≤ a ∧ a ≤ 1099)) M D' := by
      intro w D hw k1 k2 k3
      have kT : CT D 100 T := hT.fq hI k3 (fun a k h1 h2 => by omega)
      have kS : CSt D 1070 T x.1 := hS.fq k3 (fun a k h1 h2 => by omega)
      have k5 : D.1 1070 5 = iI x.2.1 := by rw [k3.1 _ _ (by omega)]; exact h5
      have k6 : D.1 1070 6 = iI x.2.2 := by rw [k3.1 _ _ (by omega)]; exact h6
      have hlt : ¬ D.1 100 2 ≤ iI (w : Int) := by rw [kT.1.2.2, iI_le (by omega) (by omega) (by omega) (by omega)]; omega
      have mi := msk_in (aMask T x.1 (T 0 2).toNat) ml w (by omega)
      have mb' := aMask_bit T x.1 (T 0 2).toNat (by omega) w (by omega)
      unfold c_X2_searchFrom_4_36 q_X2_searchFrom_4_36 s_X2_searchFrom_4_36
      dsimp only
      rw [if_neg hlt, if_neg hlt, if_neg hlt, k1_iI]
      by_cases c : aFree T x.1 w
      · have g : ¬ b2i (¬ (iI ((aMask T x.1 (T 0 2).toNat : Nat) : Int) >>> (iI (w : Int) &&& 31)) &&& 1 = 0) = 0 := b2i_1.mpr (fun u => by
          have := mi.mp u
          rw [mb'.mpr ⟨hw, c⟩] at this
          exact absurd this (by decide))
        rw [if_neg g, if_neg g]
        have F1 : Fq (fun a j => (a = 510 ∧ 5 ≤ j ∧ j ≤ 9) ∨ (a = 512 ∧ 4 ≤ j ∧ j < 6) ∨ (1080 ≤ a ∧ a ≤ 1099)) D (wi D 512 4 (iI (w : Int))) := Fq.wi Fq.rf (by omega)
        obtain ⟨t1, t2, t3, t4⟩ := c_take (A := wi D 512 4 (iI (w : Int))) (s := 1080) (s1 := 1070) (Or.inr (by omega)) hI (kS.fq F1 (fun a k h1 h2 => by omega))
        rw [F1.1 _ _ (by omega), k5] at t2
        rw [F1.1 _ _ (by omega), k6] at t3
        have e12 : ∀ i, i < 5 → (w_X3_take (wi D 512 4 (iI (w : Int))) 1080 1070).1 512 i = iI ((toF (pre ++ [w]) i : Nat) : Int) := fun i hi => by
          rw [t4.at (by omega)]
          by_cases q : i = 4
          · rw [q, rd_same, toF_a.2 hp.symm]
          · rw [rd_ne (Or.inr q), k3.1 _ _ (by omega), toF_a.1 (by omega)]
            exact h12 i (by omega)
        have F2 : Fq (fun a j => (a = 510 ∧ 5 ≤ j ∧ j ≤ 9) ∨ (a = 512 ∧ 4 ≤ j ∧ j < 6) ∨ (1080 ≤ a ∧ a ≤ 1099)) D (w_X3_take (wi D 512 4 (iI (w : Int))) 1080 1070) := F1.tr (t4.q (fun a k h => by omega) (fun a h => by omega))
        have F2' : Fq (fun a j => (a = 512) ∨ (1080 ≤ a ∧ a ≤ 1099)) D (w_X3_take (wi D 512 4 (iI (w : Int))) 1080 1070) := (Fq.wi Fq.rf (by omega)).tr (t4.q (fun a k h => by omega) (fun a h => by omega))
        generalize w_X3_take (wi D 512 4 (iI (w : Int))) 1080 1070 = D2 at t1 t2 t3 e12 F2 F2' ⊢
        obtain ⟨r1, r2, r3, r4, r5, r6⟩ := c_carry (s := 1080) (by omega) (kT.fq hI F2 (fun a k h1 h2 => by omega)) t1 t2 t3 hI hJ (by omega) (w := w) (by omega) c.2
        have F3 : Fq (fun a j => (a = 510 ∧ 5 ≤ j ∧ j ≤ 9) ∨ (a = 512 ∧ 4 ≤ j ∧ j < 6) ∨ (1080 ≤ a ∧ a ≤ 1099)) D (w_X5_carryOut D2 1080 (iI (w : Int))) := F2.tr (r6.q (fun a k h => by omega) (fun a h => by omega))
        have F3' : Fq (fun a j => (a = 512) ∨ (1080 ≤ a ∧ a ≤ 1099)) D (w_X5_carryOut D2 1080 (iI (w : Int))) := F2'.tr (r6.q (fun a k h => by omega) (fun a h => by omega))
        have e12' : ∀ i, i < 5 → (w_X5_carryOut D2 1080 (iI (w : Int))).1 512 i = iI ((toF (pre ++ [w]) i : Nat) : Int) := fun i hi => by rw [r6.at (by omega)]; exact e12 i hi
        have wb := aWorth_b (S := x.1) hI (w := w) (by omega)
        have lb := aLate_b (T := T) (S := x.1) (w := w)
        have ot := (aOpn_turn (T := T) c.1 (T 0 2).toNat).2 hw
        obtain ⟨i1, i2, i3, i4⟩ := c_sf5 (M := w_X5_carryOut D2 1080 (iI (w : Int))) (x := xT T x w) (pre := pre ++ [w]) (b := lpN (fun w b => if aFree T x.1 w then dfs T (T 0 2).toNat k b (xT T x w) (pre ++ [w]) else b) w b) (k := k) (len := len) (mb := mb) (kT.fq hI F3 (fun a k h1 h2 => by omega)) r3 r4 r5 hI ((InvS.turn hI hJ (w := w) (by omega) (by omega)).mono (by omega) (by omega)) hm ⟨by show 0 ≤ x.2.1 + aWorth T x.1 w; omega, by show x.2.1 + aWorth T x.1 w ≤ 99 * 5; omega⟩ ⟨by show 0 ≤ x.2.2 + aLate T x.1 w; omega, by show x.2.2 + aLate T x.1 w ≤ 5; omega⟩ (by show aOpn (aTurn T x.1 w) (T 0 2).toNat = k; omega) (by omega) l6 (by rw [List.length_append, hp]; rfl) e12' (k1.fq F3' (fun k h1 h2 => by omega))
        refine ⟨trivial, ⟨r1, i1, trivial⟩, _, rfl, ?_, fun v _ _ => i3, (k3.tr F3).tr (i4.mono (fun a k h => by omega))⟩
        show KR _ (if aFree T x.1 w then dfs T (T 0 2).toNat k (lpN (fun w b => if aFree T x.1 w then dfs T (T 0 2).toNat k b (xT T x w) (pre ++ [w]) else b) w b) (xT T x w) (pre ++ [w]) else lpN (fun w b => if aFree T x.1 w then dfs T (T 0 2).toNat k b (xT T x w) (pre ++ [w]) else b) w b) len
        rw [if_pos c]
        exact i2
      · have g := b2i_0.mpr (fun u => u (mi.mpr (by
          cases hb : (aMask T x.1 (T 0 2).toNat).testBit w with
          | false => rfl
          | true => exact absurd (mb'.mp hb).2 c)) : ¬ ¬ (iI ((aMask T x.1 (T 0 2).toNat : Nat) : Int) >>> (iI (w : Int) &&& 31)) &&& 1 = 0)
        rw [if_pos g, if_pos g]
        refine ⟨trivial, trivial, D, rfl, ?_, fun v hv hf => ?_, k3⟩
        · show KR D (if aFree T x.1 w then dfs T (T 0 2).toNat k (lpN (fun w b => if aFree T x.1 w then dfs T (T 0 2).toNat k b (xT T x w) (pre ++ [w]) else b) w b) (xT T x w) (pre ++ [w]) else lpN (fun w b => if aFree T x.1 w then dfs T (T 0 2).toNat k b (xT T x w) (pre ++ [w]) else b) w b) len
          rw [if_neg c]
          exact k1
        · have : v ≠ w := fun e => c (by rw [← e]; exact hf)
          exact k2 v (by omega) hf
    have key : ∀ w, w ≤ (T 0 2).toNat → ∃ D, l_X2_searchFrom_4_36 (iI ((aMask T x.1 (T 0 2).toNat : Nat) : Int)) (M, 0) w = (D, iI (w : Int)) ∧ KR D (lpN (fun w b => if aFree T x.1 w then dfs T (T 0 2).toNat k b (xT T x w) (pre ++ [w]) else b) w b) len ∧ (∀ v, v < w → aFree T x.1 v → D.1 510 5 = 1) ∧ Fq (fun a j => (a = 510 ∧ 5 ≤ j ∧ j ≤ 9) ∨ (a = 512 ∧ 4 ≤ j ∧ j < 6) ∨ (1080 ≤ a ∧ a ≤ 1099)) M D := by
      intro w
      induction w with
      | zero => intro _; exact ⟨M, rfl, hB, fun v hv => absurd hv (Nat.not_lt_zero v), Fq.rf⟩
      | succ w ih =>
        intro hw
        obtain ⟨D, d1, d2, d3, d4⟩ := ih (by omega)
        obtain ⟨-, -, D', g1, g2⟩ := step w D (by omega) d2 d3 d4
        refine ⟨D', ?_, g2⟩
        show s_X2_searchFrom_4_36 (iI ((aMask T x.1 (T 0 2).toNat : Nat) : Int)) (l_X2_searchFrom_4_36 (iI ((aMask T x.1 (T 0 2).toNat : Nat) : Int)) (M, 0) w) = _
        rw [d1]; exact g1
    obtain ⟨D, d1, d2, d3, d4⟩ := key _ (Nat.le_refl _)
    have w2 : D.1 100 2 = iI (T 0 2) := by rw [d4.1 _ _ (by omega)]; exact hT.1.2.2
    have e : (((T 0 2).toNat : Nat) : Int) = T 0 2 := by omega
    rw [e] at d1
    rw [d1]
    dsimp only
    have gE : D.1 100 2 ≤ iI (T 0 2) := by rw [w2]; exact Int32.le_refl _
    rw [if_pos gE, if_pos gE]
    obtain ⟨v, v1, v2⟩ := free_ex (T := T) (S := x.1) hI (by omega)
    refine ⟨⟨f1, fun k hk => ?_, fun k hk => ?_, ?_, trivial⟩, d2, d3 v v1 v2, d4⟩
    · obtain ⟨E, g1, g2, g3, g4⟩ := key k (by omega)
      rw [g1]
      exact (step k E hk g2 g3 g4).1
    · obtain ⟨E, g1, g2, g3, g4⟩ := key k (by omega)
      rw [g1]
      exact (step k E hk g2 g3 g4).2.1
    · unfold c_X2_searchFrom_4_36
      dsimp only
      rw [if_pos gE]
      exact fun h => h
theorem c_sf3 (hT : CT M 100 T) (hS : CSt M 1060 T x.1) (h5 : M.1 1060 5 = iI x.2.1) (h6 : M.1 1060 6 = iI x.2.2) (hI : InvT T) (hJ : InvS T x.1 (mb + 2000 * 3)) (hm : mb ≤ 700000) (hg : 0 ≤ x.2.1 ∧ x.2.1 ≤ 99 * 3) (hl : 0 ≤ x.2.2 ∧ x.2.2 ≤ 3) (hk : aOpn x.1 (T 0 2).toNat = k) (hd : 3 + k = len) (l6 : len ≤ 6) (hp : pre.length = 3) (h12 : ∀ i, i < 3 → M.1 512 i = iI ((toF pre i : Nat) : Int)) (hB : KR M b len) :
    p_X2_searchFrom_3 M ∧ KR (w_X2_searchFrom_3 M) (dfs T (T 0 2).toNat k b x pre) len ∧ (w_X2_searchFrom_3 M).1 510 5 = 1 ∧ Fq (fun a j => (a = 510 ∧ 5 ≤ j ∧ j ≤ 9) ∨ (a = 512 ∧ 3 ≤ j ∧ j < 6) ∨ (1070 ≤ a ∧ a ≤ 1099)) M (w_X2_searchFrom_3 M) := by
  have hc := hI.1
  have h4 : M.1 1060 4 = iI (x.1 4 0) := hS.2.2.2.2
  have b4 := hJ.2.2.2.2.1
  obtain ⟨f1, f2⟩ := c_may hT hS hI hJ
  have ml := aMask_lt T x.1 (T 0 2).toNat (by omega)
  have zk : (iI ((aMask T x.1 (T 0 2).toNat : Nat) : Int) = 0) ↔ aMask T x.1 (T 0 2).toNat = 0 := by rw [cl0, iI_eq (by omega) (by omega) (by omega) (by omega)]; omega
  unfold p_X2_searchFrom_3 w_X2_searchFrom_3
  rw [f2]
  cases k with
  | zero =>
    have z := zk.mpr (aMask_z _ (aOpn_z _ hk))
    rw [if_pos z, if_pos z]
    have ln : len = 3 := by omega
    have hB' : KR M b 3 := by rw [← ln]; exact hB
    obtain ⟨y1, y2, y3, y4⟩ := c_cmp (s := 1060) (len := 3) (o := pre) (x := x) (b := b) (by omega) h4 h5 h6 (by omega) (by omega) (by omega) (by omega) h12 hB'
    change p_X2_compare M 1060 3 at y1
    change KR (w_X2_compare M 1060 3) _ _ at y2
    change (w_X2_compare M 1060 3).1 510 5 = 1 at y3
    change Fq _ M (w_X2_compare M 1060 3) at y4
    refine ⟨⟨f1, y1, trivial⟩, ?_, y3, y4.mono (fun a k h => by omega)⟩
    rw [ln]
    exact y2
  | succ k =>
    have ap := aMask_pos (T := T) (S := x.1) hI (by omega)
    have z : ¬ iI ((aMask T x.1 (T 0 2).toNat : Nat) : Int) = 0 := fun u => by have := zk.mp u; omega
    rw [if_neg z, if_neg z]
    have hN : Int32.toNatClampNeg (M.1 100 2) = (T 0 2).toNat := by rw [hT.1.2.2, iI_nat (by omega) (by omega)]
    rw [hN]
    have step : ∀ (w : Nat) (D : Mm), w < (T 0 2).toNat → KR D (lpN (fun w b => if aFree T x.1 w then dfs T (T 0 2).toNat k b (xT T x w) (pre ++ [w]) else b) w b) len → (∀ v, v < w → aFree T x.1 v → D.1 510 5 = 1) → Fq (fun a j => (a = 510 ∧ 5 ≤ j ∧ j ≤ 9) ∨ (a = 512 ∧ 3 ≤ j ∧ j < 6) ∨ (1070 ≤ a ∧ a ≤ 1099)) M D →
        c_X2_searchFrom_3_36 (iI ((aMask T x.1 (T 0 2).toNat : Nat) : Int)) (D, iI (w : Int)) ∧ q_X2_searchFrom_3_36 (iI ((aMask T x.1 (T 0 2).toNat : Nat) : Int)) (D, iI (w : Int)) ∧ ∃ D', s_X2_searchFrom_3_36 (iI ((aMask T x.1 (T 0 2).toNat : Nat) : Int)) (D, iI (w : Int)) = (D', iI ((w + 1 : Nat) : Int)) ∧ KR D' (lpN (fun w b => if aFree T x.1 w then dfs T (T 0 2).toNat k b (xT T x w) (pre ++ [w]) else b) (w + 1) b) len ∧ (∀ v, v < w + 1 → aFree T x.1 v → D'.1 510 5 = 1) ∧ Fq (fun a j => (a = 510 ∧ 5 ≤ j ∧ j ≤ 9) ∨ (a = 512 ∧ 3 ≤ j ∧ j < 6) ∨ (1070 ≤ a ∧ a ≤ 1099)) M D' := by
      intro w D hw k1 k2 k3
      have kT : CT D 100 T := hT.fq hI k3 (fun a k h1 h2 => by omega)
      have kS : CSt D 1060 T x.1 := hS.fq k3 (fun a k h1 h2 => by omega)
      have k5 : D.1 1060 5 = iI x.2.1 := by rw [k3.1 _ _ (by omega)]; exact h5
      have k6 : D.1 1060 6 = iI x.2.2 := by rw [k3.1 _ _ (by omega)]; exact h6
      have hlt : ¬ D.1 100 2 ≤ iI (w : Int) := by rw [kT.1.2.2, iI_le (by omega) (by omega) (by omega) (by omega)]; omega
      have mi := msk_in (aMask T x.1 (T 0 2).toNat) ml w (by omega)
      have mb' := aMask_bit T x.1 (T 0 2).toNat (by omega) w (by omega)
      unfold c_X2_searchFrom_3_36 q_X2_searchFrom_3_36 s_X2_searchFrom_3_36
      dsimp only
      rw [if_neg hlt, if_neg hlt, if_neg hlt, k1_iI]
      by_cases c : aFree T x.1 w
      · have g : ¬ b2i (¬ (iI ((aMask T x.1 (T 0 2).toNat : Nat) : Int) >>> (iI (w : Int) &&& 31)) &&& 1 = 0) = 0 := b2i_1.mpr (fun u => by
          have := mi.mp u
          rw [mb'.mpr ⟨hw, c⟩] at this
          exact absurd this (by decide))
        rw [if_neg g, if_neg g]
        have F1 : Fq (fun a j => (a = 510 ∧ 5 ≤ j ∧ j ≤ 9) ∨ (a = 512 ∧ 3 ≤ j ∧ j < 6) ∨ (1070 ≤ a ∧ a ≤ 1099)) D (wi D 512 3 (iI (w : Int))) := Fq.wi Fq.rf (by omega)
        obtain ⟨t1, t2, t3, t4⟩ := c_take (A := wi D 512 3 (iI (w : Int))) (s := 1070) (s1 := 1060) (Or.inr (by omega)) hI (kS.fq F1 (fun a k h1 h2 => by omega))
        rw [F1.1 _ _ (by omega), k5] at t2
        rw [F1.1 _ _ (by omega), k6] at t3
        have e12 : ∀ i, i < 4 → (w_X3_take (wi D 512 3 (iI (w : Int))) 1070 1060).1 512 i = iI ((toF (pre ++ [w]) i : Nat) : Int) := fun i hi => by
          rw [t4.at (by omega)]
          by_cases q : i = 3
          · rw [q, rd_same, toF_a.2 hp.symm]
          · rw [rd_ne (Or.inr q), k3.1 _ _ (by omega), toF_a.1 (by omega)]
            exact h12 i (by omega)
        have F2 : Fq (fun a j => (a = 510 ∧ 5 ≤ j ∧ j ≤ 9) ∨ (a = 512 ∧ 3 ≤ j ∧ j < 6) ∨ (1070 ≤ a ∧ a ≤ 1099)) D (w_X3_take (wi D 512 3 (iI (w : Int))) 1070 1060) := F1.tr (t4.q (fun a k h => by omega) (fun a h => by omega))
        have F2' : Fq (fun a j => (a = 512) ∨ (1070 ≤ a ∧ a ≤ 1099)) D (w_X3_take (wi D 512 3 (iI (w : Int))) 1070 1060) := (Fq.wi Fq.rf (by omega)).tr (t4.q (fun a k h => by omega) (fun a h => by omega))
        generalize w_X3_take (wi D 512 3 (iI (w : Int))) 1070 1060 = D2 at t1 t2 t3 e12 F2 F2' ⊢
        obtain ⟨r1, r2, r3, r4, r5, r6⟩ := c_carry (s := 1070) (by omega) (kT.fq hI F2 (fun a k h1 h2 => by omega)) t1 t2 t3 hI hJ (by omega) (w := w) (by omega) c.2
        have F3 : Fq (fun a j => (a = 510 ∧ 5 ≤ j ∧ j ≤ 9) ∨ (a = 512 ∧ 3 ≤ j ∧ j < 6) ∨ (1070 ≤ a ∧ a ≤ 1099)) D (w_X5_carryOut D2 1070 (iI (w : Int))) := F2.tr (r6.q (fun a k h => by omega) (fun a h => by omega))
        have F3' : Fq (fun a j => (a = 512) ∨ (1070 ≤ a ∧ a ≤ 1099)) D (w_X5_carryOut D2 1070 (iI (w : Int))) := F2'.tr (r6.q (fun a k h => by omega) (fun a h => by omega))
        have e12' : ∀ i, i < 4 → (w_X5_carryOut D2 1070 (iI (w : Int))).1 512 i = iI ((toF (pre ++ [w]) i : Nat) : Int) := fun i hi => by rw [r6.at (by omega)]; exact e12 i hi
        have wb := aWorth_b (S := x.1) hI (w := w) (by omega)
        have lb := aLate_b (T := T) (S := x.1) (w := w)
        have ot := (aOpn_turn (T := T) c.1 (T 0 2).toNat).2 hw
        obtain ⟨i1, i2, i3, i4⟩ := c_sf4 (M := w_X5_carryOut D2 1070 (iI (w : Int))) (x := xT T x w) (pre := pre ++ [w]) (b := lpN (fun w b => if aFree T x.1 w then dfs T (T 0 2).toNat k b (xT T x w) (pre ++ [w]) else b) w b) (k := k) (len := len) (mb := mb) (kT.fq hI F3 (fun a k h1 h2 => by omega)) r3 r4 r5 hI ((InvS.turn hI hJ (w := w) (by omega) (by omega)).mono (by omega) (by omega)) hm ⟨by show 0 ≤ x.2.1 + aWorth T x.1 w; omega, by show x.2.1 + aWorth T x.1 w ≤ 99 * 4; omega⟩ ⟨by show 0 ≤ x.2.2 + aLate T x.1 w; omega, by show x.2.2 + aLate T x.1 w ≤ 4; omega⟩ (by show aOpn (aTurn T x.1 w) (T 0 2).toNat = k; omega) (by omega) l6 (by rw [List.length_append, hp]; rfl) e12' (k1.fq F3' (fun k h1 h2 => by omega))
        refine ⟨trivial, ⟨r1, i1, trivial⟩, _, rfl, ?_, fun v _ _ => i3, (k3.tr F3).tr (i4.mono (fun a k h => by omega))⟩
        show KR _ (if aFree T x.1 w then dfs T (T 0 2).toNat k (lpN (fun w b => if aFree T x.1 w then dfs T (T 0 2).toNat k b (xT T x w) (pre ++ [w]) else b) w b) (xT T x w) (pre ++ [w]) else lpN (fun w b => if aFree T x.1 w then dfs T (T 0 2).toNat k b (xT T x w) (pre ++ [w]) else b) w b) len
        rw [if_pos c]
        exact i2
      · have g := b2i_0.mpr (fun u => u (mi.mpr (by
          cases hb : (aMask T x.1 (T 0 2).toNat).testBit w with
          | false => rfl
          | true => exact absurd (mb'.mp hb).2 c)) : ¬ ¬ (iI ((aMask T x.1 (T 0 2).toNat : Nat) : Int) >>> (iI (w : Int) &&& 31)) &&& 1 = 0)
        rw [if_pos g, if_pos g]
        refine ⟨trivial, trivial, D, rfl, ?_, fun v hv hf => ?_, k3⟩
        · show KR D (if aFree T x.1 w then dfs T (T 0 2).toNat k (lpN (fun w b => if aFree T x.1 w then dfs T (T 0 2).toNat k b (xT T x w) (pre ++ [w]) else b) w b) (xT T x w) (pre ++ [w]) else lpN (fun w b => if aFree T x.1 w then dfs T (T 0 2).toNat k b (xT T x w) (pre ++ [w]) else b) w b) len
          rw [if_neg c]
          exact k1
        · have : v ≠ w := fun e => c (by rw [← e]; exact hf)
          exact k2 v (by omega) hf
    have key : ∀ w, w ≤ (T 0 2).toNat → ∃ D, l_X2_searchFrom_3_36 (iI ((aMask T x.1 (T 0 2).toNat : Nat) : Int)) (M, 0) w = (D, iI (w : Int)) ∧ KR D (lpN (fun w b => if aFree T x.1 w then dfs T (T 0 2).toNat k b (xT T x w) (pre ++ [w]) else b) w b) len ∧ (∀ v, v < w → aFree T x.1 v → D.1 510 5 = 1) ∧ Fq (fun a j => (a = 510 ∧ 5 ≤ j ∧ j ≤ 9) ∨ (a = 512 ∧ 3 ≤ j ∧ j < 6) ∨ (1070 ≤ a ∧ a ≤ 1099)) M D := by
      intro w
      induction w with
      | zero => intro _; exact ⟨M, rfl, hB, fun v hv => absurd hv (Nat.not_lt_zero v), Fq.rf⟩
      | succ w ih =>
        intro hw
        obtain ⟨D, d1, d2, d3, d4⟩ := ih (by omega)
        obtain ⟨-, -, D', g1, g2⟩ := step w D (by omega) d2 d3 d4
        refine ⟨D', ?_, g2⟩
        show s_X2_searchFrom_3_36 (iI ((aMask T x.1 (T 0 2).toNat : Nat) : Int)) (l_X2_searchFrom_3_36 (iI ((aMask T x.1 (T 0 2).toNat : Nat) : Int)) (M, 0) w) = _
        rw [d1]; exact g1
    obtain ⟨D, d1, d2, d3, d4⟩ := key _ (Nat.le_refl _)
    have w2 : D.1 100 2 = iI (T 0 2) := by rw [d4.1 _ _ (by omega)]; exact hT.1.2.2
    have e : (((T 0 2).toNat : Nat) : Int) = T 0 2 := by omega
    rw [e] at d1
    rw [d1]
    dsimp only
    have gE : D.1 100 2 ≤ iI (T 0 2) := by rw [w2]; exact Int32.le_refl _
    rw [if_pos gE, if_pos gE]
    obtain ⟨v, v1, v2⟩ := free_ex (T := T) (S := x.1) hI (by omega)
    refine ⟨⟨f1, fun k hk => ?_, fun k hk => ?_, ?_, trivial⟩, d2, d3 v v1 v2, d4⟩
    · obtain ⟨E, g1, g2, g3, g4⟩ := key k (by omega)
      rw [g1]
      exact (step k E hk g2 g3 g4).1
    · obtain ⟨E, g1, g2, g3, g4⟩ := key k (by omega)
      rw [g1]
      exact (step k E hk g2 g3 g4).2.1
    · unfold c_X2_searchFrom_3_36
      dsimp only
      rw [if_pos gE]
      exact fun h => h
theorem c_sf2 (hT : CT M 100 T) (hS : CSt M 1050 T x.1) (h5 : M.1 1050 5 = iI x.2.1) (h6 : M.1 1050 6 = iI x.2.2) (hI : InvT T) (hJ : InvS T x.1 (mb + 2000 * 2)) (hm : mb ≤ 700000) (hg : 0 ≤ x.2.1 ∧ x.2.1 ≤ 99 * 2) (hl : 0 ≤ x.2.2 ∧ x.2.2 ≤ 2) (hk : aOpn x.1 (T 0 2).toNat = k) (hd : 2 + k = len) (l6 : len ≤ 6) (hp : pre.length = 2) (h12 : ∀ i, i < 2 → M.1 512 i = iI ((toF pre i : Nat) : Int)) (hB : KR M b len) :
    p_X2_searchFrom_2 M ∧ KR (w_X2_searchFrom_2 M) (dfs T (T 0 2).toNat k b x pre) len ∧ (w_X2_searchFrom_2 M).1 510 5 = 1 ∧ Fq (fun a j => (a = 510 ∧ 5 ≤ j ∧ j ≤ 9) ∨ (a = 512 ∧ 2 ≤ j ∧ j < 6) ∨ (1060 ≤ a ∧ a ≤ 1099)) M (w_X2_searchFrom_2 M) := by
  have hc := hI.1
  have h4 : M.1 1050 4 = iI (x.1 4 0) := hS.2.2.2.2
  have b4 := hJ.2.2.2.2.1
  obtain ⟨f1, f2⟩ := c_may hT hS hI hJ
  have ml := aMask_lt T x.1 (T 0 2).toNat (by omega)
  have zk : (iI ((aMask T x.1 (T 0 2).toNat : Nat) : Int) = 0) ↔ aMask T x.1 (T 0 2).toNat = 0 := by rw [cl0, iI_eq (by omega) (by omega) (by omega) (by omega)]; omega
  unfold p_X2_searchFrom_2 w_X2_searchFrom_2
  rw [f2]
  cases k with
  | zero =>
    have z := zk.mpr (aMask_z _ (aOpn_z _ hk))
    rw [if_pos z, if_pos z]
    have ln : len = 2 := by omega
    have hB' : KR M b 2 := by rw [← ln]; exact hB
    obtain ⟨y1, y2, y3, y4⟩ := c_cmp (s := 1050) (len := 2) (o := pre) (x := x) (b := b) (by omega) h4 h5 h6 (by omega) (by omega) (by omega) (by omega) h12 hB'
    change p_X2_compare M 1050 2 at y1
    change KR (w_X2_compare M 1050 2) _ _ at y2
    change (w_X2_compare M 1050 2).1 510 5 = 1 at y3
    change Fq _ M (w_X2_compare M 1050 2) at y4
    refine ⟨⟨f1, y1, trivial⟩, ?_, y3, y4.mono (fun a k h => by omega)⟩
    rw [ln]
    exact y2
  | succ k =>
    have ap := aMask_pos (T := T) (S := x.1) hI (by omega)
    have z : ¬ iI ((aMask T x.1 (T 0 2).toNat : Nat) : Int) = 0 := fun u => by have := zk.mp u; omega
    rw [if_neg z, if_neg z]
    have hN : Int32.toNatClampNeg (M.1 100 2) = (T 0 2).toNat := by rw [hT.1.2.2, iI_nat (by omega) (by omega)]
    rw [hN]
    have step : ∀ (w : Nat) (D : Mm), w < (T 0 2).toNat → KR D (lpN (fun w b => if aFree T x.1 w then dfs T (T 0 2).toNat k b (xT T x w) (pre ++ [w]) else b) w b) len → (∀ v, v < w → aFree T x.1 v → D.1 510 5 = 1) → Fq (fun a j => (a = 510 ∧ 5 ≤ j ∧ j ≤ 9) ∨ (a = 512 ∧ 2 ≤ j ∧ j < 6) ∨ (1060 ≤ a ∧ a ≤ 1099)) M D →
        c_X2_searchFrom_2_36 (iI ((aMask T x.1 (T 0 2).toNat : Nat) : Int)) (D, iI (w : Int)) ∧ q_X2_searchFrom_2_36 (iI ((aMask T x.1 (T 0 2).toNat : Nat) : Int)) (D, iI (w : Int)) ∧ ∃ D', s_X2_searchFrom_2_36 (iI ((aMask T x.1 (T 0 2).toNat : Nat) : Int)) (D, iI (w : Int)) = (D', iI ((w + 1 : Nat) : Int)) ∧ KR D' (lpN (fun w b => if aFree T x.1 w then dfs T (T 0 2).toNat k b (xT T x w) (pre ++ [w]) else b) (w + 1) b) len ∧ (∀ v, v < w + 1 → aFree T x.1 v → D'.1 510 5 = 1) ∧ Fq (fun a j => (a = 510 ∧ 5 ≤ j ∧ j ≤ 9) ∨ (a = 512 ∧ 2 ≤ j ∧ j < 6) ∨ (1060 ≤ a ∧ a ≤ 1099)) M D' := by
      intro w D hw k1 k2 k3
      have kT : CT D 100 T := hT.fq hI k3 (fun a k h1 h2 => by omega)
      have kS : CSt D 1050 T x.1 := hS.fq k3 (fun a k h1 h2 => by omega)
      have k5 : D.1 1050 5 = iI x.2.1 := by rw [k3.1 _ _ (by omega)]; exact h5
      have k6 : D.1 1050 6 = iI x.2.2 := by rw [k3.1 _ _ (by omega)]; exact h6
      have hlt : ¬ D.1 100 2 ≤ iI (w : Int) := by rw [kT.1.2.2, iI_le (by omega) (by omega) (by omega) (by omega)]; omega
      have mi := msk_in (aMask T x.1 (T 0 2).toNat) ml w (by omega)
      have mb' := aMask_bit T x.1 (T 0 2).toNat (by omega) w (by omega)
      unfold c_X2_searchFrom_2_36 q_X2_searchFrom_2_36 s_X2_searchFrom_2_36
      dsimp only
      rw [if_neg hlt, if_neg hlt, if_neg hlt, k1_iI]
      by_cases c : aFree T x.1 w
      · have g : ¬ b2i (¬ (iI ((aMask T x.1 (T 0 2).toNat : Nat) : Int) >>> (iI (w : Int) &&& 31)) &&& 1 = 0) = 0 := b2i_1.mpr (fun u => by
          have := mi.mp u
          rw [mb'.mpr ⟨hw, c⟩] at this
          exact absurd this (by decide))
        rw [if_neg g, if_neg g]
        have F1 : Fq (fun a j => (a = 510 ∧ 5 ≤ j ∧ j ≤ 9) ∨ (a = 512 ∧ 2 ≤ j ∧ j < 6) ∨ (1060 ≤ a ∧ a ≤ 1099)) D (wi D 512 2 (iI (w : Int))) := Fq.wi Fq.rf (by omega)
        obtain ⟨t1, t2, t3, t4⟩ := c_take (A := wi D 512 2 (iI (w : Int))) (s := 1060) (s1 := 1050) (Or.inr (by omega)) hI (kS.fq F1 (fun a k h1 h2 => by omega))
        rw [F1.1 _ _ (by omega), k5] at t2
        rw [F1.1 _ _ (by omega), k6] at t3
        have e12 : ∀ i, i < 3 → (w_X3_take (wi D 512 2 (iI (w : Int))) 1060 1050).1 512 i = iI ((toF (pre ++ [w]) i : Nat) : Int) := fun i hi => by
          rw [t4.at (by omega)]
          by_cases q : i = 2
          · rw [q, rd_same, toF_a.2 hp.symm]
          · rw [rd_ne (Or.inr q), k3.1 _ _ (by omega), toF_a.1 (by omega)]
            exact h12 i (by omega)
        have F2 : Fq (fun a j => (a = 510 ∧ 5 ≤ j ∧ j ≤ 9) ∨ (a = 512 ∧ 2 ≤ j ∧ j < 6) ∨ (1060 ≤ a ∧ a ≤ 1099)) D (w_X3_take (wi D 512 2 (iI (w : Int))) 1060 1050) := F1.tr (t4.q (fun a k h => by omega) (fun a h => by omega))
        have F2' : Fq (fun a j => (a = 512) ∨ (1060 ≤ a ∧ a ≤ 1099)) D (w_X3_take (wi D 512 2 (iI (w : Int))) 1060 1050) := (Fq.wi Fq.rf (by omega)).tr (t4.q (fun a k h => by omega) (fun a h => by omega))
        generalize w_X3_take (wi D 512 2 (iI (w : Int))) 1060 1050 = D2 at t1 t2 t3 e12 F2 F2' ⊢
        obtain ⟨r1, r2, r3, r4, r5, r6⟩ := c_carry (s := 1060) (by omega) (kT.fq hI F2 (fun a k h1 h2 => by omega)) t1 t2 t3 hI hJ (by omega) (w := w) (by omega) c.2
        have F3 : Fq (fun a j => (a = 510 ∧ 5 ≤ j ∧ j ≤ 9) ∨ (a = 512 ∧ 2 ≤ j ∧ j < 6) ∨ (1060 ≤ a ∧ a ≤ 1099)) D (w_X5_carryOut D2 1060 (iI (w : Int))) := F2.tr (r6.q (fun a k h => by omega) (fun a h => by omega))
        have F3' : Fq (fun a j => (a = 512) ∨ (1060 ≤ a ∧ a ≤ 1099)) D (w_X5_carryOut D2 1060 (iI (w : Int))) := F2'.tr (r6.q (fun a k h => by omega) (fun a h => by omega))
        have e12' : ∀ i, i < 3 → (w_X5_carryOut D2 1060 (iI (w : Int))).1 512 i = iI ((toF (pre ++ [w]) i : Nat) : Int) := fun i hi => by rw [r6.at (by omega)]; exact e12 i hi
        have wb := aWorth_b (S := x.1) hI (w := w) (by omega)
        have lb := aLate_b (T := T) (S := x.1) (w := w)
        have ot := (aOpn_turn (T := T) c.1 (T 0 2).toNat).2 hw
        obtain ⟨i1, i2, i3, i4⟩ := c_sf3 (M := w_X5_carryOut D2 1060 (iI (w : Int))) (x := xT T x w) (pre := pre ++ [w]) (b := lpN (fun w b => if aFree T x.1 w then dfs T (T 0 2).toNat k b (xT T x w) (pre ++ [w]) else b) w b) (k := k) (len := len) (mb := mb) (kT.fq hI F3 (fun a k h1 h2 => by omega)) r3 r4 r5 hI ((InvS.turn hI hJ (w := w) (by omega) (by omega)).mono (by omega) (by omega)) hm ⟨by show 0 ≤ x.2.1 + aWorth T x.1 w; omega, by show x.2.1 + aWorth T x.1 w ≤ 99 * 3; omega⟩ ⟨by show 0 ≤ x.2.2 + aLate T x.1 w; omega, by show x.2.2 + aLate T x.1 w ≤ 3; omega⟩ (by show aOpn (aTurn T x.1 w) (T 0 2).toNat = k; omega) (by omega) l6 (by rw [List.length_append, hp]; rfl) e12' (k1.fq F3' (fun k h1 h2 => by omega))
        refine ⟨trivial, ⟨r1, i1, trivial⟩, _, rfl, ?_, fun v _ _ => i3, (k3.tr F3).tr (i4.mono (fun a k h => by omega))⟩
        show KR _ (if aFree T x.1 w then dfs T (T 0 2).toNat k (lpN (fun w b => if aFree T x.1 w then dfs T (T 0 2).toNat k b (xT T x w) (pre ++ [w]) else b) w b) (xT T x w) (pre ++ [w]) else lpN (fun w b => if aFree T x.1 w then dfs T (T 0 2).toNat k b (xT T x w) (pre ++ [w]) else b) w b) len
        rw [if_pos c]
        exact i2
      · have g := b2i_0.mpr (fun u => u (mi.mpr (by
          cases hb : (aMask T x.1 (T 0 2).toNat).testBit w with
          | false => rfl
          | true => exact absurd (mb'.mp hb).2 c)) : ¬ ¬ (iI ((aMask T x.1 (T 0 2).toNat : Nat) : Int) >>> (iI (w : Int) &&& 31)) &&& 1 = 0)
        rw [if_pos g, if_pos g]
        refine ⟨trivial, trivial, D, rfl, ?_, fun v hv hf => ?_, k3⟩
        · show KR D (if aFree T x.1 w then dfs T (T 0 2).toNat k (lpN (fun w b => if aFree T x.1 w then dfs T (T 0 2).toNat k b (xT T x w) (pre ++ [w]) else b) w b) (xT T x w) (pre ++ [w]) else lpN (fun w b => if aFree T x.1 w then dfs T (T 0 2).toNat k b (xT T x w) (pre ++ [w]) else b) w b) len
          rw [if_neg c]
          exact k1
        · have : v ≠ w := fun e => c (by rw [← e]; exact hf)
          exact k2 v (by omega) hf
    have key : ∀ w, w ≤ (T 0 2).toNat → ∃ D, l_X2_searchFrom_2_36 (iI ((aMask T x.1 (T 0 2).toNat : Nat) : Int)) (M, 0) w = (D, iI (w : Int)) ∧ KR D (lpN (fun w b => if aFree T x.1 w then dfs T (T 0 2).toNat k b (xT T x w) (pre ++ [w]) else b) w b) len ∧ (∀ v, v < w → aFree T x.1 v → D.1 510 5 = 1) ∧ Fq (fun a j => (a = 510 ∧ 5 ≤ j ∧ j ≤ 9) ∨ (a = 512 ∧ 2 ≤ j ∧ j < 6) ∨ (1060 ≤ a ∧ a ≤ 1099)) M D := by
      intro w
      induction w with
      | zero => intro _; exact ⟨M, rfl, hB, fun v hv => absurd hv (Nat.not_lt_zero v), Fq.rf⟩
      | succ w ih =>
        intro hw
        obtain ⟨D, d1, d2, d3, d4⟩ := ih (by omega)
        obtain ⟨-, -, D', g1, g2⟩ := step w D (by omega) d2 d3 d4
        refine ⟨D', ?_, g2⟩
        show s_X2_searchFrom_2_36 (iI ((aMask T x.1 (T 0 2).toNat : Nat) : Int)) (l_X2_searchFrom_2_36 (iI ((aMask T x.1 (T 0 2).toNat : Nat) : Int)) (M, 0) w) = _
        rw [d1]; exact g1
    obtain ⟨D, d1, d2, d3, d4⟩ := key _ (Nat.le_refl _)
    have w2 : D.1 100 2 = iI (T 0 2) := by rw [d4.1 _ _ (by omega)]; exact hT.1.2.2
    have e : (((T 0 2).toNat : Nat) : Int) = T 0 2 := by omega
    rw [e] at d1
    rw [d1]
    dsimp only
    have gE : D.1 100 2 ≤ iI (T 0 2) := by rw [w2]; exact Int32.le_refl _
    rw [if_pos gE, if_pos gE]
    obtain ⟨v, v1, v2⟩ := free_ex (T := T) (S := x.1) hI (by omega)
    refine ⟨⟨f1, fun k hk => ?_, fun k hk => ?_, ?_, trivial⟩, d2, d3 v v1 v2, d4⟩
    · obtain ⟨E, g1, g2, g3, g4⟩ := key k (by omega)
      rw [g1]
      exact (step k E hk g2 g3 g4).1
    · obtain ⟨E, g1, g2, g3, g4⟩ := key k (by omega)
      rw [g1]
      exact (step k E hk g2 g3 g4).2.1
    · unfold c_X2_searchFrom_2_36
      dsimp only
      rw [if_pos gE]
      exact fun h => h
theorem c_sf1 (hT : CT M 100 T) (hS : CSt M 1040 T x.1) (h5 : M.1 1040 5 = iI x.2.1) (h6 : M.1 1040 6 = iI x.2.2) (hI : InvT T) (hJ : InvS T x.1 (mb + 2000 * 1)) (hm : mb ≤ 700000) (hg : 0 ≤ x.2.1 ∧ x.2.1 ≤ 99 * 1) (hl : 0 ≤ x.2.2 ∧ x.2.2 ≤ 1) (hk : aOpn x.1 (T 0 2).toNat = k) (hd : 1 + k = len) (l6 : len ≤ 6) (hp : pre.length = 1) (h12 : ∀ i, i < 1 → M.1 512 i = iI ((toF pre i : Nat) : Int)) (hB : KR M b len) :
    p_X2_searchFrom_1 M ∧ KR (w_X2_searchFrom_1 M) (dfs T (T 0 2).toNat k b x pre) len ∧ (w_X2_searchFrom_1 M).1 510 5 = 1 ∧ Fq (fun a j => (a = 510 ∧ 5 ≤ j ∧ j ≤ 9) ∨ (a = 512 ∧ 1 ≤ j ∧ j < 6) ∨ (1050 ≤ a ∧ a ≤ 1099)) M (w_X2_searchFrom_1 M) := by
  have hc := hI.1
  have h4 : M.1 1040 4 = iI (x.1 4 0) := hS.2.2.2.2
  have b4 := hJ.2.2.2.2.1
  obtain ⟨f1, f2⟩ := c_may hT hS hI hJ
  have ml := aMask_lt T x.1 (T 0 2).toNat (by omega)
  have zk : (iI ((aMask T x.1 (T 0 2).toNat : Nat) : Int) = 0) ↔ aMask T x.1 (T 0 2).toNat = 0 := by rw [cl0, iI_eq (by omega) (by omega) (by omega) (by omega)]; omega
  unfold p_X2_searchFrom_1 w_X2_searchFrom_1
  rw [f2]
  cases k with
  | zero =>
    have z := zk.mpr (aMask_z _ (aOpn_z _ hk))
    rw [if_pos z, if_pos z]
    have ln : len = 1 := by omega
    have hB' : KR M b 1 := by rw [← ln]; exact hB
    obtain ⟨y1, y2, y3, y4⟩ := c_cmp (s := 1040) (len := 1) (o := pre) (x := x) (b := b) (by omega) h4 h5 h6 (by omega) (by omega) (by omega) (by omega) h12 hB'
    change p_X2_compare M 1040 1 at y1
    change KR (w_X2_compare M 1040 1) _ _ at y2
    change (w_X2_compare M 1040 1).1 510 5 = 1 at y3
    change Fq _ M (w_X2_compare M 1040 1) at y4
    refine ⟨⟨f1, y1, trivial⟩, ?_, y3, y4.mono (fun a k h => by omega)⟩
    rw [ln]
    exact y2
  | succ k =>
    have ap := aMask_pos (T := T) (S := x.1) hI (by omega)
    have z : ¬ iI ((aMask T x.1 (T 0 2).toNat : Nat) : Int) = 0 := fun u => by have := zk.mp u; omega
    rw [if_neg z, if_neg z]
    have hN : Int32.toNatClampNeg (M.1 100 2) = (T 0 2).toNat := by rw [hT.1.2.2, iI_nat (by omega) (by omega)]
    rw [hN]
    have step : ∀ (w : Nat) (D : Mm), w < (T 0 2).toNat → KR D (lpN (fun w b => if aFree T x.1 w then dfs T (T 0 2).toNat k b (xT T x w) (pre ++ [w]) else b) w b) len → (∀ v, v < w → aFree T x.1 v → D.1 510 5 = 1) → Fq (fun a j => (a = 510 ∧ 5 ≤ j ∧ j ≤ 9) ∨ (a = 512 ∧ 1 ≤ j ∧ j < 6) ∨ (1050 ≤ a ∧ a ≤ 1099)) M D →
        c_X2_searchFrom_1_36 (iI ((aMask T x.1 (T 0 2).toNat : Nat) : Int)) (D, iI (w : Int)) ∧ q_X2_searchFrom_1_36 (iI ((aMask T x.1 (T 0 2).toNat : Nat) : Int)) (D, iI (w : Int)) ∧ ∃ D', s_X2_searchFrom_1_36 (iI ((aMask T x.1 (T 0 2).toNat : Nat) : Int)) (D, iI (w : Int)) = (D', iI ((w + 1 : Nat) : Int)) ∧ KR D' (lpN (fun w b => if aFree T x.1 w then dfs T (T 0 2).toNat k b (xT T x w) (pre ++ [w]) else b) (w + 1) b) len ∧ (∀ v, v < w + 1 → aFree T x.1 v → D'.1 510 5 = 1) ∧ Fq (fun a j => (a = 510 ∧ 5 ≤ j ∧ j ≤ 9) ∨ (a = 512 ∧ 1 ≤ j ∧ j < 6) ∨ (1050 ≤ a ∧ a ≤ 1099)) M D' := by
      intro w D hw k1 k2 k3
      have kT : CT D 100 T := hT.fq hI k3 (fun a k h1 h2 => by omega)
      have kS : CSt D 1040 T x.1 := hS.fq k3 (fun a k h1 h2 => by omega)
      have k5 : D.1 1040 5 = iI x.2.1 := by rw [k3.1 _ _ (by omega)]; exact h5
      have k6 : D.1 1040 6 = iI x.2.2 := by rw [k3.1 _ _ (by omega)]; exact h6
      have hlt : ¬ D.1 100 2 ≤ iI (w : Int) := by rw [kT.1.2.2, iI_le (by omega) (by omega) (by omega) (by omega)]; omega
      have mi := msk_in (aMask T x.1 (T 0 2).toNat) ml w (by omega)
      have mb' := aMask_bit T x.1 (T 0 2).toNat (by omega) w (by omega)
      unfold c_X2_searchFrom_1_36 q_X2_searchFrom_1_36 s_X2_searchFrom_1_36
      dsimp only
      rw [if_neg hlt, if_neg hlt, if_neg hlt, k1_iI]
      by_cases c : aFree T x.1 w
      · have g : ¬ b2i (¬ (iI ((aMask T x.1 (T 0 2).toNat : Nat) : Int) >>> (iI (w : Int) &&& 31)) &&& 1 = 0) = 0 := b2i_1.mpr (fun u => by
          have := mi.mp u
          rw [mb'.mpr ⟨hw, c⟩] at this
          exact absurd this (by decide))
        rw [if_neg g, if_neg g]
        have F1 : Fq (fun a j => (a = 510 ∧ 5 ≤ j ∧ j ≤ 9) ∨ (a = 512 ∧ 1 ≤ j ∧ j < 6) ∨ (1050 ≤ a ∧ a ≤ 1099)) D (wi D 512 1 (iI (w : Int))) := Fq.wi Fq.rf (by omega)
        obtain ⟨t1, t2, t3, t4⟩ := c_take (A := wi D 512 1 (iI (w : Int))) (s := 1050) (s1 := 1040) (Or.inr (by omega)) hI (kS.fq F1 (fun a k h1 h2 => by omega))
        rw [F1.1 _ _ (by omega), k5] at t2
        rw [F1.1 _ _ (by omega), k6] at t3
        have e12 : ∀ i, i < 2 → (w_X3_take (wi D 512 1 (iI (w : Int))) 1050 1040).1 512 i = iI ((toF (pre ++ [w]) i : Nat) : Int) := fun i hi => by
          rw [t4.at (by omega)]
          by_cases q : i = 1
          · rw [q, rd_same, toF_a.2 hp.symm]
          · rw [rd_ne (Or.inr q), k3.1 _ _ (by omega), toF_a.1 (by omega)]
            exact h12 i (by omega)
        have F2 : Fq (fun a j => (a = 510 ∧ 5 ≤ j ∧ j ≤ 9) ∨ (a = 512 ∧ 1 ≤ j ∧ j < 6) ∨ (1050 ≤ a ∧ a ≤ 1099)) D (w_X3_take (wi D 512 1 (iI (w : Int))) 1050 1040) := F1.tr (t4.q (fun a k h => by omega) (fun a h => by omega))
        have F2' : Fq (fun a j => (a = 512) ∨ (1050 ≤ a ∧ a ≤ 1099)) D (w_X3_take (wi D 512 1 (iI (w : Int))) 1050 1040) := (Fq.wi Fq.rf (by omega)).tr (t4.q (fun a k h => by omega) (fun a h => by omega))
        generalize w_X3_take (wi D 512 1 (iI (w : Int))) 1050 1040 = D2 at t1 t2 t3 e12 F2 F2' ⊢
        obtain ⟨r1, r2, r3, r4, r5, r6⟩ := c_carry (s := 1050) (by omega) (kT.fq hI F2 (fun a k h1 h2 => by omega)) t1 t2 t3 hI hJ (by omega) (w := w) (by omega) c.2
        have F3 : Fq (fun a j => (a = 510 ∧ 5 ≤ j ∧ j ≤ 9) ∨ (a = 512 ∧ 1 ≤ j ∧ j < 6) ∨ (1050 ≤ a ∧ a ≤ 1099)) D (w_X5_carryOut D2 1050 (iI (w : Int))) := F2.tr (r6.q (fun a k h => by omega) (fun a h => by omega))
        have F3' : Fq (fun a j => (a = 512) ∨ (1050 ≤ a ∧ a ≤ 1099)) D (w_X5_carryOut D2 1050 (iI (w : Int))) := F2'.tr (r6.q (fun a k h => by omega) (fun a h => by omega))
        have e12' : ∀ i, i < 2 → (w_X5_carryOut D2 1050 (iI (w : Int))).1 512 i = iI ((toF (pre ++ [w]) i : Nat) : Int) := fun i hi => by rw [r6.at (by omega)]; exact e12 i hi
        have wb := aWorth_b (S := x.1) hI (w := w) (by omega)
        have lb := aLate_b (T := T) (S := x.1) (w := w)
        have ot := (aOpn_turn (T := T) c.1 (T 0 2).toNat).2 hw
        obtain ⟨i1, i2, i3, i4⟩ := c_sf2 (M := w_X5_carryOut D2 1050 (iI (w : Int))) (x := xT T x w) (pre := pre ++ [w]) (b := lpN (fun w b => if aFree T x.1 w then dfs T (T 0 2).toNat k b (xT T x w) (pre ++ [w]) else b) w b) (k := k) (len := len) (mb := mb) (kT.fq hI F3 (fun a k h1 h2 => by omega)) r3 r4 r5 hI ((InvS.turn hI hJ (w := w) (by omega) (by omega)).mono (by omega) (by omega)) hm ⟨by show 0 ≤ x.2.1 + aWorth T x.1 w; omega, by show x.2.1 + aWorth T x.1 w ≤ 99 * 2; omega⟩ ⟨by show 0 ≤ x.2.2 + aLate T x.1 w; omega, by show x.2.2 + aLate T x.1 w ≤ 2; omega⟩ (by show aOpn (aTurn T x.1 w) (T 0 2).toNat = k; omega) (by omega) l6 (by rw [List.length_append, hp]; rfl) e12' (k1.fq F3' (fun k h1 h2 => by omega))
        refine ⟨trivial, ⟨r1, i1, trivial⟩, _, rfl, ?_, fun v _ _ => i3, (k3.tr F3).tr (i4.mono (fun a k h => by omega))⟩
        show KR _ (if aFree T x.1 w then dfs T (T 0 2).toNat k (lpN (fun w b => if aFree T x.1 w then dfs T (T 0 2).toNat k b (xT T x w) (pre ++ [w]) else b) w b) (xT T x w) (pre ++ [w]) else lpN (fun w b => if aFree T x.1 w then dfs T (T 0 2).toNat k b (xT T x w) (pre ++ [w]) else b) w b) len
        rw [if_pos c]
        exact i2
      · have g := b2i_0.mpr (fun u => u (mi.mpr (by
          cases hb : (aMask T x.1 (T 0 2).toNat).testBit w with
          | false => rfl
          | true => exact absurd (mb'.mp hb).2 c)) : ¬ ¬ (iI ((aMask T x.1 (T 0 2).toNat : Nat) : Int) >>> (iI (w : Int) &&& 31)) &&& 1 = 0)
        rw [if_pos g, if_pos g]
        refine ⟨trivial, trivial, D, rfl, ?_, fun v hv hf => ?_, k3⟩
        · show KR D (if aFree T x.1 w then dfs T (T 0 2).toNat k (lpN (fun w b => if aFree T x.1 w then dfs T (T 0 2).toNat k b (xT T x w) (pre ++ [w]) else b) w b) (xT T x w) (pre ++ [w]) else lpN (fun w b => if aFree T x.1 w then dfs T (T 0 2).toNat k b (xT T x w) (pre ++ [w]) else b) w b) len
          rw [if_neg c]
          exact k1
        · have : v ≠ w := fun e => c (by rw [← e]; exact hf)
          exact k2 v (by omega) hf
    have key : ∀ w, w ≤ (T 0 2).toNat → ∃ D, l_X2_searchFrom_1_36 (iI ((aMask T x.1 (T 0 2).toNat : Nat) : Int)) (M, 0) w = (D, iI (w : Int)) ∧ KR D (lpN (fun w b => if aFree T x.1 w then dfs T (T 0 2).toNat k b (xT T x w) (pre ++ [w]) else b) w b) len ∧ (∀ v, v < w → aFree T x.1 v → D.1 510 5 = 1) ∧ Fq (fun a j => (a = 510 ∧ 5 ≤ j ∧ j ≤ 9) ∨ (a = 512 ∧ 1 ≤ j ∧ j < 6) ∨ (1050 ≤ a ∧ a ≤ 1099)) M D := by
      intro w
      induction w with
      | zero => intro _; exact ⟨M, rfl, hB, fun v hv => absurd hv (Nat.not_lt_zero v), Fq.rf⟩
      | succ w ih =>
        intro hw
        obtain ⟨D, d1, d2, d3, d4⟩ := ih (by omega)
        obtain ⟨-, -, D', g1, g2⟩ := step w D (by omega) d2 d3 d4
        refine ⟨D', ?_, g2⟩
        show s_X2_searchFrom_1_36 (iI ((aMask T x.1 (T 0 2).toNat : Nat) : Int)) (l_X2_searchFrom_1_36 (iI ((aMask T x.1 (T 0 2).toNat : Nat) : Int)) (M, 0) w) = _
        rw [d1]; exact g1
    obtain ⟨D, d1, d2, d3, d4⟩ := key _ (Nat.le_refl _)
    have w2 : D.1 100 2 = iI (T 0 2) := by rw [d4.1 _ _ (by omega)]; exact hT.1.2.2
    have e : (((T 0 2).toNat : Nat) : Int) = T 0 2 := by omega
    rw [e] at d1
    rw [d1]
    dsimp only
    have gE : D.1 100 2 ≤ iI (T 0 2) := by rw [w2]; exact Int32.le_refl _
    rw [if_pos gE, if_pos gE]
    obtain ⟨v, v1, v2⟩ := free_ex (T := T) (S := x.1) hI (by omega)
    refine ⟨⟨f1, fun k hk => ?_, fun k hk => ?_, ?_, trivial⟩, d2, d3 v v1 v2, d4⟩
    · obtain ⟨E, g1, g2, g3, g4⟩ := key k (by omega)
      rw [g1]
      exact (step k E hk g2 g3 g4).1
    · obtain ⟨E, g1, g2, g3, g4⟩ := key k (by omega)
      rw [g1]
      exact (step k E hk g2 g3 g4).2.1
    · unfold c_X2_searchFrom_1_36
      dsimp only
      rw [if_pos gE]
      exact fun h => h
theorem c_sf0 (hT : CT M 100 T) (hS : CSt M 1030 T x.1) (h5 : M.1 1030 5 = iI x.2.1) (h6 : M.1 1030 6 = iI x.2.2) (hI : InvT T) (hJ : InvS T x.1 (mb + 2000 * 0)) (hm : mb ≤ 700000) (hg : 0 ≤ x.2.1 ∧ x.2.1 ≤ 99 * 0) (hl : 0 ≤ x.2.2 ∧ x.2.2 ≤ 0) (hk : aOpn x.1 (T 0 2).toNat = k) (hd : 0 + k = len) (l6 : len ≤ 6) (hp : pre.length = 0) (h12 : ∀ i, i < 0 → M.1 512 i = iI ((toF pre i : Nat) : Int)) (hB : KR M b len) :
    p_X2_searchFrom_0 M ∧ KR (w_X2_searchFrom_0 M) (dfs T (T 0 2).toNat k b x pre) len ∧ (w_X2_searchFrom_0 M).1 510 5 = 1 ∧ Fq (fun a j => (a = 510 ∧ 5 ≤ j ∧ j ≤ 9) ∨ (a = 512 ∧ 0 ≤ j ∧ j < 6) ∨ (1040 ≤ a ∧ a ≤ 1099)) M (w_X2_searchFrom_0 M) := by
  have hc := hI.1
  have h4 : M.1 1030 4 = iI (x.1 4 0) := hS.2.2.2.2
  have b4 := hJ.2.2.2.2.1
  obtain ⟨f1, f2⟩ := c_may hT hS hI hJ
  have ml := aMask_lt T x.1 (T 0 2).toNat (by omega)
  have zk : (iI ((aMask T x.1 (T 0 2).toNat : Nat) : Int) = 0) ↔ aMask T x.1 (T 0 2).toNat = 0 := by rw [cl0, iI_eq (by omega) (by omega) (by omega) (by omega)]; omega
  unfold p_X2_searchFrom_0 w_X2_searchFrom_0
  rw [f2]
  cases k with
  | zero =>
    have z := zk.mpr (aMask_z _ (aOpn_z _ hk))
    rw [if_pos z, if_pos z]
    have ln : len = 0 := by omega
    have hB' : KR M b 0 := by rw [← ln]; exact hB
    obtain ⟨y1, y2, y3, y4⟩ := c_cmp (s := 1030) (len := 0) (o := pre) (x := x) (b := b) (by omega) h4 h5 h6 (by omega) (by omega) (by omega) (by omega) h12 hB'
    change p_X2_compare M 1030 0 at y1
    change KR (w_X2_compare M 1030 0) _ _ at y2
    change (w_X2_compare M 1030 0).1 510 5 = 1 at y3
    change Fq _ M (w_X2_compare M 1030 0) at y4
    refine ⟨⟨f1, y1, trivial⟩, ?_, y3, y4.mono (fun a k h => by omega)⟩
    rw [ln]
    exact y2
  | succ k =>
    have ap := aMask_pos (T := T) (S := x.1) hI (by omega)
    have z : ¬ iI ((aMask T x.1 (T 0 2).toNat : Nat) : Int) = 0 := fun u => by have := zk.mp u; omega
    rw [if_neg z, if_neg z]
    have hN : Int32.toNatClampNeg (M.1 100 2) = (T 0 2).toNat := by rw [hT.1.2.2, iI_nat (by omega) (by omega)]
    rw [hN]
    have step : ∀ (w : Nat) (D : Mm), w < (T 0 2).toNat → KR D (lpN (fun w b => if aFree T x.1 w then dfs T (T 0 2).toNat k b (xT T x w) (pre ++ [w]) else b) w b) len → (∀ v, v < w → aFree T x.1 v → D.1 510 5 = 1) → Fq (fun a j => (a = 510 ∧ 5 ≤ j ∧ j ≤ 9) ∨ (a = 512 ∧ 0 ≤ j ∧ j < 6) ∨ (1040 ≤ a ∧ a ≤ 1099)) M D →
        c_X2_searchFrom_0_36 (iI ((aMask T x.1 (T 0 2).toNat : Nat) : Int)) (D, iI (w : Int)) ∧ q_X2_searchFrom_0_36 (iI ((aMask T x.1 (T 0 2).toNat : Nat) : Int)) (D, iI (w : Int)) ∧ ∃ D', s_X2_searchFrom_0_36 (iI ((aMask T x.1 (T 0 2).toNat : Nat) : Int)) (D, iI (w : Int)) = (D', iI ((w + 1 : Nat) : Int)) ∧ KR D' (lpN (fun w b => if aFree T x.1 w then dfs T (T 0 2).toNat k b (xT T x w) (pre ++ [w]) else b) (w + 1) b) len ∧ (∀ v, v < w + 1 → aFree T x.1 v → D'.1 510 5 = 1) ∧ Fq (fun a j => (a = 510 ∧ 5 ≤ j ∧ j ≤ 9) ∨ (a = 512 ∧ 0 ≤ j ∧ j < 6) ∨ (1040 ≤ a ∧ a ≤ 1099)) M D' := by
      intro w D hw k1 k2 k3
      have kT : CT D 100 T := hT.fq hI k3 (fun a k h1 h2 => by omega)
      have kS : CSt D 1030 T x.1 := hS.fq k3 (fun a k h1 h2 => by omega)
      have k5 : D.1 1030 5 = iI x.2.1 := by rw [k3.1 _ _ (by omega)]; exact h5
      have k6 : D.1 1030 6 = iI x.2.2 := by rw [k3.1 _ _ (by omega)]; exact h6
      have hlt : ¬ D.1 100 2 ≤ iI (w : Int) := by rw [kT.1.2.2, iI_le (by omega) (by omega) (by omega) (by omega)]; omega
      have mi := msk_in (aMask T x.1 (T 0 2).toNat) ml w (by omega)
      have mb' := aMask_bit T x.1 (T 0 2).toNat (by omega) w (by omega)
      unfold c_X2_searchFrom_0_36 q_X2_searchFrom_0_36 s_X2_searchFrom_0_36
      dsimp only
      rw [if_neg hlt, if_neg hlt, if_neg hlt, k1_iI]
      by_cases c : aFree T x.1 w
      · have g : ¬ b2i (¬ (iI ((aMask T x.1 (T 0 2).toNat : Nat) : Int) >>> (iI (w : Int) &&& 31)) &&& 1 = 0) = 0 := b2i_1.mpr (fun u => by
          have := mi.mp u
          rw [mb'.mpr ⟨hw, c⟩] at this
          exact absurd this (by decide))
        rw [if_neg g, if_neg g]
        have F1 : Fq (fun a j => (a = 510 ∧ 5 ≤ j ∧ j ≤ 9) ∨ (a = 512 ∧ 0 ≤ j ∧ j < 6) ∨ (1040 ≤ a ∧ a ≤ 1099)) D (wi D 512 0 (iI (w : Int))) := Fq.wi Fq.rf (by omega)
        obtain ⟨t1, t2, t3, t4⟩ := c_take (A := wi D 512 0 (iI (w : Int))) (s := 1040) (s1 := 1030) (Or.inr (by omega)) hI (kS.fq F1 (fun a k h1 h2 => by omega))
        rw [F1.1 _ _ (by omega), k5] at t2
        rw [F1.1 _ _ (by omega), k6] at t3
        have e12 : ∀ i, i < 1 → (w_X3_take (wi D 512 0 (iI (w : Int))) 1040 1030).1 512 i = iI ((toF (pre ++ [w]) i : Nat) : Int) := fun i hi => by
          rw [t4.at (by omega)]
          by_cases q : i = 0
          · rw [q, rd_same, toF_a.2 hp.symm]
          · rw [rd_ne (Or.inr q), k3.1 _ _ (by omega), toF_a.1 (by omega)]
            exact h12 i (by omega)
        have F2 : Fq (fun a j => (a = 510 ∧ 5 ≤ j ∧ j ≤ 9) ∨ (a = 512 ∧ 0 ≤ j ∧ j < 6) ∨ (1040 ≤ a ∧ a ≤ 1099)) D (w_X3_take (wi D 512 0 (iI (w : Int))) 1040 1030) := F1.tr (t4.q (fun a k h => by omega) (fun a h => by omega))
        have F2' : Fq (fun a j => (a = 512) ∨ (1040 ≤ a ∧ a ≤ 1099)) D (w_X3_take (wi D 512 0 (iI (w : Int))) 1040 1030) := (Fq.wi Fq.rf (by omega)).tr (t4.q (fun a k h => by omega) (fun a h => by omega))
        generalize w_X3_take (wi D 512 0 (iI (w : Int))) 1040 1030 = D2 at t1 t2 t3 e12 F2 F2' ⊢
        obtain ⟨r1, r2, r3, r4, r5, r6⟩ := c_carry (s := 1040) (by omega) (kT.fq hI F2 (fun a k h1 h2 => by omega)) t1 t2 t3 hI hJ (by omega) (w := w) (by omega) c.2
        have F3 : Fq (fun a j => (a = 510 ∧ 5 ≤ j ∧ j ≤ 9) ∨ (a = 512 ∧ 0 ≤ j ∧ j < 6) ∨ (1040 ≤ a ∧ a ≤ 1099)) D (w_X5_carryOut D2 1040 (iI (w : Int))) := F2.tr (r6.q (fun a k h => by omega) (fun a h => by omega))
        have F3' : Fq (fun a j => (a = 512) ∨ (1040 ≤ a ∧ a ≤ 1099)) D (w_X5_carryOut D2 1040 (iI (w : Int))) := F2'.tr (r6.q (fun a k h => by omega) (fun a h => by omega))
        have e12' : ∀ i, i < 1 → (w_X5_carryOut D2 1040 (iI (w : Int))).1 512 i = iI ((toF (pre ++ [w]) i : Nat) : Int) := fun i hi => by rw [r6.at (by omega)]; exact e12 i hi
        have wb := aWorth_b (S := x.1) hI (w := w) (by omega)
        have lb := aLate_b (T := T) (S := x.1) (w := w)
        have ot := (aOpn_turn (T := T) c.1 (T 0 2).toNat).2 hw
        obtain ⟨i1, i2, i3, i4⟩ := c_sf1 (M := w_X5_carryOut D2 1040 (iI (w : Int))) (x := xT T x w) (pre := pre ++ [w]) (b := lpN (fun w b => if aFree T x.1 w then dfs T (T 0 2).toNat k b (xT T x w) (pre ++ [w]) else b) w b) (k := k) (len := len) (mb := mb) (kT.fq hI F3 (fun a k h1 h2 => by omega)) r3 r4 r5 hI ((InvS.turn hI hJ (w := w) (by omega) (by omega)).mono (by omega) (by omega)) hm ⟨by show 0 ≤ x.2.1 + aWorth T x.1 w; omega, by show x.2.1 + aWorth T x.1 w ≤ 99 * 1; omega⟩ ⟨by show 0 ≤ x.2.2 + aLate T x.1 w; omega, by show x.2.2 + aLate T x.1 w ≤ 1; omega⟩ (by show aOpn (aTurn T x.1 w) (T 0 2).toNat = k; omega) (by omega) l6 (by rw [List.length_append, hp]; rfl) e12' (k1.fq F3' (fun k h1 h2 => by omega))
        refine ⟨trivial, ⟨r1, i1, trivial⟩, _, rfl, ?_, fun v _ _ => i3, (k3.tr F3).tr (i4.mono (fun a k h => by omega))⟩
        show KR _ (if aFree T x.1 w then dfs T (T 0 2).toNat k (lpN (fun w b => if aFree T x.1 w then dfs T (T 0 2).toNat k b (xT T x w) (pre ++ [w]) else b) w b) (xT T x w) (pre ++ [w]) else lpN (fun w b => if aFree T x.1 w then dfs T (T 0 2).toNat k b (xT T x w) (pre ++ [w]) else b) w b) len
        rw [if_pos c]
        exact i2
      · have g := b2i_0.mpr (fun u => u (mi.mpr (by
          cases hb : (aMask T x.1 (T 0 2).toNat).testBit w with
          | false => rfl
          | true => exact absurd (mb'.mp hb).2 c)) : ¬ ¬ (iI ((aMask T x.1 (T 0 2).toNat : Nat) : Int) >>> (iI (w : Int) &&& 31)) &&& 1 = 0)
        rw [if_pos g, if_pos g]
        refine ⟨trivial, trivial, D, rfl, ?_, fun v hv hf => ?_, k3⟩
        · show KR D (if aFree T x.1 w then dfs T (T 0 2).toNat k (lpN (fun w b => if aFree T x.1 w then dfs T (T 0 2).toNat k b (xT T x w) (pre ++ [w]) else b) w b) (xT T x w) (pre ++ [w]) else lpN (fun w b => if aFree T x.1 w then dfs T (T 0 2).toNat k b (xT T x w) (pre ++ [w]) else b) w b) len
          rw [if_neg c]
          exact k1
        · have : v ≠ w := fun e => c (by rw [← e]; exact hf)
          exact k2 v (by omega) hf
    have key : ∀ w, w ≤ (T 0 2).toNat → ∃ D, l_X2_searchFrom_0_36 (iI ((aMask T x.1 (T 0 2).toNat : Nat) : Int)) (M, 0) w = (D, iI (w : Int)) ∧ KR D (lpN (fun w b => if aFree T x.1 w then dfs T (T 0 2).toNat k b (xT T x w) (pre ++ [w]) else b) w b) len ∧ (∀ v, v < w → aFree T x.1 v → D.1 510 5 = 1) ∧ Fq (fun a j => (a = 510 ∧ 5 ≤ j ∧ j ≤ 9) ∨ (a = 512 ∧ 0 ≤ j ∧ j < 6) ∨ (1040 ≤ a ∧ a ≤ 1099)) M D := by
      intro w
      induction w with
      | zero => intro _; exact ⟨M, rfl, hB, fun v hv => absurd hv (Nat.not_lt_zero v), Fq.rf⟩
      | succ w ih =>
        intro hw
        obtain ⟨D, d1, d2, d3, d4⟩ := ih (by omega)
        obtain ⟨-, -, D', g1, g2⟩ := step w D (by omega) d2 d3 d4
        refine ⟨D', ?_, g2⟩
        show s_X2_searchFrom_0_36 (iI ((aMask T x.1 (T 0 2).toNat : Nat) : Int)) (l_X2_searchFrom_0_36 (iI ((aMask T x.1 (T 0 2).toNat : Nat) : Int)) (M, 0) w) = _
        rw [d1]; exact g1
    obtain ⟨D, d1, d2, d3, d4⟩ := key _ (Nat.le_refl _)
    have w2 : D.1 100 2 = iI (T 0 2) := by rw [d4.1 _ _ (by omega)]; exact hT.1.2.2
    have e : (((T 0 2).toNat : Nat) : Int) = T 0 2 := by omega
    rw [e] at d1
    rw [d1]
    dsimp only
    have gE : D.1 100 2 ≤ iI (T 0 2) := by rw [w2]; exact Int32.le_refl _
    rw [if_pos gE, if_pos gE]
    obtain ⟨v, v1, v2⟩ := free_ex (T := T) (S := x.1) hI (by omega)
    refine ⟨⟨f1, fun k hk => ?_, fun k hk => ?_, ?_, trivial⟩, d2, d3 v v1 v2, d4⟩
    · obtain ⟨E, g1, g2, g3, g4⟩ := key k (by omega)
      rw [g1]
      exact (step k E hk g2 g3 g4).1
    · obtain ⟨E, g1, g2, g3, g4⟩ := key k (by omega)
      rw [g1]
      exact (step k E hk g2 g3 g4).2.1
    · unfold c_X2_searchFrom_0_36
      dsimp only
      rw [if_pos gE]
      exact fun h => h
end P84

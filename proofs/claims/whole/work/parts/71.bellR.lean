/-! the bell: the reference -/
noncomputable def gBell (B : Mm) (i n : Int32) : Mm × Int32 := if ¬ ((wi (w_X8_passes B n) 618 (Int32.toNatClampNeg i) (((w_X8_passes B n).1 618 (Int32.toNatClampNeg i)) - n)).1 618 (Int32.toNatClampNeg i)) = 0 then ((wi (wi (wi (w_X8_passes B n) 618 (Int32.toNatClampNeg i) (((w_X8_passes B n).1 618 (Int32.toNatClampNeg i)) - n)) 607 (Int32.toNatClampNeg ((((wi (w_X8_passes B n) 618 (Int32.toNatClampNeg i) (((w_X8_passes B n).1 618 (Int32.toNatClampNeg i)) - n)).1 600 10) + 9) + i)) 0) 607 (Int32.toNatClampNeg ((((wi (wi (w_X8_passes B n) 618 (Int32.toNatClampNeg i) (((w_X8_passes B n).1 618 (Int32.toNatClampNeg i)) - n)) 607 (Int32.toNatClampNeg ((((wi (w_X8_passes B n) 618 (Int32.toNatClampNeg i) (((w_X8_passes B n).1 618 (Int32.toNatClampNeg i)) - n)).1 600 10) + 9) + i)) 0).1 600 10) + 15) + i)) ((wi (wi (w_X8_passes B n) 618 (Int32.toNatClampNeg i) (((w_X8_passes B n).1 618 (Int32.toNatClampNeg i)) - n)) 607 (Int32.toNatClampNeg ((((wi (w_X8_passes B n) 618 (Int32.toNatClampNeg i) (((w_X8_passes B n).1 618 (Int32.toNatClampNeg i)) - n)).1 600 10) + 9) + i)) 0).1 607 (Int32.toNatClampNeg (((wi (wi (w_X8_passes B n) 618 (Int32.toNatClampNeg i) (((w_X8_passes B n).1 618 (Int32.toNatClampNeg i)) - n)) 607 (Int32.toNatClampNeg ((((wi (w_X8_passes B n) 618 (Int32.toNatClampNeg i) (((w_X8_passes B n).1 618 (Int32.toNatClampNeg i)) - n)).1 600 10) + 9) + i)) 0).1 600 10) + 21)))), i + 1) else ((wi (wi (wi (w_X8_passes B n) 618 (Int32.toNatClampNeg i) (((w_X8_passes B n).1 618 (Int32.toNatClampNeg i)) - n)) 607 (Int32.toNatClampNeg ((((wi (w_X8_passes B n) 618 (Int32.toNatClampNeg i) (((w_X8_passes B n).1 618 (Int32.toNatClampNeg i)) - n)).1 600 10) + 9) + i)) 1) 607 (Int32.toNatClampNeg ((((wi (wi (w_X8_passes B n) 618 (Int32.toNatClampNeg i) (((w_X8_passes B n).1 618 (Int32.toNatClampNeg i)) - n)) 607 (Int32.toNatClampNeg ((((wi (w_X8_passes B n) 618 (Int32.toNatClampNeg i) (((w_X8_passes B n).1 618 (Int32.toNatClampNeg i)) - n)).1 600 10) + 9) + i)) 1).1 600 10) + 15) + i)) ((wi (wi (w_X8_passes B n) 618 (Int32.toNatClampNeg i) (((w_X8_passes B n).1 618 (Int32.toNatClampNeg i)) - n)) 607 (Int32.toNatClampNeg ((((wi (w_X8_passes B n) 618 (Int32.toNatClampNeg i) (((w_X8_passes B n).1 618 (Int32.toNatClampNeg i)) - n)).1 600 10) + 9) + i)) 1).1 607 (Int32.toNatClampNeg (((wi (wi (w_X8_passes B n) 618 (Int32.toNatClampNeg i) (((w_X8_passes B n).1 618 (Int32.toNatClampNeg i)) - n)) 607 (Int32.toNatClampNeg ((((wi (w_X8_passes B n) 618 (Int32.toNatClampNeg i) (((w_X8_passes B n).1 618 (Int32.toNatClampNeg i)) - n)).1 600 10) + 9) + i)) 1).1 600 10) + 21)))), i + 1)
def gBellQ (B : Mm) (i n : Int32) : Prop := (p_X8_passes B n) ∧ (vp_in i 6) ∧ (vp_in i 6) ∧ (vp_in i 6) ∧ (if ¬ ((wi (w_X8_passes B n) 618 (Int32.toNatClampNeg i) (((w_X8_passes B n).1 618 (Int32.toNatClampNeg i)) - n)).1 618 (Int32.toNatClampNeg i)) = 0 then (vp_in ((((wi (w_X8_passes B n) 618 (Int32.toNatClampNeg i) (((w_X8_passes B n).1 618 (Int32.toNatClampNeg i)) - n)).1 600 10) + 9) + i) 44) ∧ (vp_in (((wi (wi (w_X8_passes B n) 618 (Int32.toNatClampNeg i) (((w_X8_passes B n).1 618 (Int32.toNatClampNeg i)) - n)) 607 (Int32.toNatClampNeg ((((wi (w_X8_passes B n) 618 (Int32.toNatClampNeg i) (((w_X8_passes B n).1 618 (Int32.toNatClampNeg i)) - n)).1 600 10) + 9) + i)) 0).1 600 10) + 21) 44) ∧ (vp_in ((((wi (wi (w_X8_passes B n) 618 (Int32.toNatClampNeg i) (((w_X8_passes B n).1 618 (Int32.toNatClampNeg i)) - n)) 607 (Int32.toNatClampNeg ((((wi (w_X8_passes B n) 618 (Int32.toNatClampNeg i) (((w_X8_passes B n).1 618 (Int32.toNatClampNeg i)) - n)).1 600 10) + 9) + i)) 0).1 600 10) + 15) + i) 44) ∧ True else (vp_in ((((wi (w_X8_passes B n) 618 (Int32.toNatClampNeg i) (((w_X8_passes B n).1 618 (Int32.toNatClampNeg i)) - n)).1 600 10) + 9) + i) 44) ∧ (vp_in (((wi (wi (w_X8_passes B n) 618 (Int32.toNatClampNeg i) (((w_X8_passes B n).1 618 (Int32.toNatClampNeg i)) - n)) 607 (Int32.toNatClampNeg ((((wi (w_X8_passes B n) 618 (Int32.toNatClampNeg i) (((w_X8_passes B n).1 618 (Int32.toNatClampNeg i)) - n)).1 600 10) + 9) + i)) 1).1 600 10) + 21) 44) ∧ (vp_in ((((wi (wi (w_X8_passes B n) 618 (Int32.toNatClampNeg i) (((w_X8_passes B n).1 618 (Int32.toNatClampNeg i)) - n)) 607 (Int32.toNatClampNeg ((((wi (w_X8_passes B n) 618 (Int32.toNatClampNeg i) (((w_X8_passes B n).1 618 (Int32.toNatClampNeg i)) - n)).1 600 10) + 9) + i)) 1).1 600 10) + 15) + i) 44) ∧ True)
theorem s80 (a1 : Int32) (σ : Mm × Int32) : s_X8_bell_80 a1 σ = if (σ.1.1 600 2) ≤ σ.2 then σ else if (r_X8_isFree σ.1 σ.2) = 0 then (σ.1, σ.2 + 1) else if (σ.1.1 604 3) ≤ (σ.1.1 618 (Int32.toNatClampNeg σ.2)) then gBell σ.1 σ.2 (σ.1.1 604 3) else gBell σ.1 σ.2 (σ.1.1 618 (Int32.toNatClampNeg σ.2)) := rfl
theorem q80 (a1 : Int32) (σ : Mm × Int32) : q_X8_bell_80 a1 σ = (if (σ.1.1 600 2) ≤ σ.2 then True else (p_X8_isFree σ.1 σ.2) ∧ (if (r_X8_isFree σ.1 σ.2) = 0 then True else (vp_in σ.2 6) ∧ (if (σ.1.1 604 3) ≤ (σ.1.1 618 (Int32.toNatClampNeg σ.2)) then gBellQ σ.1 σ.2 (σ.1.1 604 3) else (vp_in σ.2 6) ∧ gBellQ σ.1 σ.2 (σ.1.1 618 (Int32.toNatClampNeg σ.2))))) := rfl
section P71
variable {M B : Mm} {T S : Tw} {mb C : Int} {p : Bs} {w k : Nat}
theorem r_ring (hT : RT B T) (ha : RA B 22) (hS : RS B 22 T p.1) (hI : InvT T) (hB : BI T C p) (hC : C ≤ 900000) (h18 : ∀ j, j < (T 0 2).toNat → B.1 618 j = iI (p.2 j)) (hk : k < (T 0 2).toNat) (hf : aFree T p.1 k) :
    gBellQ B (iI (k : Int)) (iI (bN T p.2 k)) ∧ ∃ B', gBell B (iI (k : Int)) (iI (bN T p.2 k)) = (B', iI ((k + 1 : Nat) : Int)) ∧ RS B' 22 T (bStep true T p k).1 ∧ (∀ j, j < (T 0 2).toNat → B'.1 618 j = iI ((bStep true T p k).2 j)) ∧ Fq (fun a k => (a = 607 ∧ 22 ≤ k) ∨ a = 618) B B' := by
  have hc := hI.1
  have nk : Int32.toNatClampNeg (iI (k : Int)) = k := natk rfl (by omega)
  have vk : vp_in (iI (k : Int)) 6 := vin_iI (by omega) (by omega) (by omega)
  have nb := bN_b (k := k) hI hB.2.1
  have ndb := hB.nd hC hk
  have m4 := hB.1.2.2.2.2.1
  obtain ⟨a1, a2⟩ := r_passes hT ha hI (m := p.1 4 0) (n := bN T p.2 k) hS.2.2.2.2 m4.1 (by omega) nb.1 (by omega)
  have n9 : Int32.toNatClampNeg (iI 22 + 9 + iI (k : Int)) = 22 + 9 + k := by rw [cl9, iI_add, iI_add]; exact natk (by omega) (by omega)
  have v9 : vp_in (iI 22 + 9 + iI (k : Int)) 44 := by rw [cl9, iI_add, iI_add]; exact vin_iI (by omega) (by omega) (by omega)
  have n15 : Int32.toNatClampNeg (iI 22 + 15 + iI (k : Int)) = 22 + 15 + k := by rw [cl15, iI_add, iI_add]; exact natk (by omega) (by omega)
  have v15 : vp_in (iI 22 + 15 + iI (k : Int)) 44 := by rw [cl15, iI_add, iI_add]; exact vin_iI (by omega) (by omega) (by omega)
  have n21 : Int32.toNatClampNeg (iI 22 + 21) = 22 + 21 := by decide
  have v21 : vp_in (iI 22 + 21) 44 := by rw [cl21, iI_add]; exact vin_iI (by omega) (by omega) (by omega)
  unfold gBellQ gBell
  rw [nk, a2]
  obtain ⟨A1, hA1⟩ : ∃ A1, A1 = wi B 607 (22 + 21) (iI (aAfter (T 3 0) (p.1 4 0) (bN T p.2 k))) := ⟨_, rfl⟩
  rw [← hA1]
  have e1 : A1.1 618 k = iI (p.2 k) := by rw [hA1, rd_ne (Or.inl (by omega))]; exact h18 k hk
  rw [e1, iI_sub]
  obtain ⟨A2, hA2⟩ : ∃ A2, A2 = wi A1 618 k (iI (p.2 k - bN T p.2 k)) := ⟨_, rfl⟩
  rw [← hA2]
  have e2 : A2.1 618 k = iI (p.2 k - bN T p.2 k) := by rw [hA2, rd_same]
  have e10 : A2.1 600 10 = iI 22 := by rw [hA2, rd_ne (Or.inl (by omega)), hA1, rd_ne (Or.inl (by omega))]; exact ha.1
  have e21 : A2.1 607 (22 + 21) = iI (bM T p k) := by rw [hA2, rd_ne (Or.inl (by omega)), hA1, rd_same]; rfl
  have r2 : ∀ j, j ≠ 43 → A2.1 607 j = B.1 607 j := fun j h => by rw [hA2, rd_ne (Or.inl (by omega)), hA1, rd_ne (Or.inr h)]
  have F2 : Fq (fun a k => (a = 607 ∧ 22 ≤ k) ∨ a = 618) B A2 := by rw [hA2, hA1]; exact Fq.wi (Fq.wi Fq.rf (by omega)) (by omega)
  have d18 : ∀ j, j < (T 0 2).toNat → A2.1 618 j = iI ((bStep true T p k).2 j) := fun j hj => by
    rw [bStep_2 hf]
    show _ = iI (if j = k then p.2 k - bN T p.2 k else p.2 j)
    by_cases q : j = k
    · rw [if_pos q, q]; exact e2
    · rw [if_neg q, hA2, rd_ne (Or.inr q), hA1, rd_ne (Or.inl (by omega))]; exact h18 j hj
  rw [e2, e10, n9]
  clear hA1 hA2
  have z : (iI (p.2 k - bN T p.2 k) = 0) ↔ p.2 k - bN T p.2 k = 0 := by rw [cl0, iI_eq (by omega) (by omega) (by omega) (by omega)]
  have done : ∀ v : Int, v = (if p.2 k - bN T p.2 k = 0 then 1 else 0) → RS (wi (wi A2 607 (22 + 9 + k) (iI v)) 607 (22 + 15 + k) (iI (bM T p k))) 22 T (bStep true T p k).1 ∧ (∀ j, j < (T 0 2).toNat → (wi (wi A2 607 (22 + 9 + k) (iI v)) 607 (22 + 15 + k) (iI (bM T p k))).1 618 j = iI ((bStep true T p k).2 j)) ∧ Fq (fun a k => (a = 607 ∧ 22 ≤ k) ∨ a = 618) B (wi (wi A2 607 (22 + 9 + k) (iI v)) 607 (22 + 15 + k) (iI (bM T p k))) := fun v hv => by
    refine ⟨⟨fun x a b => ?_, fun x a b => ?_, fun x a b => ?_, fun x a b => ?_, ?_⟩, fun j hj => ?_, Fq.wi (Fq.wi F2 (by omega)) (by omega)⟩
    · rw [rd_ne (Or.inr (by omega)), rd_ne (Or.inr (by omega)), r2 _ (by omega), bStep_1 hf]
      simp only [show ¬ (0 : Nat) = 4 by omega, show ¬ (0 : Nat) = 2 by omega, show ¬ (0 : Nat) = 3 by omega, false_and, if_false]
      exact hS.1 x a b
    · rw [rd_ne (Or.inr (by omega)), rd_ne (Or.inr (by omega)), r2 _ (by omega), bStep_1 hf]
      simp only [show ¬ (1 : Nat) = 4 by omega, show ¬ (1 : Nat) = 2 by omega, show ¬ (1 : Nat) = 3 by omega, false_and, if_false]
      exact hS.2.1 x a b
    · rw [rd_ne (Or.inr (by omega)), bStep_s2 hf, ← hv]
      by_cases q : x.toNat = k
      · rw [if_pos q, q, rd_same]
      · rw [if_neg q, rd_ne (Or.inr (by omega)), r2 _ (by omega)]; exact hS.2.2.1 x a b
    · rw [bStep_1 hf]
      show _ = iI (if 3 = 4 ∧ x.toNat = 0 then _ else if 3 = 2 ∧ x.toNat = k then _ else if (3 = 3 ∧ x.toNat = k) ∧ (true = true ∨ p.2 k - bN T p.2 k = 0) then bM T p k else p.1 3 x.toNat)
      have g1 : ¬ ((3 : Nat) = 4 ∧ x.toNat = 0) := by omega
      have g2 : ¬ ((3 : Nat) = 2 ∧ x.toNat = k) := by omega
      rw [if_neg g1, if_neg g2]
      by_cases q : x.toNat = k
      · rw [if_pos ⟨⟨rfl, q⟩, Or.inl rfl⟩, q, rd_same]
      · rw [if_neg (fun u => q u.1.2), rd_ne (Or.inr (by omega)), rd_ne (Or.inr (by omega)), r2 _ (by omega)]; exact hS.2.2.2.1 x a b
    · rw [rd_ne (Or.inr (by omega)), rd_ne (Or.inr (by omega)), e21, bStep_1 hf]
      show _ = iI (if 4 = 4 ∧ 0 = 0 then _ else _)
      rw [if_pos ⟨rfl, rfl⟩]
    · rw [rd_ne (Or.inl (by omega)), rd_ne (Or.inl (by omega))]; exact d18 j hj
  have x10 : ∀ v : Int32, (wi A2 607 (22 + 9 + k) v).1 600 10 = iI 22 := fun v => by rw [rd_ne (Or.inl (by omega))]; exact e10
  have x21 : ∀ v : Int32, (wi A2 607 (22 + 9 + k) v).1 607 (22 + 21) = iI (bM T p k) := fun v => by rw [rd_ne (Or.inr (by omega))]; exact e21
  rw [x10, x10, n15, n21, x21, x21, k1_iI]
  by_cases c : p.2 k - bN T p.2 k = 0
  · have g := not_not_intro (z.mpr c)
    rw [if_neg g, if_neg g]
    exact ⟨⟨a1, vk, vk, vk, v9, v21, v15, trivial⟩, _, rfl, done 1 (by rw [if_pos c])⟩
  · have g : ¬ iI (p.2 k - bN T p.2 k) = 0 := fun u => c (z.mp u)
    rw [if_pos g, if_pos g]
    exact ⟨⟨a1, vk, vk, vk, v9, v21, v15, trivial⟩, _, rfl, done 0 (by rw [if_neg c])⟩
theorem r_round (hT : RT B T) (ha : RA B 22) (hS : RS B 22 T p.1) (hI : InvT T) (hB : BI T C p) (hC : C ≤ 900000) (h18 : ∀ j, j < (T 0 2).toNat → B.1 618 j = iI (p.2 j)) (a1 : Int32) :
    (∀ k, k < Int32.toNatClampNeg (B.1 600 2) → c_X8_bell_80 a1 (l_X8_bell_80 a1 (B, 0) k)) ∧ (∀ k, k < Int32.toNatClampNeg (B.1 600 2) → q_X8_bell_80 a1 (l_X8_bell_80 a1 (B, 0) k)) ∧ (¬ c_X8_bell_80 a1 (l_X8_bell_80 a1 (B, 0) (Int32.toNatClampNeg (B.1 600 2)))) ∧
    ∃ B', l_X8_bell_80 a1 (B, 0) (Int32.toNatClampNeg (B.1 600 2)) = (B', iI (T 0 2)) ∧ B'.1 600 2 = iI (T 0 2) ∧ RS B' 22 T (bRnd true T p (T 0 2).toNat).1 ∧ (∀ j, j < (T 0 2).toNat → B'.1 618 j = iI ((bRnd true T p (T 0 2).toNat).2 j)) ∧ Fq (fun a k => (a = 607 ∧ 22 ≤ k) ∨ a = 618) B B' := by
  have hc := hI.1
  have hN : Int32.toNatClampNeg (B.1 600 2) = (T 0 2).toNat := by rw [hT.1.2.2, iI_nat (by omega) (by omega)]
  rw [hN]
  have step : ∀ (k : Nat) (D : Mm), k < (T 0 2).toNat → RS D 22 T (bRnd true T p k).1 → (∀ j, j < (T 0 2).toNat → D.1 618 j = iI ((bRnd true T p k).2 j)) → Fq (fun a k => (a = 607 ∧ 22 ≤ k) ∨ a = 618) B D →
      c_X8_bell_80 a1 (D, iI (k : Int)) ∧ q_X8_bell_80 a1 (D, iI (k : Int)) ∧ ∃ D', s_X8_bell_80 a1 (D, iI (k : Int)) = (D', iI ((k + 1 : Nat) : Int)) ∧ RS D' 22 T (bRnd true T p (k + 1)).1 ∧ (∀ j, j < (T 0 2).toNat → D'.1 618 j = iI ((bRnd true T p (k + 1)).2 j)) ∧ Fq (fun a k => (a = 607 ∧ 22 ≤ k) ∨ a = 618) B D' := by
    intro k D hk k1 k2 k3
    have kT : RT D T := hT.fq k3 (fun a k h => by omega)
    have kA : RA D 22 := ha.fq k3 (by omega)
    have w2 := kT.1.2.2
    have hlt : ¬ D.1 600 2 ≤ iI (k : Int) := by rw [w2, iI_le (by omega) (by omega) (by omega) (by omega)]; omega
    have kB := hB.rnd (r := true) hI k (by omega)
    have nk : Int32.toNatClampNeg (iI (k : Int)) = k := natk rfl (by omega)
    have vk : vp_in (iI (k : Int)) 6 := vin_iI (by omega) (by omega) (by omega)
    obtain ⟨f1, f2⟩ := r_free kT kA k1 hI kB.1 (w := k) (by omega)
    rw [s80, q80]
    unfold c_X8_bell_80
    dsimp only
    rw [if_neg hlt, if_neg hlt, if_neg hlt, f2]
    by_cases c : aFree T (bRnd true T p k).1 k
    · have g : ¬ (if aFree T (bRnd true T p k).1 k then (1 : Int32) else 0) = 0 := by rw [if_pos c]; decide
      rw [if_neg g, if_neg g]
      obtain ⟨y1, D', y2, y3, y4, y5⟩ := r_ring kT kA k1 hI kB hC k2 hk c
      have nb := kB.nd hC hk
      have t3 := hI.2.2.2.1.2.2.2
      have l3 : D.1 604 3 = iI (T 3 3) := kT.2.2.2.1 3 (by omega)
      have l8 := k2 k hk
      rw [nk, l3, l8]
      by_cases d : T 3 3 ≤ (bRnd true T p k).2 k
      · have gd : iI (T 3 3) ≤ iI ((bRnd true T p k).2 k) := by rw [iI_le (by omega) (by omega) (by omega) (by omega)]; exact d
        have e : bN T (bRnd true T p k).2 k = T 3 3 := by unfold bN; rw [if_neg (by omega)]
        rw [if_pos gd, if_pos gd]
        rw [e] at y1 y2
        exact ⟨trivial, ⟨f1, vk, y1⟩, D', y2, y3, y4, k3.tr y5⟩
      · have gd : ¬ iI (T 3 3) ≤ iI ((bRnd true T p k).2 k) := by rw [iI_le (by omega) (by omega) (by omega) (by omega)]; exact d
        have e : bN T (bRnd true T p k).2 k = (bRnd true T p k).2 k := by unfold bN; rw [if_pos (by omega)]
        rw [if_neg gd, if_neg gd]
        rw [e] at y1 y2
        exact ⟨trivial, ⟨f1, vk, vk, y1⟩, D', y2, y3, y4, k3.tr y5⟩
    · have g : (if aFree T (bRnd true T p k).1 k then (1 : Int32) else 0) = 0 := by rw [if_neg c]
      rw [if_pos g, if_pos g, k1_iI]
      refine ⟨trivial, ⟨f1, trivial⟩, D, rfl, ?_, ?_, k3⟩
      · show RS D 22 T (bStep true T (bRnd true T p k) k).1
        rw [bStep_no c]; exact k1
      · show ∀ j, j < (T 0 2).toNat → D.1 618 j = iI ((bStep true T (bRnd true T p k) k).2 j)
        rw [bStep_no c]; exact k2
  have key : ∀ k, k ≤ (T 0 2).toNat → ∃ D, l_X8_bell_80 a1 (B, 0) k = (D, iI (k : Int)) ∧ RS D 22 T (bRnd true T p k).1 ∧ (∀ j, j < (T 0 2).toNat → D.1 618 j = iI ((bRnd true T p k).2 j)) ∧ Fq (fun a k => (a = 607 ∧ 22 ≤ k) ∨ a = 618) B D := by
    intro k
    induction k with
    | zero => intro _; exact ⟨B, rfl, hS, h18, Fq.rf⟩
    | succ k ih =>
      intro hk
      obtain ⟨D, h1, h2, h3, h5⟩ := ih (by omega)
      obtain ⟨-, -, D', g1, g2⟩ := step k D (by omega) h2 h3 h5
      refine ⟨D', ?_, g2⟩
      show s_X8_bell_80 a1 (l_X8_bell_80 a1 (B, 0) k) = _
      rw [h1]; exact g1
  obtain ⟨D, h1, h2, h3, h5⟩ := key _ (Nat.le_refl _)
  have w2 : D.1 600 2 = iI (T 0 2) := by rw [h5.1 _ _ (by omega)]; exact hT.1.2.2
  have e : (((T 0 2).toNat : Nat) : Int) = T 0 2 := by omega
  rw [e] at h1
  refine ⟨fun k hk => ?_, fun k hk => ?_, ?_, D, h1, w2, h2, h3, h5⟩
  · obtain ⟨E, g1, g2, g3, g5⟩ := key k (by omega)
    rw [g1]
    exact (step k E hk g2 g3 g5).1
  · obtain ⟨E, g1, g2, g3, g5⟩ := key k (by omega)
    rw [g1]
    exact (step k E hk g2 g3 g5).2.1
  · rw [h1]
    unfold c_X8_bell_80
    dsimp only
    rw [w2, if_pos (Int32.le_refl _)]
    exact fun h => h
end P71
